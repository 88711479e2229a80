theorem dL_find_205 : decode cL_find 205 = .ok (.iastore, 1) := by decide +kernel
theorem dL_find_206 : decode cL_find 206 = .ok (.iconst 0, 1) := by decide +kernel
theorem dL_find_207 : decode cL_find 207 = .ok (.istore 13, 2) := by decide +kernel
theorem dL_find_209 : decode cL_find 209 = .ok (.iload 13, 2) := by decide +kernel
theorem dL_find_211 : decode cL_find 211 = .ok (.aload_n 2, 1) := by decide +kernel
theorem dL_find_212 : decode cL_find 212 = .ok (.iload 11, 2) := by decide +kernel
theorem dL_find_214 : decode cL_find 214 = .ok (.iaload, 1) := by decide +kernel
theorem dL_find_215 : decode cL_find 215 = .ok (.if_icmp .ge 316, 3) := by decide +kernel
theorem dL_find_218 : decode cL_find 218 = .ok (.iload 13, 2) := by decide +kernel
theorem dL_find_220 : decode cL_find 220 = .ok (.iconst 4, 1) := by decide +kernel
theorem dL_find_221 : decode cL_find 221 = .ok (.iadd, 1) := by decide +kernel
theorem dL_find_222 : decode cL_find 222 = .ok (.aload_n 2, 1) := by decide +kernel
theorem dL_find_223 : decode cL_find 223 = .ok (.iload 11, 2) := by decide +kernel
theorem dL_find_225 : decode cL_find 225 = .ok (.iaload, 1) := by decide +kernel
theorem dL_find_226 : decode cL_find 226 = .ok (.if_icmp .ge 10, 3) := by decide +kernel
theorem dL_find_229 : decode cL_find 229 = .ok (.iload 13, 2) := by decide +kernel
theorem dL_find_231 : decode cL_find 231 = .ok (.iconst 4, 1) := by decide +kernel
theorem dL_find_232 : decode cL_find 232 = .ok (.iadd, 1) := by decide +kernel
theorem dL_find_233 : decode cL_find 233 = .ok (.goto 7, 3) := by decide +kernel
theorem dL_find_236 : decode cL_find 236 = .ok (.aload_n 2, 1) := by decide +kernel
theorem dL_find_237 : decode cL_find 237 = .ok (.iload 11, 2) := by decide +kernel
theorem dL_find_239 : decode cL_find 239 = .ok (.iaload, 1) := by decide +kernel
theorem dL_find_240 : decode cL_find 240 = .ok (.istore 14, 2) := by decide +kernel
theorem dL_find_242 : decode cL_find 242 = .ok (.aload 6, 2) := by decide +kernel
theorem dL_find_244 : decode cL_find 244 = .ok (.bipush 14, 2) := by decide +kernel
theorem dL_find_246 : decode cL_find 246 = .ok (.iaload, 1) := by decide +kernel
theorem dL_find_247 : decode cL_find 247 = .ok (.iload 8, 2) := by decide +kernel
theorem dL_find_249 : decode cL_find 249 = .ok (.if_icmp .ne 35, 3) := by decide +kernel
theorem dL_find_252 : decode cL_find 252 = .ok (.aload_n 0, 1) := by decide +kernel
theorem dL_find_253 : decode cL_find 253 = .ok (.aload_n 1, 1) := by decide +kernel
theorem dL_find_254 : decode cL_find 254 = .ok (.iload 11, 2) := by decide +kernel
theorem dL_find_256 : decode cL_find 256 = .ok (.iload 13, 2) := by decide +kernel
theorem dL_find_258 : decode cL_find 258 = .ok (.iload 14, 2) := by decide +kernel
theorem dL_find_260 : decode cL_find 260 = .ok (.iload 7, 2) := by decide +kernel
theorem dL_find_262 : decode cL_find 262 = .ok (.aload 9, 2) := by decide +kernel
theorem dL_find_264 : decode cL_find 264 = .ok (.invokestatic 50, 3) := by decide +kernel
theorem dL_find_267 : decode cL_find 267 = .ok (.aload 5, 2) := by decide +kernel
theorem dL_find_269 : decode cL_find 269 = .ok (.bipush 20, 2) := by decide +kernel
theorem dL_find_271 : decode cL_find 271 = .ok (.iload 8, 2) := by decide +kernel
theorem dL_find_273 : decode cL_find 273 = .ok (.iadd, 1) := by decide +kernel
theorem dL_find_274 : decode cL_find 274 = .ok (.iconst 1, 1) := by decide +kernel
theorem dL_find_275 : decode cL_find 275 = .ok (.isub, 1) := by decide +kernel
theorem dL_find_276 : decode cL_find 276 = .ok (.iaload, 1) := by decide +kernel
theorem dL_find_277 : decode cL_find 277 = .ok (.if_icmp .gt 7, 3) := by decide +kernel
theorem dL_find_280 : decode cL_find 280 = .ok (.iconst 1, 1) := by decide +kernel
theorem dL_find_281 : decode cL_find 281 = .ok (.goto 4, 3) := by decide +kernel
theorem dL_find_284 : decode cL_find 284 = .ok (.iconst 0, 1) := by decide +kernel
theorem dL_find_285 : decode cL_find 285 = .ok (.istore 15, 2) := by decide +kernel
theorem dL_find_287 : decode cL_find 287 = .ok (.aload 6, 2) := by decide +kernel
theorem dL_find_289 : decode cL_find 289 = .ok (.bipush 15, 2) := by decide +kernel
theorem dL_find_291 : decode cL_find 291 = .ok (.dup2, 1) := by decide +kernel
theorem dL_find_292 : decode cL_find 292 = .ok (.iaload, 1) := by decide +kernel
theorem dL_find_293 : decode cL_find 293 = .ok (.iload 15, 2) := by decide +kernel
theorem dL_find_295 : decode cL_find 295 = .ok (.ifCond .eq 7, 3) := by decide +kernel
theorem dL_find_298 : decode cL_find 298 = .ok (.iconst 1, 1) := by decide +kernel
theorem dL_find_299 : decode cL_find 299 = .ok (.goto 4, 3) := by decide +kernel
theorem dL_find_302 : decode cL_find 302 = .ok (.iconst 0, 1) := by decide +kernel
theorem dL_find_303 : decode cL_find 303 = .ok (.iadd, 1) := by decide +kernel
theorem dL_find_304 : decode cL_find 304 = .ok (.iastore, 1) := by decide +kernel
theorem dL_find_305 : decode cL_find 305 = .ok (.iload 13, 2) := by decide +kernel
theorem dL_find_307 : decode cL_find 307 = .ok (.istore 16, 2) := by decide +kernel
theorem dL_find_309 : decode cL_find 309 = .ok (.iload 16, 2) := by decide +kernel
theorem dL_find_311 : decode cL_find 311 = .ok (.iload 14, 2) := by decide +kernel
theorem dL_find_313 : decode cL_find 313 = .ok (.if_icmp .ge 212, 3) := by decide +kernel
theorem dL_find_316 : decode cL_find 316 = .ok (.iload 15, 2) := by decide +kernel
theorem dL_find_318 : decode cL_find 318 = .ok (.ifCond .ne 207, 3) := by decide +kernel
theorem dL_find_321 : decode cL_find 321 = .ok (.aload_n 0, 1) := by decide +kernel
theorem dL_find_322 : decode cL_find 322 = .ok (.aload_n 1, 1) := by decide +kernel
theorem dL_find_323 : decode cL_find 323 = .ok (.iload 11, 2) := by decide +kernel
theorem dL_find_325 : decode cL_find 325 = .ok (.iload 16, 2) := by decide +kernel
theorem dL_find_327 : decode cL_find 327 = .ok (.invokestatic 26, 3) := by decide +kernel
theorem dL_find_330 : decode cL_find 330 = .ok (.laload, 1) := by decide +kernel
theorem dL_find_331 : decode cL_find 331 = .ok (.lstore 17, 2) := by decide +kernel
theorem dL_find_333 : decode cL_find 333 = .ok (.aload_n 3, 1) := by decide +kernel
theorem dL_find_334 : decode cL_find 334 = .ok (.bipush 32, 2) := by decide +kernel
theorem dL_find_336 : decode cL_find 336 = .ok (.iload 11, 2) := by decide +kernel
theorem dL_find_338 : decode cL_find 338 = .ok (.iadd, 1) := by decide +kernel
theorem dL_find_339 : decode cL_find 339 = .ok (.iaload, 1) := by decide +kernel
theorem dL_find_340 : decode cL_find 340 = .ok (.iload 16, 2) := by decide +kernel
theorem dL_find_342 : decode cL_find 342 = .ok (.ishr, 1) := by decide +kernel
theorem dL_find_343 : decode cL_find 343 = .ok (.iconst 1, 1) := by decide +kernel
theorem dL_find_344 : decode cL_find 344 = .ok (.iand, 1) := by decide +kernel
theorem dL_find_345 : decode cL_find 345 = .ok (.iconst 1, 1) := by decide +kernel
theorem dL_find_346 : decode cL_find 346 = .ok (.if_icmp .ne 15, 3) := by decide +kernel
theorem dL_find_349 : decode cL_find 349 = .ok (.lload 17, 2) := by decide +kernel
theorem dL_find_351 : decode cL_find 351 = .ok (.iload 7, 2) := by decide +kernel
theorem dL_find_353 : decode cL_find 353 = .ok (.aload 9, 2) := by decide +kernel
theorem dL_find_355 : decode cL_find 355 = .ok (.invokestatic 54, 3) := by decide +kernel
theorem dL_find_358 : decode cL_find 358 = .ok (.goto 4, 3) := by decide +kernel
theorem dL_find_361 : decode cL_find 361 = .ok (.iconst 0, 1) := by decide +kernel
theorem dL_find_362 : decode cL_find 362 = .ok (.istore 19, 2) := by decide +kernel
theorem dL_find_364 : decode cL_find 364 = .ok (.iload 19, 2) := by decide +kernel
theorem dL_find_366 : decode cL_find 366 = .ok (.ifCond .le 153, 3) := by decide +kernel
theorem dL_find_369 : decode cL_find 369 = .ok (.aload 6, 2) := by decide +kernel
theorem dL_find_371 : decode cL_find 371 = .ok (.bipush 14, 2) := by decide +kernel
theorem dL_find_373 : decode cL_find 373 = .ok (.iaload, 1) := by decide +kernel
theorem dL_find_374 : decode cL_find 374 = .ok (.iload 8, 2) := by decide +kernel
theorem dL_find_376 : decode cL_find 376 = .ok (.if_icmp .lt 18, 3) := by decide +kernel
theorem dL_find_379 : decode cL_find 379 = .ok (.iload 19, 2) := by decide +kernel
theorem dL_find_381 : decode cL_find 381 = .ok (.aload 5, 2) := by decide +kernel
theorem dL_find_383 : decode cL_find 383 = .ok (.bipush 20, 2) := by decide +kernel
theorem dL_find_385 : decode cL_find 385 = .ok (.iload 8, 2) := by decide +kernel
theorem dL_find_387 : decode cL_find 387 = .ok (.iadd, 1) := by decide +kernel
theorem dL_find_388 : decode cL_find 388 = .ok (.iconst 1, 1) := by decide +kernel
theorem dL_find_389 : decode cL_find 389 = .ok (.isub, 1) := by decide +kernel
theorem dL_find_390 : decode cL_find 390 = .ok (.iaload, 1) := by decide +kernel
theorem dL_find_391 : decode cL_find 391 = .ok (.if_icmp .le 128, 3) := by decide +kernel
theorem dL_find_394 : decode cL_find 394 = .ok (.aload 6, 2) := by decide +kernel
theorem dL_find_396 : decode cL_find 396 = .ok (.bipush 14, 2) := by decide +kernel
theorem dL_find_398 : decode cL_find 398 = .ok (.iaload, 1) := by decide +kernel
theorem dL_find_399 : decode cL_find 399 = .ok (.iload 8, 2) := by decide +kernel
theorem dL_find_401 : decode cL_find 401 = .ok (.if_icmp .ge 11, 3) := by decide +kernel
theorem dL_find_404 : decode cL_find 404 = .ok (.aload 6, 2) := by decide +kernel
theorem dL_find_406 : decode cL_find 406 = .ok (.bipush 14, 2) := by decide +kernel
theorem dL_find_408 : decode cL_find 408 = .ok (.iaload, 1) := by decide +kernel
theorem dL_find_409 : decode cL_find 409 = .ok (.goto 7, 3) := by decide +kernel
theorem dL_find_412 : decode cL_find 412 = .ok (.iload 8, 2) := by decide +kernel
theorem dL_find_414 : decode cL_find 414 = .ok (.iconst 1, 1) := by decide +kernel
theorem dL_find_415 : decode cL_find 415 = .ok (.isub, 1) := by decide +kernel
theorem dL_find_416 : decode cL_find 416 = .ok (.istore 20, 2) := by decide +kernel
