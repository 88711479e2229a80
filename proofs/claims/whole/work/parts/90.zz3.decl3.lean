theorem bdL_law_2256 : dAll cL_law [(2256, (.aload_n 1, 1)), (2257, (.aload_n 0, 1)), (2258, (.iload 4, 2)), (2260, (.iconst 1, 1)), (2261, (.iadd, 1)), (2262, (.iaload, 1)), (2263, (.aload_n 3, 1)), (2264, (.invokestatic 317, 3)), (2267, (.istore 5, 2)), (2269, (.aload_n 2, 1)), (2270, (.aload_n 0, 1)), (2271, (.iload 4, 2)), (2273, (.iconst 1, 1)), (2274, (.iadd, 1)), (2275, (.iaload, 1)), (2276, (.invokevirtual 319, 3)), (2279, (.istore 6, 2)), (2281, (.aload_n 2, 1)), (2282, (.invokevirtual 192, 3)), (2285, (.iload 5, 2)), (2287, (.if_icmp .eq 5, 3)), (2292, (.iload 5, 2)), (2294, (.ifCond .ne 15, 3)), (2309, (.goto 1182, 3)), (2312, (.aload_n 1, 1)), (2313, (.aload_n 0, 1)), (2314, (.iload 4, 2)), (2316, (.iconst 1, 1)), (2317, (.iadd, 1)), (2318, (.iaload, 1)), (2319, (.aload_n 3, 1)), (2320, (.invokestatic 320, 3)), (2323, (.istore 5, 2)), (2325, (.aload_n 2, 1)), (2326, (.aload_n 0, 1)), (2327, (.iload 4, 2)), (2329, (.iconst 1, 1)), (2330, (.iadd, 1)), (2331, (.iaload, 1)), (2332, (.invokevirtual 322, 3))] = true := by decide +kernel
theorem dL_law_2256 : decode cL_law 2256 = .ok (.aload_n 1, 1) := dAt bdL_law_2256 0 rfl
theorem dL_law_2257 : decode cL_law 2257 = .ok (.aload_n 0, 1) := dAt bdL_law_2256 1 rfl
theorem dL_law_2258 : decode cL_law 2258 = .ok (.iload 4, 2) := dAt bdL_law_2256 2 rfl
theorem dL_law_2260 : decode cL_law 2260 = .ok (.iconst 1, 1) := dAt bdL_law_2256 3 rfl
theorem dL_law_2261 : decode cL_law 2261 = .ok (.iadd, 1) := dAt bdL_law_2256 4 rfl
theorem dL_law_2262 : decode cL_law 2262 = .ok (.iaload, 1) := dAt bdL_law_2256 5 rfl
theorem dL_law_2263 : decode cL_law 2263 = .ok (.aload_n 3, 1) := dAt bdL_law_2256 6 rfl
theorem dL_law_2264 : decode cL_law 2264 = .ok (.invokestatic 317, 3) := dAt bdL_law_2256 7 rfl
theorem dL_law_2267 : decode cL_law 2267 = .ok (.istore 5, 2) := dAt bdL_law_2256 8 rfl
theorem dL_law_2269 : decode cL_law 2269 = .ok (.aload_n 2, 1) := dAt bdL_law_2256 9 rfl
theorem dL_law_2270 : decode cL_law 2270 = .ok (.aload_n 0, 1) := dAt bdL_law_2256 10 rfl
theorem dL_law_2271 : decode cL_law 2271 = .ok (.iload 4, 2) := dAt bdL_law_2256 11 rfl
theorem dL_law_2273 : decode cL_law 2273 = .ok (.iconst 1, 1) := dAt bdL_law_2256 12 rfl
theorem dL_law_2274 : decode cL_law 2274 = .ok (.iadd, 1) := dAt bdL_law_2256 13 rfl
theorem dL_law_2275 : decode cL_law 2275 = .ok (.iaload, 1) := dAt bdL_law_2256 14 rfl
theorem dL_law_2276 : decode cL_law 2276 = .ok (.invokevirtual 319, 3) := dAt bdL_law_2256 15 rfl
theorem dL_law_2279 : decode cL_law 2279 = .ok (.istore 6, 2) := dAt bdL_law_2256 16 rfl
theorem dL_law_2281 : decode cL_law 2281 = .ok (.aload_n 2, 1) := dAt bdL_law_2256 17 rfl
theorem dL_law_2282 : decode cL_law 2282 = .ok (.invokevirtual 192, 3) := dAt bdL_law_2256 18 rfl
theorem dL_law_2285 : decode cL_law 2285 = .ok (.iload 5, 2) := dAt bdL_law_2256 19 rfl
theorem dL_law_2287 : decode cL_law 2287 = .ok (.if_icmp .eq 5, 3) := dAt bdL_law_2256 20 rfl
theorem dL_law_2292 : decode cL_law 2292 = .ok (.iload 5, 2) := dAt bdL_law_2256 21 rfl
theorem dL_law_2294 : decode cL_law 2294 = .ok (.ifCond .ne 15, 3) := dAt bdL_law_2256 22 rfl
theorem dL_law_2309 : decode cL_law 2309 = .ok (.goto 1182, 3) := dAt bdL_law_2256 23 rfl
theorem dL_law_2312 : decode cL_law 2312 = .ok (.aload_n 1, 1) := dAt bdL_law_2256 24 rfl
theorem dL_law_2313 : decode cL_law 2313 = .ok (.aload_n 0, 1) := dAt bdL_law_2256 25 rfl
theorem dL_law_2314 : decode cL_law 2314 = .ok (.iload 4, 2) := dAt bdL_law_2256 26 rfl
theorem dL_law_2316 : decode cL_law 2316 = .ok (.iconst 1, 1) := dAt bdL_law_2256 27 rfl
theorem dL_law_2317 : decode cL_law 2317 = .ok (.iadd, 1) := dAt bdL_law_2256 28 rfl
theorem dL_law_2318 : decode cL_law 2318 = .ok (.iaload, 1) := dAt bdL_law_2256 29 rfl
theorem dL_law_2319 : decode cL_law 2319 = .ok (.aload_n 3, 1) := dAt bdL_law_2256 30 rfl
theorem dL_law_2320 : decode cL_law 2320 = .ok (.invokestatic 320, 3) := dAt bdL_law_2256 31 rfl
theorem dL_law_2323 : decode cL_law 2323 = .ok (.istore 5, 2) := dAt bdL_law_2256 32 rfl
theorem dL_law_2325 : decode cL_law 2325 = .ok (.aload_n 2, 1) := dAt bdL_law_2256 33 rfl
theorem dL_law_2326 : decode cL_law 2326 = .ok (.aload_n 0, 1) := dAt bdL_law_2256 34 rfl
theorem dL_law_2327 : decode cL_law 2327 = .ok (.iload 4, 2) := dAt bdL_law_2256 35 rfl
theorem dL_law_2329 : decode cL_law 2329 = .ok (.iconst 1, 1) := dAt bdL_law_2256 36 rfl
theorem dL_law_2330 : decode cL_law 2330 = .ok (.iadd, 1) := dAt bdL_law_2256 37 rfl
theorem dL_law_2331 : decode cL_law 2331 = .ok (.iaload, 1) := dAt bdL_law_2256 38 rfl
theorem dL_law_2332 : decode cL_law 2332 = .ok (.invokevirtual 322, 3) := dAt bdL_law_2256 39 rfl
theorem bdL_law_2335 : dAll cL_law [(2335, (.istore 6, 2)), (2337, (.aload_n 2, 1)), (2338, (.invokevirtual 192, 3)), (2341, (.iload 5, 2)), (2343, (.if_icmp .eq 5, 3)), (2348, (.iload 5, 2)), (2350, (.ifCond .ne 15, 3)), (2365, (.goto 1126, 3)), (2368, (.aload_n 1, 1)), (2369, (.aload_n 0, 1)), (2370, (.iload 4, 2)), (2372, (.iconst 1, 1)), (2373, (.iadd, 1)), (2374, (.iaload, 1)), (2375, (.aload_n 0, 1)), (2376, (.iload 4, 2)), (2378, (.iconst 2, 1)), (2379, (.iadd, 1)), (2380, (.iaload, 1)), (2381, (.aload_n 3, 1)), (2382, (.invokestatic 323, 3)), (2385, (.istore 5, 2)), (2387, (.aload_n 2, 1)), (2388, (.aload_n 0, 1)), (2389, (.iload 4, 2)), (2391, (.iconst 1, 1)), (2392, (.iadd, 1)), (2393, (.iaload, 1)), (2394, (.aload_n 0, 1)), (2395, (.iload 4, 2)), (2397, (.iconst 2, 1)), (2398, (.iadd, 1)), (2399, (.iaload, 1)), (2400, (.invokevirtual 325, 3)), (2403, (.istore 6, 2)), (2405, (.aload_n 2, 1)), (2406, (.invokevirtual 192, 3)), (2409, (.iload 5, 2)), (2411, (.if_icmp .eq 5, 3)), (2416, (.iload 5, 2))] = true := by decide +kernel
theorem dL_law_2335 : decode cL_law 2335 = .ok (.istore 6, 2) := dAt bdL_law_2335 0 rfl
theorem dL_law_2337 : decode cL_law 2337 = .ok (.aload_n 2, 1) := dAt bdL_law_2335 1 rfl
theorem dL_law_2338 : decode cL_law 2338 = .ok (.invokevirtual 192, 3) := dAt bdL_law_2335 2 rfl
theorem dL_law_2341 : decode cL_law 2341 = .ok (.iload 5, 2) := dAt bdL_law_2335 3 rfl
theorem dL_law_2343 : decode cL_law 2343 = .ok (.if_icmp .eq 5, 3) := dAt bdL_law_2335 4 rfl
theorem dL_law_2348 : decode cL_law 2348 = .ok (.iload 5, 2) := dAt bdL_law_2335 5 rfl
theorem dL_law_2350 : decode cL_law 2350 = .ok (.ifCond .ne 15, 3) := dAt bdL_law_2335 6 rfl
theorem dL_law_2365 : decode cL_law 2365 = .ok (.goto 1126, 3) := dAt bdL_law_2335 7 rfl
theorem dL_law_2368 : decode cL_law 2368 = .ok (.aload_n 1, 1) := dAt bdL_law_2335 8 rfl
theorem dL_law_2369 : decode cL_law 2369 = .ok (.aload_n 0, 1) := dAt bdL_law_2335 9 rfl
theorem dL_law_2370 : decode cL_law 2370 = .ok (.iload 4, 2) := dAt bdL_law_2335 10 rfl
theorem dL_law_2372 : decode cL_law 2372 = .ok (.iconst 1, 1) := dAt bdL_law_2335 11 rfl
theorem dL_law_2373 : decode cL_law 2373 = .ok (.iadd, 1) := dAt bdL_law_2335 12 rfl
theorem dL_law_2374 : decode cL_law 2374 = .ok (.iaload, 1) := dAt bdL_law_2335 13 rfl
theorem dL_law_2375 : decode cL_law 2375 = .ok (.aload_n 0, 1) := dAt bdL_law_2335 14 rfl
theorem dL_law_2376 : decode cL_law 2376 = .ok (.iload 4, 2) := dAt bdL_law_2335 15 rfl
theorem dL_law_2378 : decode cL_law 2378 = .ok (.iconst 2, 1) := dAt bdL_law_2335 16 rfl
theorem dL_law_2379 : decode cL_law 2379 = .ok (.iadd, 1) := dAt bdL_law_2335 17 rfl
theorem dL_law_2380 : decode cL_law 2380 = .ok (.iaload, 1) := dAt bdL_law_2335 18 rfl
theorem dL_law_2381 : decode cL_law 2381 = .ok (.aload_n 3, 1) := dAt bdL_law_2335 19 rfl
theorem dL_law_2382 : decode cL_law 2382 = .ok (.invokestatic 323, 3) := dAt bdL_law_2335 20 rfl
theorem dL_law_2385 : decode cL_law 2385 = .ok (.istore 5, 2) := dAt bdL_law_2335 21 rfl
theorem dL_law_2387 : decode cL_law 2387 = .ok (.aload_n 2, 1) := dAt bdL_law_2335 22 rfl
theorem dL_law_2388 : decode cL_law 2388 = .ok (.aload_n 0, 1) := dAt bdL_law_2335 23 rfl
theorem dL_law_2389 : decode cL_law 2389 = .ok (.iload 4, 2) := dAt bdL_law_2335 24 rfl
theorem dL_law_2391 : decode cL_law 2391 = .ok (.iconst 1, 1) := dAt bdL_law_2335 25 rfl
theorem dL_law_2392 : decode cL_law 2392 = .ok (.iadd, 1) := dAt bdL_law_2335 26 rfl
theorem dL_law_2393 : decode cL_law 2393 = .ok (.iaload, 1) := dAt bdL_law_2335 27 rfl
theorem dL_law_2394 : decode cL_law 2394 = .ok (.aload_n 0, 1) := dAt bdL_law_2335 28 rfl
theorem dL_law_2395 : decode cL_law 2395 = .ok (.iload 4, 2) := dAt bdL_law_2335 29 rfl
theorem dL_law_2397 : decode cL_law 2397 = .ok (.iconst 2, 1) := dAt bdL_law_2335 30 rfl
theorem dL_law_2398 : decode cL_law 2398 = .ok (.iadd, 1) := dAt bdL_law_2335 31 rfl
theorem dL_law_2399 : decode cL_law 2399 = .ok (.iaload, 1) := dAt bdL_law_2335 32 rfl
theorem dL_law_2400 : decode cL_law 2400 = .ok (.invokevirtual 325, 3) := dAt bdL_law_2335 33 rfl
theorem dL_law_2403 : decode cL_law 2403 = .ok (.istore 6, 2) := dAt bdL_law_2335 34 rfl
theorem dL_law_2405 : decode cL_law 2405 = .ok (.aload_n 2, 1) := dAt bdL_law_2335 35 rfl
theorem dL_law_2406 : decode cL_law 2406 = .ok (.invokevirtual 192, 3) := dAt bdL_law_2335 36 rfl
theorem dL_law_2409 : decode cL_law 2409 = .ok (.iload 5, 2) := dAt bdL_law_2335 37 rfl
theorem dL_law_2411 : decode cL_law 2411 = .ok (.if_icmp .eq 5, 3) := dAt bdL_law_2335 38 rfl
theorem dL_law_2416 : decode cL_law 2416 = .ok (.iload 5, 2) := dAt bdL_law_2335 39 rfl
theorem bdL_law_2418 : dAll cL_law [(2418, (.ifCond .ne 15, 3)), (2433, (.goto 1058, 3)), (2436, (.aload_n 1, 1)), (2437, (.aload_n 0, 1)), (2438, (.iload 4, 2)), (2440, (.iconst 1, 1)), (2441, (.iadd, 1)), (2442, (.iaload, 1)), (2443, (.aload_n 0, 1)), (2444, (.iload 4, 2)), (2446, (.iconst 2, 1)), (2447, (.iadd, 1)), (2448, (.iaload, 1)), (2449, (.aload_n 3, 1)), (2450, (.invokestatic 326, 3)), (2453, (.istore 5, 2)), (2455, (.aload_n 2, 1)), (2456, (.aload_n 0, 1)), (2457, (.iload 4, 2)), (2459, (.iconst 1, 1)), (2460, (.iadd, 1)), (2461, (.iaload, 1)), (2462, (.aload_n 0, 1)), (2463, (.iload 4, 2)), (2465, (.iconst 2, 1)), (2466, (.iadd, 1)), (2467, (.iaload, 1)), (2468, (.invokevirtual 328, 3)), (2471, (.istore 6, 2)), (2473, (.aload_n 2, 1)), (2474, (.invokevirtual 192, 3)), (2477, (.iload 5, 2)), (2479, (.if_icmp .eq 5, 3)), (2484, (.iload 5, 2)), (2486, (.ifCond .ne 15, 3)), (2501, (.goto 990, 3)), (2504, (.aload_n 1, 1)), (2505, (.aload_n 3, 1)), (2506, (.invokestatic 329, 3)), (2509, (.istore 5, 2))] = true := by decide +kernel
theorem dL_law_2418 : decode cL_law 2418 = .ok (.ifCond .ne 15, 3) := dAt bdL_law_2418 0 rfl
theorem dL_law_2433 : decode cL_law 2433 = .ok (.goto 1058, 3) := dAt bdL_law_2418 1 rfl
theorem dL_law_2436 : decode cL_law 2436 = .ok (.aload_n 1, 1) := dAt bdL_law_2418 2 rfl
theorem dL_law_2437 : decode cL_law 2437 = .ok (.aload_n 0, 1) := dAt bdL_law_2418 3 rfl
theorem dL_law_2438 : decode cL_law 2438 = .ok (.iload 4, 2) := dAt bdL_law_2418 4 rfl
theorem dL_law_2440 : decode cL_law 2440 = .ok (.iconst 1, 1) := dAt bdL_law_2418 5 rfl
theorem dL_law_2441 : decode cL_law 2441 = .ok (.iadd, 1) := dAt bdL_law_2418 6 rfl
theorem dL_law_2442 : decode cL_law 2442 = .ok (.iaload, 1) := dAt bdL_law_2418 7 rfl
theorem dL_law_2443 : decode cL_law 2443 = .ok (.aload_n 0, 1) := dAt bdL_law_2418 8 rfl
theorem dL_law_2444 : decode cL_law 2444 = .ok (.iload 4, 2) := dAt bdL_law_2418 9 rfl
theorem dL_law_2446 : decode cL_law 2446 = .ok (.iconst 2, 1) := dAt bdL_law_2418 10 rfl
theorem dL_law_2447 : decode cL_law 2447 = .ok (.iadd, 1) := dAt bdL_law_2418 11 rfl
theorem dL_law_2448 : decode cL_law 2448 = .ok (.iaload, 1) := dAt bdL_law_2418 12 rfl
theorem dL_law_2449 : decode cL_law 2449 = .ok (.aload_n 3, 1) := dAt bdL_law_2418 13 rfl
theorem dL_law_2450 : decode cL_law 2450 = .ok (.invokestatic 326, 3) := dAt bdL_law_2418 14 rfl
theorem dL_law_2453 : decode cL_law 2453 = .ok (.istore 5, 2) := dAt bdL_law_2418 15 rfl
theorem dL_law_2455 : decode cL_law 2455 = .ok (.aload_n 2, 1) := dAt bdL_law_2418 16 rfl
theorem dL_law_2456 : decode cL_law 2456 = .ok (.aload_n 0, 1) := dAt bdL_law_2418 17 rfl
theorem dL_law_2457 : decode cL_law 2457 = .ok (.iload 4, 2) := dAt bdL_law_2418 18 rfl
theorem dL_law_2459 : decode cL_law 2459 = .ok (.iconst 1, 1) := dAt bdL_law_2418 19 rfl
theorem dL_law_2460 : decode cL_law 2460 = .ok (.iadd, 1) := dAt bdL_law_2418 20 rfl
theorem dL_law_2461 : decode cL_law 2461 = .ok (.iaload, 1) := dAt bdL_law_2418 21 rfl
theorem dL_law_2462 : decode cL_law 2462 = .ok (.aload_n 0, 1) := dAt bdL_law_2418 22 rfl
theorem dL_law_2463 : decode cL_law 2463 = .ok (.iload 4, 2) := dAt bdL_law_2418 23 rfl
theorem dL_law_2465 : decode cL_law 2465 = .ok (.iconst 2, 1) := dAt bdL_law_2418 24 rfl
theorem dL_law_2466 : decode cL_law 2466 = .ok (.iadd, 1) := dAt bdL_law_2418 25 rfl
theorem dL_law_2467 : decode cL_law 2467 = .ok (.iaload, 1) := dAt bdL_law_2418 26 rfl
theorem dL_law_2468 : decode cL_law 2468 = .ok (.invokevirtual 328, 3) := dAt bdL_law_2418 27 rfl
theorem dL_law_2471 : decode cL_law 2471 = .ok (.istore 6, 2) := dAt bdL_law_2418 28 rfl
theorem dL_law_2473 : decode cL_law 2473 = .ok (.aload_n 2, 1) := dAt bdL_law_2418 29 rfl
theorem dL_law_2474 : decode cL_law 2474 = .ok (.invokevirtual 192, 3) := dAt bdL_law_2418 30 rfl
theorem dL_law_2477 : decode cL_law 2477 = .ok (.iload 5, 2) := dAt bdL_law_2418 31 rfl
theorem dL_law_2479 : decode cL_law 2479 = .ok (.if_icmp .eq 5, 3) := dAt bdL_law_2418 32 rfl
theorem dL_law_2484 : decode cL_law 2484 = .ok (.iload 5, 2) := dAt bdL_law_2418 33 rfl
theorem dL_law_2486 : decode cL_law 2486 = .ok (.ifCond .ne 15, 3) := dAt bdL_law_2418 34 rfl
theorem dL_law_2501 : decode cL_law 2501 = .ok (.goto 990, 3) := dAt bdL_law_2418 35 rfl
theorem dL_law_2504 : decode cL_law 2504 = .ok (.aload_n 1, 1) := dAt bdL_law_2418 36 rfl
theorem dL_law_2505 : decode cL_law 2505 = .ok (.aload_n 3, 1) := dAt bdL_law_2418 37 rfl
theorem dL_law_2506 : decode cL_law 2506 = .ok (.invokestatic 329, 3) := dAt bdL_law_2418 38 rfl
theorem dL_law_2509 : decode cL_law 2509 = .ok (.istore 5, 2) := dAt bdL_law_2418 39 rfl
theorem bdL_law_2511 : dAll cL_law [(2511, (.aload_n 2, 1)), (2512, (.invokevirtual 331, 3)), (2515, (.istore 6, 2)), (2517, (.aload_n 2, 1)), (2518, (.invokevirtual 192, 3)), (2521, (.iload 5, 2)), (2523, (.if_icmp .eq 5, 3)), (2528, (.iload 5, 2)), (2530, (.ifCond .ne 15, 3)), (2545, (.goto 946, 3)), (2548, (.aload_n 1, 1)), (2549, (.aload_n 3, 1)), (2550, (.invokestatic 332, 3)), (2553, (.istore 5, 2)), (2555, (.aload_n 2, 1)), (2556, (.invokevirtual 334, 3)), (2559, (.istore 6, 2)), (2561, (.aload_n 2, 1)), (2562, (.invokevirtual 192, 3)), (2565, (.iload 5, 2)), (2567, (.if_icmp .eq 5, 3)), (2572, (.iload 5, 2)), (2574, (.ifCond .ne 15, 3)), (2589, (.goto 902, 3)), (2592, (.aload_n 1, 1)), (2593, (.invokevirtual 335, 3)), (2596, (.aload_n 2, 1)), (2597, (.invokevirtual 338, 3)), (2600, (.if_icmp .eq 891, 3)), (2605, (.aload_n 1, 1)), (2606, (.aload_n 0, 1)), (2607, (.iload 4, 2)), (2609, (.iconst 1, 1)), (2610, (.iadd, 1)), (2611, (.iaload, 1)), (2612, (.aload_n 0, 1)), (2613, (.iload 4, 2)), (2615, (.iconst 2, 1)), (2616, (.iadd, 1)), (2617, (.iaload, 1))] = true := by decide +kernel
theorem dL_law_2511 : decode cL_law 2511 = .ok (.aload_n 2, 1) := dAt bdL_law_2511 0 rfl
theorem dL_law_2512 : decode cL_law 2512 = .ok (.invokevirtual 331, 3) := dAt bdL_law_2511 1 rfl
theorem dL_law_2515 : decode cL_law 2515 = .ok (.istore 6, 2) := dAt bdL_law_2511 2 rfl
theorem dL_law_2517 : decode cL_law 2517 = .ok (.aload_n 2, 1) := dAt bdL_law_2511 3 rfl
theorem dL_law_2518 : decode cL_law 2518 = .ok (.invokevirtual 192, 3) := dAt bdL_law_2511 4 rfl
theorem dL_law_2521 : decode cL_law 2521 = .ok (.iload 5, 2) := dAt bdL_law_2511 5 rfl
theorem dL_law_2523 : decode cL_law 2523 = .ok (.if_icmp .eq 5, 3) := dAt bdL_law_2511 6 rfl
theorem dL_law_2528 : decode cL_law 2528 = .ok (.iload 5, 2) := dAt bdL_law_2511 7 rfl
theorem dL_law_2530 : decode cL_law 2530 = .ok (.ifCond .ne 15, 3) := dAt bdL_law_2511 8 rfl
theorem dL_law_2545 : decode cL_law 2545 = .ok (.goto 946, 3) := dAt bdL_law_2511 9 rfl
theorem dL_law_2548 : decode cL_law 2548 = .ok (.aload_n 1, 1) := dAt bdL_law_2511 10 rfl
theorem dL_law_2549 : decode cL_law 2549 = .ok (.aload_n 3, 1) := dAt bdL_law_2511 11 rfl
theorem dL_law_2550 : decode cL_law 2550 = .ok (.invokestatic 332, 3) := dAt bdL_law_2511 12 rfl
theorem dL_law_2553 : decode cL_law 2553 = .ok (.istore 5, 2) := dAt bdL_law_2511 13 rfl
theorem dL_law_2555 : decode cL_law 2555 = .ok (.aload_n 2, 1) := dAt bdL_law_2511 14 rfl
theorem dL_law_2556 : decode cL_law 2556 = .ok (.invokevirtual 334, 3) := dAt bdL_law_2511 15 rfl
theorem dL_law_2559 : decode cL_law 2559 = .ok (.istore 6, 2) := dAt bdL_law_2511 16 rfl
theorem dL_law_2561 : decode cL_law 2561 = .ok (.aload_n 2, 1) := dAt bdL_law_2511 17 rfl
theorem dL_law_2562 : decode cL_law 2562 = .ok (.invokevirtual 192, 3) := dAt bdL_law_2511 18 rfl
theorem dL_law_2565 : decode cL_law 2565 = .ok (.iload 5, 2) := dAt bdL_law_2511 19 rfl
theorem dL_law_2567 : decode cL_law 2567 = .ok (.if_icmp .eq 5, 3) := dAt bdL_law_2511 20 rfl
theorem dL_law_2572 : decode cL_law 2572 = .ok (.iload 5, 2) := dAt bdL_law_2511 21 rfl
theorem dL_law_2574 : decode cL_law 2574 = .ok (.ifCond .ne 15, 3) := dAt bdL_law_2511 22 rfl
theorem dL_law_2589 : decode cL_law 2589 = .ok (.goto 902, 3) := dAt bdL_law_2511 23 rfl
theorem dL_law_2592 : decode cL_law 2592 = .ok (.aload_n 1, 1) := dAt bdL_law_2511 24 rfl
theorem dL_law_2593 : decode cL_law 2593 = .ok (.invokevirtual 335, 3) := dAt bdL_law_2511 25 rfl
theorem dL_law_2596 : decode cL_law 2596 = .ok (.aload_n 2, 1) := dAt bdL_law_2511 26 rfl
theorem dL_law_2597 : decode cL_law 2597 = .ok (.invokevirtual 338, 3) := dAt bdL_law_2511 27 rfl
theorem dL_law_2600 : decode cL_law 2600 = .ok (.if_icmp .eq 891, 3) := dAt bdL_law_2511 28 rfl
theorem dL_law_2605 : decode cL_law 2605 = .ok (.aload_n 1, 1) := dAt bdL_law_2511 29 rfl
theorem dL_law_2606 : decode cL_law 2606 = .ok (.aload_n 0, 1) := dAt bdL_law_2511 30 rfl
theorem dL_law_2607 : decode cL_law 2607 = .ok (.iload 4, 2) := dAt bdL_law_2511 31 rfl
theorem dL_law_2609 : decode cL_law 2609 = .ok (.iconst 1, 1) := dAt bdL_law_2511 32 rfl
theorem dL_law_2610 : decode cL_law 2610 = .ok (.iadd, 1) := dAt bdL_law_2511 33 rfl
theorem dL_law_2611 : decode cL_law 2611 = .ok (.iaload, 1) := dAt bdL_law_2511 34 rfl
theorem dL_law_2612 : decode cL_law 2612 = .ok (.aload_n 0, 1) := dAt bdL_law_2511 35 rfl
theorem dL_law_2613 : decode cL_law 2613 = .ok (.iload 4, 2) := dAt bdL_law_2511 36 rfl
theorem dL_law_2615 : decode cL_law 2615 = .ok (.iconst 2, 1) := dAt bdL_law_2511 37 rfl
theorem dL_law_2616 : decode cL_law 2616 = .ok (.iadd, 1) := dAt bdL_law_2511 38 rfl
theorem dL_law_2617 : decode cL_law 2617 = .ok (.iaload, 1) := dAt bdL_law_2511 39 rfl
theorem bdL_law_2618 : dAll cL_law [(2618, (.aload_n 3, 1)), (2619, (.invokestatic 339, 3)), (2622, (.istore 5, 2)), (2624, (.aload_n 2, 1)), (2625, (.aload_n 0, 1)), (2626, (.iload 4, 2)), (2628, (.iconst 1, 1)), (2629, (.iadd, 1)), (2630, (.iaload, 1)), (2631, (.aload_n 0, 1)), (2632, (.iload 4, 2)), (2634, (.iconst 2, 1)), (2635, (.iadd, 1)), (2636, (.iaload, 1)), (2637, (.invokevirtual 341, 3)), (2640, (.istore 6, 2)), (2642, (.aload_n 2, 1)), (2643, (.invokevirtual 192, 3)), (2646, (.iload 5, 2)), (2648, (.if_icmp .eq 5, 3)), (2653, (.iload 5, 2)), (2655, (.ifCond .ne 15, 3)), (2658, (.aload_n 3, 1)), (2659, (.iconst 0, 1)), (2660, (.laload, 1)), (2661, (.iload 6, 2)), (2663, (.i2l, 1)), (2664, (.lcmp, 1)), (2665, (.ifCond .eq 5, 3)), (2670, (.goto 821, 3)), (2673, (.aload_n 1, 1)), (2674, (.aload_n 0, 1)), (2675, (.iload 4, 2)), (2677, (.iconst 1, 1)), (2678, (.iadd, 1)), (2679, (.iaload, 1)), (2680, (.aload_n 0, 1)), (2681, (.iload 4, 2)), (2683, (.iconst 2, 1)), (2684, (.iadd, 1))] = true := by decide +kernel
theorem dL_law_2618 : decode cL_law 2618 = .ok (.aload_n 3, 1) := dAt bdL_law_2618 0 rfl
theorem dL_law_2619 : decode cL_law 2619 = .ok (.invokestatic 339, 3) := dAt bdL_law_2618 1 rfl
theorem dL_law_2622 : decode cL_law 2622 = .ok (.istore 5, 2) := dAt bdL_law_2618 2 rfl
theorem dL_law_2624 : decode cL_law 2624 = .ok (.aload_n 2, 1) := dAt bdL_law_2618 3 rfl
theorem dL_law_2625 : decode cL_law 2625 = .ok (.aload_n 0, 1) := dAt bdL_law_2618 4 rfl
theorem dL_law_2626 : decode cL_law 2626 = .ok (.iload 4, 2) := dAt bdL_law_2618 5 rfl
theorem dL_law_2628 : decode cL_law 2628 = .ok (.iconst 1, 1) := dAt bdL_law_2618 6 rfl
theorem dL_law_2629 : decode cL_law 2629 = .ok (.iadd, 1) := dAt bdL_law_2618 7 rfl
theorem dL_law_2630 : decode cL_law 2630 = .ok (.iaload, 1) := dAt bdL_law_2618 8 rfl
theorem dL_law_2631 : decode cL_law 2631 = .ok (.aload_n 0, 1) := dAt bdL_law_2618 9 rfl
theorem dL_law_2632 : decode cL_law 2632 = .ok (.iload 4, 2) := dAt bdL_law_2618 10 rfl
theorem dL_law_2634 : decode cL_law 2634 = .ok (.iconst 2, 1) := dAt bdL_law_2618 11 rfl
theorem dL_law_2635 : decode cL_law 2635 = .ok (.iadd, 1) := dAt bdL_law_2618 12 rfl
theorem dL_law_2636 : decode cL_law 2636 = .ok (.iaload, 1) := dAt bdL_law_2618 13 rfl
theorem dL_law_2637 : decode cL_law 2637 = .ok (.invokevirtual 341, 3) := dAt bdL_law_2618 14 rfl
theorem dL_law_2640 : decode cL_law 2640 = .ok (.istore 6, 2) := dAt bdL_law_2618 15 rfl
theorem dL_law_2642 : decode cL_law 2642 = .ok (.aload_n 2, 1) := dAt bdL_law_2618 16 rfl
theorem dL_law_2643 : decode cL_law 2643 = .ok (.invokevirtual 192, 3) := dAt bdL_law_2618 17 rfl
theorem dL_law_2646 : decode cL_law 2646 = .ok (.iload 5, 2) := dAt bdL_law_2618 18 rfl
theorem dL_law_2648 : decode cL_law 2648 = .ok (.if_icmp .eq 5, 3) := dAt bdL_law_2618 19 rfl
theorem dL_law_2653 : decode cL_law 2653 = .ok (.iload 5, 2) := dAt bdL_law_2618 20 rfl
theorem dL_law_2655 : decode cL_law 2655 = .ok (.ifCond .ne 15, 3) := dAt bdL_law_2618 21 rfl
theorem dL_law_2658 : decode cL_law 2658 = .ok (.aload_n 3, 1) := dAt bdL_law_2618 22 rfl
theorem dL_law_2659 : decode cL_law 2659 = .ok (.iconst 0, 1) := dAt bdL_law_2618 23 rfl
theorem dL_law_2660 : decode cL_law 2660 = .ok (.laload, 1) := dAt bdL_law_2618 24 rfl
theorem dL_law_2661 : decode cL_law 2661 = .ok (.iload 6, 2) := dAt bdL_law_2618 25 rfl
theorem dL_law_2663 : decode cL_law 2663 = .ok (.i2l, 1) := dAt bdL_law_2618 26 rfl
theorem dL_law_2664 : decode cL_law 2664 = .ok (.lcmp, 1) := dAt bdL_law_2618 27 rfl
theorem dL_law_2665 : decode cL_law 2665 = .ok (.ifCond .eq 5, 3) := dAt bdL_law_2618 28 rfl
theorem dL_law_2670 : decode cL_law 2670 = .ok (.goto 821, 3) := dAt bdL_law_2618 29 rfl
theorem dL_law_2673 : decode cL_law 2673 = .ok (.aload_n 1, 1) := dAt bdL_law_2618 30 rfl
theorem dL_law_2674 : decode cL_law 2674 = .ok (.aload_n 0, 1) := dAt bdL_law_2618 31 rfl
theorem dL_law_2675 : decode cL_law 2675 = .ok (.iload 4, 2) := dAt bdL_law_2618 32 rfl
theorem dL_law_2677 : decode cL_law 2677 = .ok (.iconst 1, 1) := dAt bdL_law_2618 33 rfl
theorem dL_law_2678 : decode cL_law 2678 = .ok (.iadd, 1) := dAt bdL_law_2618 34 rfl
theorem dL_law_2679 : decode cL_law 2679 = .ok (.iaload, 1) := dAt bdL_law_2618 35 rfl
theorem dL_law_2680 : decode cL_law 2680 = .ok (.aload_n 0, 1) := dAt bdL_law_2618 36 rfl
theorem dL_law_2681 : decode cL_law 2681 = .ok (.iload 4, 2) := dAt bdL_law_2618 37 rfl
theorem dL_law_2683 : decode cL_law 2683 = .ok (.iconst 2, 1) := dAt bdL_law_2618 38 rfl
theorem dL_law_2684 : decode cL_law 2684 = .ok (.iadd, 1) := dAt bdL_law_2618 39 rfl
theorem bdL_law_2685 : dAll cL_law [(2685, (.iaload, 1)), (2686, (.aload_n 0, 1)), (2687, (.iload 4, 2)), (2689, (.iconst 3, 1)), (2690, (.iadd, 1)), (2691, (.iaload, 1)), (2692, (.aload_n 3, 1)), (2693, (.invokestatic 342, 3)), (2696, (.istore 5, 2)), (2698, (.aload_n 2, 1)), (2699, (.aload_n 0, 1)), (2700, (.iload 4, 2)), (2702, (.iconst 1, 1)), (2703, (.iadd, 1)), (2704, (.iaload, 1)), (2705, (.aload_n 0, 1)), (2706, (.iload 4, 2)), (2708, (.iconst 2, 1)), (2709, (.iadd, 1)), (2710, (.iaload, 1)), (2711, (.aload_n 0, 1)), (2712, (.iload 4, 2)), (2714, (.iconst 3, 1)), (2715, (.iadd, 1)), (2716, (.iaload, 1)), (2717, (.invokevirtual 344, 3)), (2720, (.istore 6, 2)), (2722, (.aload_n 2, 1)), (2723, (.invokevirtual 192, 3)), (2726, (.iload 5, 2)), (2728, (.if_icmp .eq 5, 3)), (2733, (.iload 5, 2)), (2735, (.ifCond .ne 15, 3)), (2750, (.goto 741, 3)), (2753, (.aload_n 1, 1)), (2754, (.aload_n 0, 1)), (2755, (.iload 4, 2)), (2757, (.iconst 1, 1)), (2758, (.iadd, 1)), (2759, (.iaload, 1))] = true := by decide +kernel
theorem dL_law_2685 : decode cL_law 2685 = .ok (.iaload, 1) := dAt bdL_law_2685 0 rfl
theorem dL_law_2686 : decode cL_law 2686 = .ok (.aload_n 0, 1) := dAt bdL_law_2685 1 rfl
theorem dL_law_2687 : decode cL_law 2687 = .ok (.iload 4, 2) := dAt bdL_law_2685 2 rfl
theorem dL_law_2689 : decode cL_law 2689 = .ok (.iconst 3, 1) := dAt bdL_law_2685 3 rfl
theorem dL_law_2690 : decode cL_law 2690 = .ok (.iadd, 1) := dAt bdL_law_2685 4 rfl
theorem dL_law_2691 : decode cL_law 2691 = .ok (.iaload, 1) := dAt bdL_law_2685 5 rfl
theorem dL_law_2692 : decode cL_law 2692 = .ok (.aload_n 3, 1) := dAt bdL_law_2685 6 rfl
theorem dL_law_2693 : decode cL_law 2693 = .ok (.invokestatic 342, 3) := dAt bdL_law_2685 7 rfl
theorem dL_law_2696 : decode cL_law 2696 = .ok (.istore 5, 2) := dAt bdL_law_2685 8 rfl
theorem dL_law_2698 : decode cL_law 2698 = .ok (.aload_n 2, 1) := dAt bdL_law_2685 9 rfl
theorem dL_law_2699 : decode cL_law 2699 = .ok (.aload_n 0, 1) := dAt bdL_law_2685 10 rfl
theorem dL_law_2700 : decode cL_law 2700 = .ok (.iload 4, 2) := dAt bdL_law_2685 11 rfl
theorem dL_law_2702 : decode cL_law 2702 = .ok (.iconst 1, 1) := dAt bdL_law_2685 12 rfl
theorem dL_law_2703 : decode cL_law 2703 = .ok (.iadd, 1) := dAt bdL_law_2685 13 rfl
theorem dL_law_2704 : decode cL_law 2704 = .ok (.iaload, 1) := dAt bdL_law_2685 14 rfl
theorem dL_law_2705 : decode cL_law 2705 = .ok (.aload_n 0, 1) := dAt bdL_law_2685 15 rfl
theorem dL_law_2706 : decode cL_law 2706 = .ok (.iload 4, 2) := dAt bdL_law_2685 16 rfl
theorem dL_law_2708 : decode cL_law 2708 = .ok (.iconst 2, 1) := dAt bdL_law_2685 17 rfl
theorem dL_law_2709 : decode cL_law 2709 = .ok (.iadd, 1) := dAt bdL_law_2685 18 rfl
theorem dL_law_2710 : decode cL_law 2710 = .ok (.iaload, 1) := dAt bdL_law_2685 19 rfl
theorem dL_law_2711 : decode cL_law 2711 = .ok (.aload_n 0, 1) := dAt bdL_law_2685 20 rfl
theorem dL_law_2712 : decode cL_law 2712 = .ok (.iload 4, 2) := dAt bdL_law_2685 21 rfl
theorem dL_law_2714 : decode cL_law 2714 = .ok (.iconst 3, 1) := dAt bdL_law_2685 22 rfl
theorem dL_law_2715 : decode cL_law 2715 = .ok (.iadd, 1) := dAt bdL_law_2685 23 rfl
theorem dL_law_2716 : decode cL_law 2716 = .ok (.iaload, 1) := dAt bdL_law_2685 24 rfl
theorem dL_law_2717 : decode cL_law 2717 = .ok (.invokevirtual 344, 3) := dAt bdL_law_2685 25 rfl
theorem dL_law_2720 : decode cL_law 2720 = .ok (.istore 6, 2) := dAt bdL_law_2685 26 rfl
theorem dL_law_2722 : decode cL_law 2722 = .ok (.aload_n 2, 1) := dAt bdL_law_2685 27 rfl
theorem dL_law_2723 : decode cL_law 2723 = .ok (.invokevirtual 192, 3) := dAt bdL_law_2685 28 rfl
theorem dL_law_2726 : decode cL_law 2726 = .ok (.iload 5, 2) := dAt bdL_law_2685 29 rfl
theorem dL_law_2728 : decode cL_law 2728 = .ok (.if_icmp .eq 5, 3) := dAt bdL_law_2685 30 rfl
theorem dL_law_2733 : decode cL_law 2733 = .ok (.iload 5, 2) := dAt bdL_law_2685 31 rfl
theorem dL_law_2735 : decode cL_law 2735 = .ok (.ifCond .ne 15, 3) := dAt bdL_law_2685 32 rfl
theorem dL_law_2750 : decode cL_law 2750 = .ok (.goto 741, 3) := dAt bdL_law_2685 33 rfl
theorem dL_law_2753 : decode cL_law 2753 = .ok (.aload_n 1, 1) := dAt bdL_law_2685 34 rfl
theorem dL_law_2754 : decode cL_law 2754 = .ok (.aload_n 0, 1) := dAt bdL_law_2685 35 rfl
theorem dL_law_2755 : decode cL_law 2755 = .ok (.iload 4, 2) := dAt bdL_law_2685 36 rfl
theorem dL_law_2757 : decode cL_law 2757 = .ok (.iconst 1, 1) := dAt bdL_law_2685 37 rfl
theorem dL_law_2758 : decode cL_law 2758 = .ok (.iadd, 1) := dAt bdL_law_2685 38 rfl
theorem dL_law_2759 : decode cL_law 2759 = .ok (.iaload, 1) := dAt bdL_law_2685 39 rfl
theorem bdL_law_2760 : dAll cL_law [(2760, (.aload_n 3, 1)), (2761, (.invokestatic 345, 3)), (2764, (.istore 5, 2)), (2766, (.aload_n 2, 1)), (2767, (.aload_n 0, 1)), (2768, (.iload 4, 2)), (2770, (.iconst 1, 1)), (2771, (.iadd, 1)), (2772, (.iaload, 1)), (2773, (.invokevirtual 347, 3)), (2776, (.istore 6, 2)), (2778, (.aload_n 2, 1)), (2779, (.invokevirtual 192, 3)), (2782, (.iload 5, 2)), (2784, (.if_icmp .eq 5, 3)), (2789, (.iload 5, 2)), (2791, (.ifCond .ne 15, 3)), (2806, (.goto 685, 3)), (2809, (.aload_n 1, 1)), (2810, (.aload_n 0, 1)), (2811, (.iload 4, 2)), (2813, (.iconst 1, 1)), (2814, (.iadd, 1)), (2815, (.iaload, 1)), (2816, (.aload_n 3, 1)), (2817, (.invokestatic 348, 3)), (2820, (.istore 5, 2)), (2822, (.aload_n 2, 1)), (2823, (.aload_n 0, 1)), (2824, (.iload 4, 2)), (2826, (.iconst 1, 1)), (2827, (.iadd, 1)), (2828, (.iaload, 1)), (2829, (.invokevirtual 350, 3)), (2832, (.istore 6, 2)), (2834, (.aload_n 2, 1)), (2835, (.invokevirtual 192, 3)), (2838, (.iload 5, 2)), (2840, (.if_icmp .eq 5, 3)), (2845, (.iload 5, 2))] = true := by decide +kernel
theorem dL_law_2760 : decode cL_law 2760 = .ok (.aload_n 3, 1) := dAt bdL_law_2760 0 rfl
theorem dL_law_2761 : decode cL_law 2761 = .ok (.invokestatic 345, 3) := dAt bdL_law_2760 1 rfl
theorem dL_law_2764 : decode cL_law 2764 = .ok (.istore 5, 2) := dAt bdL_law_2760 2 rfl
theorem dL_law_2766 : decode cL_law 2766 = .ok (.aload_n 2, 1) := dAt bdL_law_2760 3 rfl
theorem dL_law_2767 : decode cL_law 2767 = .ok (.aload_n 0, 1) := dAt bdL_law_2760 4 rfl
theorem dL_law_2768 : decode cL_law 2768 = .ok (.iload 4, 2) := dAt bdL_law_2760 5 rfl
theorem dL_law_2770 : decode cL_law 2770 = .ok (.iconst 1, 1) := dAt bdL_law_2760 6 rfl
theorem dL_law_2771 : decode cL_law 2771 = .ok (.iadd, 1) := dAt bdL_law_2760 7 rfl
theorem dL_law_2772 : decode cL_law 2772 = .ok (.iaload, 1) := dAt bdL_law_2760 8 rfl
theorem dL_law_2773 : decode cL_law 2773 = .ok (.invokevirtual 347, 3) := dAt bdL_law_2760 9 rfl
theorem dL_law_2776 : decode cL_law 2776 = .ok (.istore 6, 2) := dAt bdL_law_2760 10 rfl
theorem dL_law_2778 : decode cL_law 2778 = .ok (.aload_n 2, 1) := dAt bdL_law_2760 11 rfl
theorem dL_law_2779 : decode cL_law 2779 = .ok (.invokevirtual 192, 3) := dAt bdL_law_2760 12 rfl
theorem dL_law_2782 : decode cL_law 2782 = .ok (.iload 5, 2) := dAt bdL_law_2760 13 rfl
theorem dL_law_2784 : decode cL_law 2784 = .ok (.if_icmp .eq 5, 3) := dAt bdL_law_2760 14 rfl
theorem dL_law_2789 : decode cL_law 2789 = .ok (.iload 5, 2) := dAt bdL_law_2760 15 rfl
theorem dL_law_2791 : decode cL_law 2791 = .ok (.ifCond .ne 15, 3) := dAt bdL_law_2760 16 rfl
theorem dL_law_2806 : decode cL_law 2806 = .ok (.goto 685, 3) := dAt bdL_law_2760 17 rfl
theorem dL_law_2809 : decode cL_law 2809 = .ok (.aload_n 1, 1) := dAt bdL_law_2760 18 rfl
theorem dL_law_2810 : decode cL_law 2810 = .ok (.aload_n 0, 1) := dAt bdL_law_2760 19 rfl
theorem dL_law_2811 : decode cL_law 2811 = .ok (.iload 4, 2) := dAt bdL_law_2760 20 rfl
theorem dL_law_2813 : decode cL_law 2813 = .ok (.iconst 1, 1) := dAt bdL_law_2760 21 rfl
theorem dL_law_2814 : decode cL_law 2814 = .ok (.iadd, 1) := dAt bdL_law_2760 22 rfl
theorem dL_law_2815 : decode cL_law 2815 = .ok (.iaload, 1) := dAt bdL_law_2760 23 rfl
theorem dL_law_2816 : decode cL_law 2816 = .ok (.aload_n 3, 1) := dAt bdL_law_2760 24 rfl
theorem dL_law_2817 : decode cL_law 2817 = .ok (.invokestatic 348, 3) := dAt bdL_law_2760 25 rfl
theorem dL_law_2820 : decode cL_law 2820 = .ok (.istore 5, 2) := dAt bdL_law_2760 26 rfl
theorem dL_law_2822 : decode cL_law 2822 = .ok (.aload_n 2, 1) := dAt bdL_law_2760 27 rfl
theorem dL_law_2823 : decode cL_law 2823 = .ok (.aload_n 0, 1) := dAt bdL_law_2760 28 rfl
theorem dL_law_2824 : decode cL_law 2824 = .ok (.iload 4, 2) := dAt bdL_law_2760 29 rfl
theorem dL_law_2826 : decode cL_law 2826 = .ok (.iconst 1, 1) := dAt bdL_law_2760 30 rfl
theorem dL_law_2827 : decode cL_law 2827 = .ok (.iadd, 1) := dAt bdL_law_2760 31 rfl
theorem dL_law_2828 : decode cL_law 2828 = .ok (.iaload, 1) := dAt bdL_law_2760 32 rfl
theorem dL_law_2829 : decode cL_law 2829 = .ok (.invokevirtual 350, 3) := dAt bdL_law_2760 33 rfl
theorem dL_law_2832 : decode cL_law 2832 = .ok (.istore 6, 2) := dAt bdL_law_2760 34 rfl
theorem dL_law_2834 : decode cL_law 2834 = .ok (.aload_n 2, 1) := dAt bdL_law_2760 35 rfl
theorem dL_law_2835 : decode cL_law 2835 = .ok (.invokevirtual 192, 3) := dAt bdL_law_2760 36 rfl
theorem dL_law_2838 : decode cL_law 2838 = .ok (.iload 5, 2) := dAt bdL_law_2760 37 rfl
theorem dL_law_2840 : decode cL_law 2840 = .ok (.if_icmp .eq 5, 3) := dAt bdL_law_2760 38 rfl
theorem dL_law_2845 : decode cL_law 2845 = .ok (.iload 5, 2) := dAt bdL_law_2760 39 rfl
theorem bdL_law_2847 : dAll cL_law [(2847, (.ifCond .ne 15, 3)), (2862, (.goto 629, 3)), (2865, (.aload_n 1, 1)), (2866, (.invokevirtual 351, 3)), (2869, (.aload_n 2, 1)), (2870, (.invokevirtual 354, 3)), (2873, (.if_icmp .eq 618, 3)), (2878, (.aload_n 1, 1)), (2879, (.invokevirtual 355, 3)), (2882, (.aload_n 2, 1)), (2883, (.invokevirtual 358, 3)), (2886, (.if_icmp .eq 605, 3)), (2891, (.aload_n 1, 1)), (2892, (.aload_n 0, 1)), (2893, (.iload 4, 2)), (2895, (.iconst 1, 1)), (2896, (.iadd, 1)), (2897, (.iaload, 1)), (2898, (.aload_n 0, 1)), (2899, (.iload 4, 2)), (2901, (.iconst 2, 1)), (2902, (.iadd, 1)), (2903, (.iaload, 1)), (2904, (.aload_n 0, 1)), (2905, (.iload 4, 2)), (2907, (.iconst 3, 1)), (2908, (.iadd, 1)), (2909, (.iaload, 1)), (2910, (.aload_n 3, 1)), (2911, (.invokestatic 359, 3)), (2914, (.istore 5, 2)), (2916, (.aload_n 2, 1)), (2917, (.aload_n 0, 1)), (2918, (.iload 4, 2)), (2920, (.iconst 1, 1)), (2921, (.iadd, 1)), (2922, (.iaload, 1)), (2923, (.aload_n 0, 1)), (2924, (.iload 4, 2)), (2926, (.iconst 2, 1))] = true := by decide +kernel
theorem dL_law_2847 : decode cL_law 2847 = .ok (.ifCond .ne 15, 3) := dAt bdL_law_2847 0 rfl
theorem dL_law_2862 : decode cL_law 2862 = .ok (.goto 629, 3) := dAt bdL_law_2847 1 rfl
theorem dL_law_2865 : decode cL_law 2865 = .ok (.aload_n 1, 1) := dAt bdL_law_2847 2 rfl
theorem dL_law_2866 : decode cL_law 2866 = .ok (.invokevirtual 351, 3) := dAt bdL_law_2847 3 rfl
theorem dL_law_2869 : decode cL_law 2869 = .ok (.aload_n 2, 1) := dAt bdL_law_2847 4 rfl
theorem dL_law_2870 : decode cL_law 2870 = .ok (.invokevirtual 354, 3) := dAt bdL_law_2847 5 rfl
theorem dL_law_2873 : decode cL_law 2873 = .ok (.if_icmp .eq 618, 3) := dAt bdL_law_2847 6 rfl
theorem dL_law_2878 : decode cL_law 2878 = .ok (.aload_n 1, 1) := dAt bdL_law_2847 7 rfl
theorem dL_law_2879 : decode cL_law 2879 = .ok (.invokevirtual 355, 3) := dAt bdL_law_2847 8 rfl
theorem dL_law_2882 : decode cL_law 2882 = .ok (.aload_n 2, 1) := dAt bdL_law_2847 9 rfl
theorem dL_law_2883 : decode cL_law 2883 = .ok (.invokevirtual 358, 3) := dAt bdL_law_2847 10 rfl
theorem dL_law_2886 : decode cL_law 2886 = .ok (.if_icmp .eq 605, 3) := dAt bdL_law_2847 11 rfl
theorem dL_law_2891 : decode cL_law 2891 = .ok (.aload_n 1, 1) := dAt bdL_law_2847 12 rfl
theorem dL_law_2892 : decode cL_law 2892 = .ok (.aload_n 0, 1) := dAt bdL_law_2847 13 rfl
theorem dL_law_2893 : decode cL_law 2893 = .ok (.iload 4, 2) := dAt bdL_law_2847 14 rfl
theorem dL_law_2895 : decode cL_law 2895 = .ok (.iconst 1, 1) := dAt bdL_law_2847 15 rfl
theorem dL_law_2896 : decode cL_law 2896 = .ok (.iadd, 1) := dAt bdL_law_2847 16 rfl
theorem dL_law_2897 : decode cL_law 2897 = .ok (.iaload, 1) := dAt bdL_law_2847 17 rfl
theorem dL_law_2898 : decode cL_law 2898 = .ok (.aload_n 0, 1) := dAt bdL_law_2847 18 rfl
theorem dL_law_2899 : decode cL_law 2899 = .ok (.iload 4, 2) := dAt bdL_law_2847 19 rfl
theorem dL_law_2901 : decode cL_law 2901 = .ok (.iconst 2, 1) := dAt bdL_law_2847 20 rfl
theorem dL_law_2902 : decode cL_law 2902 = .ok (.iadd, 1) := dAt bdL_law_2847 21 rfl
theorem dL_law_2903 : decode cL_law 2903 = .ok (.iaload, 1) := dAt bdL_law_2847 22 rfl
theorem dL_law_2904 : decode cL_law 2904 = .ok (.aload_n 0, 1) := dAt bdL_law_2847 23 rfl
theorem dL_law_2905 : decode cL_law 2905 = .ok (.iload 4, 2) := dAt bdL_law_2847 24 rfl
theorem dL_law_2907 : decode cL_law 2907 = .ok (.iconst 3, 1) := dAt bdL_law_2847 25 rfl
theorem dL_law_2908 : decode cL_law 2908 = .ok (.iadd, 1) := dAt bdL_law_2847 26 rfl
theorem dL_law_2909 : decode cL_law 2909 = .ok (.iaload, 1) := dAt bdL_law_2847 27 rfl
theorem dL_law_2910 : decode cL_law 2910 = .ok (.aload_n 3, 1) := dAt bdL_law_2847 28 rfl
theorem dL_law_2911 : decode cL_law 2911 = .ok (.invokestatic 359, 3) := dAt bdL_law_2847 29 rfl
theorem dL_law_2914 : decode cL_law 2914 = .ok (.istore 5, 2) := dAt bdL_law_2847 30 rfl
theorem dL_law_2916 : decode cL_law 2916 = .ok (.aload_n 2, 1) := dAt bdL_law_2847 31 rfl
theorem dL_law_2917 : decode cL_law 2917 = .ok (.aload_n 0, 1) := dAt bdL_law_2847 32 rfl
theorem dL_law_2918 : decode cL_law 2918 = .ok (.iload 4, 2) := dAt bdL_law_2847 33 rfl
theorem dL_law_2920 : decode cL_law 2920 = .ok (.iconst 1, 1) := dAt bdL_law_2847 34 rfl
theorem dL_law_2921 : decode cL_law 2921 = .ok (.iadd, 1) := dAt bdL_law_2847 35 rfl
theorem dL_law_2922 : decode cL_law 2922 = .ok (.iaload, 1) := dAt bdL_law_2847 36 rfl
theorem dL_law_2923 : decode cL_law 2923 = .ok (.aload_n 0, 1) := dAt bdL_law_2847 37 rfl
theorem dL_law_2924 : decode cL_law 2924 = .ok (.iload 4, 2) := dAt bdL_law_2847 38 rfl
theorem dL_law_2926 : decode cL_law 2926 = .ok (.iconst 2, 1) := dAt bdL_law_2847 39 rfl
