theorem dL_isPlain_436 : decode cL_isPlain 436 = .ok (.invokevirtual 191, 3) := by decide +kernel
theorem dL_isPlain_439 : decode cL_isPlain 439 = .ok (.iload 15, 2) := by decide +kernel
theorem dL_isPlain_441 : decode cL_isPlain 441 = .ok (.if_icmp .ne 49, 3) := by decide +kernel
theorem dL_isPlain_444 : decode cL_isPlain 444 = .ok (.aload_n 0, 1) := by decide +kernel
theorem dL_isPlain_445 : decode cL_isPlain 445 = .ok (.aload 4, 2) := by decide +kernel
theorem dL_isPlain_447 : decode cL_isPlain 447 = .ok (.iconst 0, 1) := by decide +kernel
theorem dL_isPlain_448 : decode cL_isPlain 448 = .ok (.iaload, 1) := by decide +kernel
theorem dL_isPlain_449 : decode cL_isPlain 449 = .ok (.iconst 1, 1) := by decide +kernel
theorem dL_isPlain_450 : decode cL_isPlain 450 = .ok (.isub, 1) := by decide +kernel
theorem dL_isPlain_451 : decode cL_isPlain 451 = .ok (.iload 7, 2) := by decide +kernel
theorem dL_isPlain_453 : decode cL_isPlain 453 = .ok (.iload 8, 2) := by decide +kernel
theorem dL_isPlain_455 : decode cL_isPlain 455 = .ok (.iconst 0, 1) := by decide +kernel
theorem dL_isPlain_456 : decode cL_isPlain 456 = .ok (.invokevirtual 195, 3) := by decide +kernel
theorem dL_isPlain_459 : decode cL_isPlain 459 = .ok (.ifCond .gt 27, 3) := by decide +kernel
theorem dL_isPlain_462 : decode cL_isPlain 462 = .ok (.iload 13, 2) := by decide +kernel
theorem dL_isPlain_464 : decode cL_isPlain 464 = .ok (.ifCond .lt 22, 3) := by decide +kernel
theorem dL_isPlain_467 : decode cL_isPlain 467 = .ok (.iload 7, 2) := by decide +kernel
theorem dL_isPlain_469 : decode cL_isPlain 469 = .ok (.iconst 1, 1) := by decide +kernel
theorem dL_isPlain_470 : decode cL_isPlain 470 = .ok (.if_icmp .eq 16, 3) := by decide +kernel
theorem dL_isPlain_473 : decode cL_isPlain 473 = .ok (.iload 7, 2) := by decide +kernel
theorem dL_isPlain_475 : decode cL_isPlain 475 = .ok (.iconst 5, 1) := by decide +kernel
theorem dL_isPlain_476 : decode cL_isPlain 476 = .ok (.if_icmp .eq 10, 3) := by decide +kernel
theorem dL_isPlain_479 : decode cL_isPlain 479 = .ok (.iload 7, 2) := by decide +kernel
theorem dL_isPlain_481 : decode cL_isPlain 481 = .ok (.bipush 7, 2) := by decide +kernel
theorem dL_isPlain_483 : decode cL_isPlain 483 = .ok (.if_icmp .ne 7, 3) := by decide +kernel
theorem dL_isPlain_486 : decode cL_isPlain 486 = .ok (.iconst 1, 1) := by decide +kernel
theorem dL_isPlain_487 : decode cL_isPlain 487 = .ok (.goto 4, 3) := by decide +kernel
theorem dL_isPlain_490 : decode cL_isPlain 490 = .ok (.iconst 0, 1) := by decide +kernel
theorem dL_isPlain_491 : decode cL_isPlain 491 = .ok (.ireturn, 1) := by decide +kernel
