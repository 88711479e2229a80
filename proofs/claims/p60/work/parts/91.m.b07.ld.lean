theorem dL_isReady_437 : decode cL_isReady 437 = .ok (.aload_n 0, 1) := by decide +kernel
theorem dL_isReady_438 : decode cL_isReady 438 = .ok (.iconst 0, 1) := by decide +kernel
theorem dL_isReady_439 : decode cL_isReady 439 = .ok (.invokevirtual 128, 3) := by decide +kernel
theorem dL_isReady_442 : decode cL_isReady 442 = .ok (.iconst 1, 1) := by decide +kernel
theorem dL_isReady_443 : decode cL_isReady 443 = .ok (.if_icmp .ne 7, 3) := by decide +kernel
theorem dL_isReady_446 : decode cL_isReady 446 = .ok (.iconst 1, 1) := by decide +kernel
theorem dL_isReady_447 : decode cL_isReady 447 = .ok (.goto 4, 3) := by decide +kernel
theorem dL_isReady_450 : decode cL_isReady 450 = .ok (.iconst 0, 1) := by decide +kernel
theorem dL_isReady_451 : decode cL_isReady 451 = .ok (.istore_n 1, 1) := by decide +kernel
theorem dL_isReady_452 : decode cL_isReady 452 = .ok (.aload_n 0, 1) := by decide +kernel
theorem dL_isReady_453 : decode cL_isReady 453 = .ok (.bipush 6, 2) := by decide +kernel
theorem dL_isReady_455 : decode cL_isReady 455 = .ok (.invokestatic 118, 3) := by decide +kernel
theorem dL_isReady_458 : decode cL_isReady 458 = .ok (.iload_n 1, 1) := by decide +kernel
theorem dL_isReady_459 : decode cL_isReady 459 = .ok (.ifCond .eq 26, 3) := by decide +kernel
theorem dL_isReady_462 : decode cL_isReady 462 = .ok (.aload_n 0, 1) := by decide +kernel
theorem dL_isReady_463 : decode cL_isReady 463 = .ok (.iconst 0, 1) := by decide +kernel
theorem dL_isReady_464 : decode cL_isReady 464 = .ok (.invokevirtual 128, 3) := by decide +kernel
theorem dL_isReady_467 : decode cL_isReady 467 = .ok (.iconst 2, 1) := by decide +kernel
theorem dL_isReady_468 : decode cL_isReady 468 = .ok (.if_icmp .ne 17, 3) := by decide +kernel
theorem dL_isReady_471 : decode cL_isReady 471 = .ok (.aload_n 0, 1) := by decide +kernel
theorem dL_isReady_472 : decode cL_isReady 472 = .ok (.iconst 2, 1) := by decide +kernel
theorem dL_isReady_473 : decode cL_isReady 473 = .ok (.iconst 2, 1) := by decide +kernel
theorem dL_isReady_474 : decode cL_isReady 474 = .ok (.invokevirtual 151, 3) := by decide +kernel
theorem dL_isReady_477 : decode cL_isReady 477 = .ok (.iconst 1, 1) := by decide +kernel
theorem dL_isReady_478 : decode cL_isReady 478 = .ok (.if_icmp .ne 7, 3) := by decide +kernel
theorem dL_isReady_481 : decode cL_isReady 481 = .ok (.iconst 1, 1) := by decide +kernel
theorem dL_isReady_482 : decode cL_isReady 482 = .ok (.goto 4, 3) := by decide +kernel
theorem dL_isReady_485 : decode cL_isReady 485 = .ok (.iconst 0, 1) := by decide +kernel
theorem dL_isReady_486 : decode cL_isReady 486 = .ok (.istore_n 1, 1) := by decide +kernel
theorem dL_isReady_487 : decode cL_isReady 487 = .ok (.aload_n 0, 1) := by decide +kernel
theorem dL_isReady_488 : decode cL_isReady 488 = .ok (.iconst 4, 1) := by decide +kernel
theorem dL_isReady_489 : decode cL_isReady 489 = .ok (.invokestatic 118, 3) := by decide +kernel
theorem dL_isReady_492 : decode cL_isReady 492 = .ok (.iload_n 1, 1) := by decide +kernel
theorem dL_isReady_493 : decode cL_isReady 493 = .ok (.ifCond .eq 33, 3) := by decide +kernel
theorem dL_isReady_496 : decode cL_isReady 496 = .ok (.aload_n 0, 1) := by decide +kernel
theorem dL_isReady_497 : decode cL_isReady 497 = .ok (.iconst 1, 1) := by decide +kernel
theorem dL_isReady_498 : decode cL_isReady 498 = .ok (.invokevirtual 128, 3) := by decide +kernel
theorem dL_isReady_501 : decode cL_isReady 501 = .ok (.iconst 2, 1) := by decide +kernel
theorem dL_isReady_502 : decode cL_isReady 502 = .ok (.if_icmp .ne 24, 3) := by decide +kernel
theorem dL_isReady_505 : decode cL_isReady 505 = .ok (.aload_n 0, 1) := by decide +kernel
theorem dL_isReady_506 : decode cL_isReady 506 = .ok (.invokevirtual 154, 3) := by decide +kernel
theorem dL_isReady_509 : decode cL_isReady 509 = .ok (.iconst 1, 1) := by decide +kernel
theorem dL_isReady_510 : decode cL_isReady 510 = .ok (.if_icmp .ne 16, 3) := by decide +kernel
theorem dL_isReady_513 : decode cL_isReady 513 = .ok (.aload_n 0, 1) := by decide +kernel
theorem dL_isReady_514 : decode cL_isReady 514 = .ok (.invokevirtual 131, 3) := by decide +kernel
theorem dL_isReady_517 : decode cL_isReady 517 = .ok (.bipush 8, 2) := by decide +kernel
theorem dL_isReady_519 : decode cL_isReady 519 = .ok (.if_icmp .ne 7, 3) := by decide +kernel
theorem dL_isReady_522 : decode cL_isReady 522 = .ok (.iconst 1, 1) := by decide +kernel
theorem dL_isReady_523 : decode cL_isReady 523 = .ok (.goto 4, 3) := by decide +kernel
theorem dL_isReady_526 : decode cL_isReady 526 = .ok (.iconst 0, 1) := by decide +kernel
theorem dL_isReady_527 : decode cL_isReady 527 = .ok (.ireturn, 1) := by decide +kernel
