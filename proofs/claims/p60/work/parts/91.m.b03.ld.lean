theorem dL_find_418 : decode cL_find 418 = .ok (.iload 20, 2) := by decide +kernel
theorem dL_find_420 : decode cL_find 420 = .ok (.ifCond .le 54, 3) := by decide +kernel
theorem dL_find_423 : decode cL_find 423 = .ok (.aload 5, 2) := by decide +kernel
theorem dL_find_425 : decode cL_find 425 = .ok (.bipush 20, 2) := by decide +kernel
theorem dL_find_427 : decode cL_find 427 = .ok (.iload 20, 2) := by decide +kernel
theorem dL_find_429 : decode cL_find 429 = .ok (.iadd, 1) := by decide +kernel
theorem dL_find_430 : decode cL_find 430 = .ok (.iconst 1, 1) := by decide +kernel
theorem dL_find_431 : decode cL_find 431 = .ok (.isub, 1) := by decide +kernel
theorem dL_find_432 : decode cL_find 432 = .ok (.iaload, 1) := by decide +kernel
theorem dL_find_433 : decode cL_find 433 = .ok (.iload 19, 2) := by decide +kernel
theorem dL_find_435 : decode cL_find 435 = .ok (.if_icmp .ge 39, 3) := by decide +kernel
theorem dL_find_438 : decode cL_find 438 = .ok (.aload 5, 2) := by decide +kernel
theorem dL_find_440 : decode cL_find 440 = .ok (.iload 20, 2) := by decide +kernel
theorem dL_find_442 : decode cL_find 442 = .ok (.aload 5, 2) := by decide +kernel
theorem dL_find_444 : decode cL_find 444 = .ok (.iload 20, 2) := by decide +kernel
theorem dL_find_446 : decode cL_find 446 = .ok (.iconst 1, 1) := by decide +kernel
theorem dL_find_447 : decode cL_find 447 = .ok (.isub, 1) := by decide +kernel
theorem dL_find_448 : decode cL_find 448 = .ok (.iaload, 1) := by decide +kernel
theorem dL_find_449 : decode cL_find 449 = .ok (.iastore, 1) := by decide +kernel
theorem dL_find_450 : decode cL_find 450 = .ok (.aload 5, 2) := by decide +kernel
theorem dL_find_452 : decode cL_find 452 = .ok (.bipush 20, 2) := by decide +kernel
theorem dL_find_454 : decode cL_find 454 = .ok (.iload 20, 2) := by decide +kernel
theorem dL_find_456 : decode cL_find 456 = .ok (.iadd, 1) := by decide +kernel
theorem dL_find_457 : decode cL_find 457 = .ok (.aload 5, 2) := by decide +kernel
theorem dL_find_459 : decode cL_find 459 = .ok (.bipush 20, 2) := by decide +kernel
theorem dL_find_461 : decode cL_find 461 = .ok (.iload 20, 2) := by decide +kernel
theorem dL_find_463 : decode cL_find 463 = .ok (.iadd, 1) := by decide +kernel
theorem dL_find_464 : decode cL_find 464 = .ok (.iconst 1, 1) := by decide +kernel
theorem dL_find_465 : decode cL_find 465 = .ok (.isub, 1) := by decide +kernel
theorem dL_find_466 : decode cL_find 466 = .ok (.iaload, 1) := by decide +kernel
theorem dL_find_467 : decode cL_find 467 = .ok (.iastore, 1) := by decide +kernel
theorem dL_find_468 : decode cL_find 468 = .ok (.iinc 20 (-1), 3) := by decide +kernel
theorem dL_find_471 : decode cL_find 471 = .ok (.goto (-53), 3) := by decide +kernel
theorem dL_find_474 : decode cL_find 474 = .ok (.aload 5, 2) := by decide +kernel
theorem dL_find_476 : decode cL_find 476 = .ok (.iload 20, 2) := by decide +kernel
theorem dL_find_478 : decode cL_find 478 = .ok (.lload 17, 2) := by decide +kernel
theorem dL_find_480 : decode cL_find 480 = .ok (.ldc2_w 9, 3) := by decide +kernel
theorem dL_find_483 : decode cL_find 483 = .ok (.land, 1) := by decide +kernel
theorem dL_find_484 : decode cL_find 484 = .ok (.l2i, 1) := by decide +kernel
theorem dL_find_485 : decode cL_find 485 = .ok (.iastore, 1) := by decide +kernel
theorem dL_find_486 : decode cL_find 486 = .ok (.aload 5, 2) := by decide +kernel
theorem dL_find_488 : decode cL_find 488 = .ok (.bipush 20, 2) := by decide +kernel
theorem dL_find_490 : decode cL_find 490 = .ok (.iload 20, 2) := by decide +kernel
theorem dL_find_492 : decode cL_find 492 = .ok (.iadd, 1) := by decide +kernel
theorem dL_find_493 : decode cL_find 493 = .ok (.iload 19, 2) := by decide +kernel
theorem dL_find_495 : decode cL_find 495 = .ok (.iastore, 1) := by decide +kernel
theorem dL_find_496 : decode cL_find 496 = .ok (.aload 6, 2) := by decide +kernel
theorem dL_find_498 : decode cL_find 498 = .ok (.bipush 14, 2) := by decide +kernel
theorem dL_find_500 : decode cL_find 500 = .ok (.dup2, 1) := by decide +kernel
theorem dL_find_501 : decode cL_find 501 = .ok (.iaload, 1) := by decide +kernel
theorem dL_find_502 : decode cL_find 502 = .ok (.aload 6, 2) := by decide +kernel
theorem dL_find_504 : decode cL_find 504 = .ok (.bipush 14, 2) := by decide +kernel
theorem dL_find_506 : decode cL_find 506 = .ok (.iaload, 1) := by decide +kernel
theorem dL_find_507 : decode cL_find 507 = .ok (.iload 8, 2) := by decide +kernel
theorem dL_find_509 : decode cL_find 509 = .ok (.if_icmp .ge 7, 3) := by decide +kernel
theorem dL_find_512 : decode cL_find 512 = .ok (.iconst 1, 1) := by decide +kernel
theorem dL_find_513 : decode cL_find 513 = .ok (.goto 4, 3) := by decide +kernel
theorem dL_find_516 : decode cL_find 516 = .ok (.iconst 0, 1) := by decide +kernel
theorem dL_find_517 : decode cL_find 517 = .ok (.iadd, 1) := by decide +kernel
theorem dL_find_518 : decode cL_find 518 = .ok (.iastore, 1) := by decide +kernel
theorem dL_find_519 : decode cL_find 519 = .ok (.iinc 16 1, 3) := by decide +kernel
theorem dL_find_522 : decode cL_find 522 = .ok (.goto (-213), 3) := by decide +kernel
theorem dL_find_525 : decode cL_find 525 = .ok (.iinc 13 4, 3) := by decide +kernel
theorem dL_find_528 : decode cL_find 528 = .ok (.goto (-319), 3) := by decide +kernel
theorem dL_find_531 : decode cL_find 531 = .ok (.iinc 10 1, 3) := by decide +kernel
theorem dL_find_534 : decode cL_find 534 = .ok (.goto (-498), 3) := by decide +kernel
theorem dL_find_537 : decode cL_find 537 = .ok (.return_, 1) := by decide +kernel
