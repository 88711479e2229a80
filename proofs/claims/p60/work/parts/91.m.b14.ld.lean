theorem dL_isMerged_419 : decode cL_isMerged 419 = .ok (.lshl, 1) := by decide +kernel
theorem dL_isMerged_420 : decode cL_isMerged 420 = .ok (.lor, 1) := by decide +kernel
theorem dL_isMerged_421 : decode cL_isMerged 421 = .ok (.lastore, 1) := by decide +kernel
theorem dL_isMerged_422 : decode cL_isMerged 422 = .ok (.aload_n 3, 1) := by decide +kernel
theorem dL_isMerged_423 : decode cL_isMerged 423 = .ok (.iload 13, 2) := by decide +kernel
theorem dL_isMerged_425 : decode cL_isMerged 425 = .ok (.dup2, 1) := by decide +kernel
theorem dL_isMerged_426 : decode cL_isMerged 426 = .ok (.iaload, 1) := by decide +kernel
theorem dL_isMerged_427 : decode cL_isMerged 427 = .ok (.aload_n 3, 1) := by decide +kernel
theorem dL_isMerged_428 : decode cL_isMerged 428 = .ok (.aload 6, 2) := by decide +kernel
theorem dL_isMerged_430 : decode cL_isMerged 430 = .ok (.iload 15, 2) := by decide +kernel
theorem dL_isMerged_432 : decode cL_isMerged 432 = .ok (.iaload, 1) := by decide +kernel
theorem dL_isMerged_433 : decode cL_isMerged 433 = .ok (.bipush 16, 2) := by decide +kernel
theorem dL_isMerged_435 : decode cL_isMerged 435 = .ok (.idiv, 1) := by decide +kernel
theorem dL_isMerged_436 : decode cL_isMerged 436 = .ok (.iaload, 1) := by decide +kernel
theorem dL_isMerged_437 : decode cL_isMerged 437 = .ok (.aload 6, 2) := by decide +kernel
theorem dL_isMerged_439 : decode cL_isMerged 439 = .ok (.iload 15, 2) := by decide +kernel
theorem dL_isMerged_441 : decode cL_isMerged 441 = .ok (.iaload, 1) := by decide +kernel
theorem dL_isMerged_442 : decode cL_isMerged 442 = .ok (.bipush 16, 2) := by decide +kernel
theorem dL_isMerged_444 : decode cL_isMerged 444 = .ok (.irem, 1) := by decide +kernel
theorem dL_isMerged_445 : decode cL_isMerged 445 = .ok (.ishr, 1) := by decide +kernel
theorem dL_isMerged_446 : decode cL_isMerged 446 = .ok (.iconst 1, 1) := by decide +kernel
theorem dL_isMerged_447 : decode cL_isMerged 447 = .ok (.iand, 1) := by decide +kernel
theorem dL_isMerged_448 : decode cL_isMerged 448 = .ok (.iload 15, 2) := by decide +kernel
theorem dL_isMerged_450 : decode cL_isMerged 450 = .ok (.ishl, 1) := by decide +kernel
theorem dL_isMerged_451 : decode cL_isMerged 451 = .ok (.ior, 1) := by decide +kernel
theorem dL_isMerged_452 : decode cL_isMerged 452 = .ok (.iastore, 1) := by decide +kernel
theorem dL_isMerged_453 : decode cL_isMerged 453 = .ok (.iinc 15 1, 3) := by decide +kernel
theorem dL_isMerged_456 : decode cL_isMerged 456 = .ok (.goto (-78), 3) := by decide +kernel
theorem dL_isMerged_459 : decode cL_isMerged 459 = .ok (.aload_n 2, 1) := by decide +kernel
theorem dL_isMerged_460 : decode cL_isMerged 460 = .ok (.iload 13, 2) := by decide +kernel
theorem dL_isMerged_462 : decode cL_isMerged 462 = .ok (.aload 10, 2) := by decide +kernel
theorem dL_isMerged_464 : decode cL_isMerged 464 = .ok (.bipush 12, 2) := by decide +kernel
theorem dL_isMerged_466 : decode cL_isMerged 466 = .ok (.iaload, 1) := by decide +kernel
theorem dL_isMerged_467 : decode cL_isMerged 467 = .ok (.iastore, 1) := by decide +kernel
theorem dL_isMerged_468 : decode cL_isMerged 468 = .ok (.aload 4, 2) := by decide +kernel
theorem dL_isMerged_470 : decode cL_isMerged 470 = .ok (.iload 13, 2) := by decide +kernel
theorem dL_isMerged_472 : decode cL_isMerged 472 = .ok (.iconst 1, 1) := by decide +kernel
theorem dL_isMerged_473 : decode cL_isMerged 473 = .ok (.aload 10, 2) := by decide +kernel
theorem dL_isMerged_475 : decode cL_isMerged 475 = .ok (.bipush 12, 2) := by decide +kernel
theorem dL_isMerged_477 : decode cL_isMerged 477 = .ok (.iaload, 1) := by decide +kernel
theorem dL_isMerged_478 : decode cL_isMerged 478 = .ok (.ishl, 1) := by decide +kernel
theorem dL_isMerged_479 : decode cL_isMerged 479 = .ok (.iconst 1, 1) := by decide +kernel
theorem dL_isMerged_480 : decode cL_isMerged 480 = .ok (.isub, 1) := by decide +kernel
theorem dL_isMerged_481 : decode cL_isMerged 481 = .ok (.iastore, 1) := by decide +kernel
theorem dL_isMerged_482 : decode cL_isMerged 482 = .ok (.iload 12, 2) := by decide +kernel
theorem dL_isMerged_484 : decode cL_isMerged 484 = .ok (.iconst 3, 1) := by decide +kernel
theorem dL_isMerged_485 : decode cL_isMerged 485 = .ok (.iadd, 1) := by decide +kernel
theorem dL_isMerged_486 : decode cL_isMerged 486 = .ok (.istore 15, 2) := by decide +kernel
theorem dL_isMerged_488 : decode cL_isMerged 488 = .ok (.iload 15, 2) := by decide +kernel
theorem dL_isMerged_490 : decode cL_isMerged 490 = .ok (.aload 10, 2) := by decide +kernel
theorem dL_isMerged_492 : decode cL_isMerged 492 = .ok (.iconst 3, 1) := by decide +kernel
theorem dL_isMerged_493 : decode cL_isMerged 493 = .ok (.iaload, 1) := by decide +kernel
theorem dL_isMerged_494 : decode cL_isMerged 494 = .ok (.if_icmp .ge 22, 3) := by decide +kernel
theorem dL_isMerged_497 : decode cL_isMerged 497 = .ok (.aload 5, 2) := by decide +kernel
theorem dL_isMerged_499 : decode cL_isMerged 499 = .ok (.iload 15, 2) := by decide +kernel
theorem dL_isMerged_501 : decode cL_isMerged 501 = .ok (.iload 14, 2) := by decide +kernel
theorem dL_isMerged_503 : decode cL_isMerged 503 = .ok (.isub, 1) := by decide +kernel
theorem dL_isMerged_504 : decode cL_isMerged 504 = .ok (.aload 5, 2) := by decide +kernel
theorem dL_isMerged_506 : decode cL_isMerged 506 = .ok (.iload 15, 2) := by decide +kernel
theorem dL_isMerged_508 : decode cL_isMerged 508 = .ok (.iaload, 1) := by decide +kernel
theorem dL_isMerged_509 : decode cL_isMerged 509 = .ok (.iastore, 1) := by decide +kernel
theorem dL_isMerged_510 : decode cL_isMerged 510 = .ok (.iinc 15 1, 3) := by decide +kernel
theorem dL_isMerged_513 : decode cL_isMerged 513 = .ok (.goto (-25), 3) := by decide +kernel
theorem dL_isMerged_516 : decode cL_isMerged 516 = .ok (.aload 10, 2) := by decide +kernel
theorem dL_isMerged_518 : decode cL_isMerged 518 = .ok (.iconst 3, 1) := by decide +kernel
theorem dL_isMerged_519 : decode cL_isMerged 519 = .ok (.dup2, 1) := by decide +kernel
theorem dL_isMerged_520 : decode cL_isMerged 520 = .ok (.iaload, 1) := by decide +kernel
theorem dL_isMerged_521 : decode cL_isMerged 521 = .ok (.iload 14, 2) := by decide +kernel
theorem dL_isMerged_523 : decode cL_isMerged 523 = .ok (.isub, 1) := by decide +kernel
theorem dL_isMerged_524 : decode cL_isMerged 524 = .ok (.iastore, 1) := by decide +kernel
theorem dL_isMerged_525 : decode cL_isMerged 525 = .ok (.iload 14, 2) := by decide +kernel
theorem dL_isMerged_527 : decode cL_isMerged 527 = .ok (.iconst 2, 1) := by decide +kernel
theorem dL_isMerged_528 : decode cL_isMerged 528 = .ok (.if_icmp .ne 18, 3) := by decide +kernel
theorem dL_isMerged_531 : decode cL_isMerged 531 = .ok (.aload 5, 2) := by decide +kernel
theorem dL_isMerged_533 : decode cL_isMerged 533 = .ok (.iload 12, 2) := by decide +kernel
theorem dL_isMerged_535 : decode cL_isMerged 535 = .ok (.iload 13, 2) := by decide +kernel
theorem dL_isMerged_537 : decode cL_isMerged 537 = .ok (.iastore, 1) := by decide +kernel
theorem dL_isMerged_538 : decode cL_isMerged 538 = .ok (.aload 10, 2) := by decide +kernel
theorem dL_isMerged_540 : decode cL_isMerged 540 = .ok (.iconst 2, 1) := by decide +kernel
theorem dL_isMerged_541 : decode cL_isMerged 541 = .ok (.dup2, 1) := by decide +kernel
theorem dL_isMerged_542 : decode cL_isMerged 542 = .ok (.iaload, 1) := by decide +kernel
theorem dL_isMerged_543 : decode cL_isMerged 543 = .ok (.iconst 1, 1) := by decide +kernel
theorem dL_isMerged_544 : decode cL_isMerged 544 = .ok (.iadd, 1) := by decide +kernel
theorem dL_isMerged_545 : decode cL_isMerged 545 = .ok (.iastore, 1) := by decide +kernel
theorem dL_isMerged_546 : decode cL_isMerged 546 = .ok (.aload 10, 2) := by decide +kernel
theorem dL_isMerged_548 : decode cL_isMerged 548 = .ok (.bipush 9, 2) := by decide +kernel
theorem dL_isMerged_550 : decode cL_isMerged 550 = .ok (.iconst 0, 1) := by decide +kernel
theorem dL_isMerged_551 : decode cL_isMerged 551 = .ok (.iastore, 1) := by decide +kernel
theorem dL_isMerged_552 : decode cL_isMerged 552 = .ok (.aload_n 0, 1) := by decide +kernel
theorem dL_isMerged_553 : decode cL_isMerged 553 = .ok (.iconst 2, 1) := by decide +kernel
theorem dL_isMerged_554 : decode cL_isMerged 554 = .ok (.invokestatic 205, 3) := by decide +kernel
theorem dL_isMerged_557 : decode cL_isMerged 557 = .ok (.iconst (-1), 1) := by decide +kernel
theorem dL_isMerged_558 : decode cL_isMerged 558 = .ok (.if_icmp .ne 7, 3) := by decide +kernel
theorem dL_isMerged_561 : decode cL_isMerged 561 = .ok (.iconst 1, 1) := by decide +kernel
theorem dL_isMerged_562 : decode cL_isMerged 562 = .ok (.goto 4, 3) := by decide +kernel
theorem dL_isMerged_565 : decode cL_isMerged 565 = .ok (.iconst 0, 1) := by decide +kernel
theorem dL_isMerged_566 : decode cL_isMerged 566 = .ok (.ireturn, 1) := by decide +kernel
