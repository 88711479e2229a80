theorem dL_holds_467 : decode cL_holds 467 = .ok (.iload 22, 2) := by decide +kernel
theorem dL_holds_469 : decode cL_holds 469 = .ok (.ifCond .eq 66, 3) := by decide +kernel
theorem dL_holds_472 : decode cL_holds 472 = .ok (.aload_n 1, 1) := by decide +kernel
theorem dL_holds_473 : decode cL_holds 473 = .ok (.aload_n 2, 1) := by decide +kernel
theorem dL_holds_474 : decode cL_holds 474 = .ok (.aload_n 3, 1) := by decide +kernel
theorem dL_holds_475 : decode cL_holds 475 = .ok (.aload 4, 2) := by decide +kernel
theorem dL_holds_477 : decode cL_holds 477 = .ok (.aload 5, 2) := by decide +kernel
theorem dL_holds_479 : decode cL_holds 479 = .ok (.aload 6, 2) := by decide +kernel
theorem dL_holds_481 : decode cL_holds 481 = .ok (.aload 7, 2) := by decide +kernel
theorem dL_holds_483 : decode cL_holds 483 = .ok (.aload 8, 2) := by decide +kernel
theorem dL_holds_485 : decode cL_holds 485 = .ok (.aload 9, 2) := by decide +kernel
theorem dL_holds_487 : decode cL_holds 487 = .ok (.aload 10, 2) := by decide +kernel
theorem dL_holds_489 : decode cL_holds 489 = .ok (.aload 11, 2) := by decide +kernel
theorem dL_holds_491 : decode cL_holds 491 = .ok (.aload 12, 2) := by decide +kernel
theorem dL_holds_493 : decode cL_holds 493 = .ok (.aload 17, 2) := by decide +kernel
theorem dL_holds_495 : decode cL_holds 495 = .ok (.aload 16, 2) := by decide +kernel
theorem dL_holds_497 : decode cL_holds 497 = .ok (.iload 21, 2) := by decide +kernel
theorem dL_holds_499 : decode cL_holds 499 = .ok (.bipush 23, 2) := by decide +kernel
theorem dL_holds_501 : decode cL_holds 501 = .ok (.if_icmp .ge 7, 3) := by decide +kernel
theorem dL_holds_504 : decode cL_holds 504 = .ok (.iconst 0, 1) := by decide +kernel
theorem dL_holds_505 : decode cL_holds 505 = .ok (.goto 22, 3) := by decide +kernel
theorem dL_holds_508 : decode cL_holds 508 = .ok (.iload 21, 2) := by decide +kernel
theorem dL_holds_510 : decode cL_holds 510 = .ok (.bipush 24, 2) := by decide +kernel
theorem dL_holds_512 : decode cL_holds 512 = .ok (.if_icmp .ne 14, 3) := by decide +kernel
theorem dL_holds_515 : decode cL_holds 515 = .ok (.iload 20, 2) := by decide +kernel
theorem dL_holds_517 : decode cL_holds 517 = .ok (.iconst 3, 1) := by decide +kernel
theorem dL_holds_518 : decode cL_holds 518 = .ok (.irem, 1) := by decide +kernel
theorem dL_holds_519 : decode cL_holds 519 = .ok (.ifCond .ne 7, 3) := by decide +kernel
theorem dL_holds_522 : decode cL_holds 522 = .ok (.iconst 2, 1) := by decide +kernel
theorem dL_holds_523 : decode cL_holds 523 = .ok (.goto 4, 3) := by decide +kernel
theorem dL_holds_526 : decode cL_holds 526 = .ok (.iconst 1, 1) := by decide +kernel
theorem dL_holds_527 : decode cL_holds 527 = .ok (.invokestatic 285, 3) := by decide +kernel
theorem dL_holds_530 : decode cL_holds 530 = .ok (.istore 18, 2) := by decide +kernel
theorem dL_holds_532 : decode cL_holds 532 = .ok (.goto 264, 3) := by decide +kernel
theorem dL_holds_535 : decode cL_holds 535 = .ok (.iload 21, 2) := by decide +kernel
theorem dL_holds_537 : decode cL_holds 537 = .ok (.bipush 25, 2) := by decide +kernel
theorem dL_holds_539 : decode cL_holds 539 = .ok (.if_icmp .ne 32, 3) := by decide +kernel
theorem dL_holds_542 : decode cL_holds 542 = .ok (.aload 17, 2) := by decide +kernel
theorem dL_holds_544 : decode cL_holds 544 = .ok (.bipush 6, 2) := by decide +kernel
theorem dL_holds_546 : decode cL_holds 546 = .ok (.iaload, 1) := by decide +kernel
theorem dL_holds_547 : decode cL_holds 547 = .ok (.ifCond .ne 24, 3) := by decide +kernel
theorem dL_holds_550 : decode cL_holds 550 = .ok (.aload 17, 2) := by decide +kernel
theorem dL_holds_552 : decode cL_holds 552 = .ok (.iconst 5, 1) := by decide +kernel
theorem dL_holds_553 : decode cL_holds 553 = .ok (.iload 20, 2) := by decide +kernel
theorem dL_holds_555 : decode cL_holds 555 = .ok (.bipush 7, 2) := by decide +kernel
theorem dL_holds_557 : decode cL_holds 557 = .ok (.irem, 1) := by decide +kernel
theorem dL_holds_558 : decode cL_holds 558 = .ok (.iastore, 1) := by decide +kernel
theorem dL_holds_559 : decode cL_holds 559 = .ok (.aload_n 1, 1) := by decide +kernel
theorem dL_holds_560 : decode cL_holds 560 = .ok (.iload 20, 2) := by decide +kernel
theorem dL_holds_562 : decode cL_holds 562 = .ok (.bipush 7, 2) := by decide +kernel
theorem dL_holds_564 : decode cL_holds 564 = .ok (.irem, 1) := by decide +kernel
theorem dL_holds_565 : decode cL_holds 565 = .ok (.invokevirtual 289, 3) := by decide +kernel
theorem dL_holds_568 : decode cL_holds 568 = .ok (.goto 228, 3) := by decide +kernel
theorem dL_holds_571 : decode cL_holds 571 = .ok (.iload 21, 2) := by decide +kernel
theorem dL_holds_573 : decode cL_holds 573 = .ok (.bipush 26, 2) := by decide +kernel
theorem dL_holds_575 : decode cL_holds 575 = .ok (.if_icmp .eq 12, 3) := by decide +kernel
theorem dL_holds_578 : decode cL_holds 578 = .ok (.aload 17, 2) := by decide +kernel
theorem dL_holds_580 : decode cL_holds 580 = .ok (.bipush 6, 2) := by decide +kernel
theorem dL_holds_582 : decode cL_holds 582 = .ok (.iaload, 1) := by decide +kernel
theorem dL_holds_583 : decode cL_holds 583 = .ok (.iconst 1, 1) := by decide +kernel
theorem dL_holds_584 : decode cL_holds 584 = .ok (.if_icmp .ne 22, 3) := by decide +kernel
theorem dL_holds_587 : decode cL_holds 587 = .ok (.aload_n 1, 1) := by decide +kernel
theorem dL_holds_588 : decode cL_holds 588 = .ok (.aload 6, 2) := by decide +kernel
theorem dL_holds_590 : decode cL_holds 590 = .ok (.aload 7, 2) := by decide +kernel
theorem dL_holds_592 : decode cL_holds 592 = .ok (.aload 8, 2) := by decide +kernel
theorem dL_holds_594 : decode cL_holds 594 = .ok (.aload 9, 2) := by decide +kernel
theorem dL_holds_596 : decode cL_holds 596 = .ok (.aload 17, 2) := by decide +kernel
theorem dL_holds_598 : decode cL_holds 598 = .ok (.invokestatic 293, 3) := by decide +kernel
theorem dL_holds_601 : decode cL_holds 601 = .ok (.istore 18, 2) := by decide +kernel
theorem dL_holds_603 : decode cL_holds 603 = .ok (.goto 193, 3) := by decide +kernel
theorem dL_holds_606 : decode cL_holds 606 = .ok (.iload 21, 2) := by decide +kernel
theorem dL_holds_608 : decode cL_holds 608 = .ok (.bipush 29, 2) := by decide +kernel
theorem dL_holds_610 : decode cL_holds 610 = .ok (.if_icmp .ge 38, 3) := by decide +kernel
theorem dL_holds_613 : decode cL_holds 613 = .ok (.aload_n 1, 1) := by decide +kernel
theorem dL_holds_614 : decode cL_holds 614 = .ok (.aload 6, 2) := by decide +kernel
theorem dL_holds_616 : decode cL_holds 616 = .ok (.aload 8, 2) := by decide +kernel
theorem dL_holds_618 : decode cL_holds 618 = .ok (.aload 9, 2) := by decide +kernel
theorem dL_holds_620 : decode cL_holds 620 = .ok (.iload 20, 2) := by decide +kernel
theorem dL_holds_622 : decode cL_holds 622 = .ok (.iconst 2, 1) := by decide +kernel
theorem dL_holds_623 : decode cL_holds 623 = .ok (.irem, 1) := by decide +kernel
theorem dL_holds_624 : decode cL_holds 624 = .ok (.ifCond .ne 8, 3) := by decide +kernel
theorem dL_holds_627 : decode cL_holds 627 = .ok (.aload 11, 2) := by decide +kernel
theorem dL_holds_629 : decode cL_holds 629 = .ok (.goto 5, 3) := by decide +kernel
theorem dL_holds_632 : decode cL_holds 632 = .ok (.aload 12, 2) := by decide +kernel
theorem dL_holds_634 : decode cL_holds 634 = .ok (.aload 17, 2) := by decide +kernel
theorem dL_holds_636 : decode cL_holds 636 = .ok (.iload 20, 2) := by decide +kernel
theorem dL_holds_638 : decode cL_holds 638 = .ok (.iconst 2, 1) := by decide +kernel
theorem dL_holds_639 : decode cL_holds 639 = .ok (.idiv, 1) := by decide +kernel
theorem dL_holds_640 : decode cL_holds 640 = .ok (.invokestatic 297, 3) := by decide +kernel
theorem dL_holds_643 : decode cL_holds 643 = .ok (.istore 18, 2) := by decide +kernel
theorem dL_holds_645 : decode cL_holds 645 = .ok (.goto 151, 3) := by decide +kernel
theorem dL_holds_648 : decode cL_holds 648 = .ok (.iload 21, 2) := by decide +kernel
theorem dL_holds_650 : decode cL_holds 650 = .ok (.bipush 29, 2) := by decide +kernel
theorem dL_holds_652 : decode cL_holds 652 = .ok (.if_icmp .ne 59, 3) := by decide +kernel
theorem dL_holds_655 : decode cL_holds 655 = .ok (.aload 11, 2) := by decide +kernel
theorem dL_holds_657 : decode cL_holds 657 = .ok (.iconst 0, 1) := by decide +kernel
theorem dL_holds_658 : decode cL_holds 658 = .ok (.iaload, 1) := by decide +kernel
theorem dL_holds_659 : decode cL_holds 659 = .ok (.ifCond .le 52, 3) := by decide +kernel
theorem dL_holds_662 : decode cL_holds 662 = .ok (.aload 11, 2) := by decide +kernel
theorem dL_holds_664 : decode cL_holds 664 = .ok (.iconst 0, 1) := by decide +kernel
theorem dL_holds_665 : decode cL_holds 665 = .ok (.iaload, 1) := by decide +kernel
theorem dL_holds_666 : decode cL_holds 666 = .ok (.iconst 1, 1) := by decide +kernel
theorem dL_holds_667 : decode cL_holds 667 = .ok (.isub, 1) := by decide +kernel
theorem dL_holds_668 : decode cL_holds 668 = .ok (.istore 23, 2) := by decide +kernel
theorem dL_holds_670 : decode cL_holds 670 = .ok (.aload 11, 2) := by decide +kernel
theorem dL_holds_672 : decode cL_holds 672 = .ok (.iconst 0, 1) := by decide +kernel
theorem dL_holds_673 : decode cL_holds 673 = .ok (.iconst 0, 1) := by decide +kernel
theorem dL_holds_674 : decode cL_holds 674 = .ok (.iastore, 1) := by decide +kernel
theorem dL_holds_675 : decode cL_holds 675 = .ok (.aload_n 1, 1) := by decide +kernel
theorem dL_holds_676 : decode cL_holds 676 = .ok (.iload 23, 2) := by decide +kernel
theorem dL_holds_678 : decode cL_holds 678 = .ok (.invokevirtual 301, 3) := by decide +kernel
theorem dL_holds_681 : decode cL_holds 681 = .ok (.aload 5, 2) := by decide +kernel
theorem dL_holds_683 : decode cL_holds 683 = .ok (.aload 8, 2) := by decide +kernel
theorem dL_holds_685 : decode cL_holds 685 = .ok (.aload 9, 2) := by decide +kernel
theorem dL_holds_687 : decode cL_holds 687 = .ok (.aload 10, 2) := by decide +kernel
theorem dL_holds_689 : decode cL_holds 689 = .ok (.aload 11, 2) := by decide +kernel
theorem dL_holds_691 : decode cL_holds 691 = .ok (.aload 12, 2) := by decide +kernel
theorem dL_holds_693 : decode cL_holds 693 = .ok (.aload 17, 2) := by decide +kernel
theorem dL_holds_695 : decode cL_holds 695 = .ok (.invokestatic 212, 3) := by decide +kernel
theorem dL_holds_698 : decode cL_holds 698 = .ok (.if_icmp .ne 7, 3) := by decide +kernel
