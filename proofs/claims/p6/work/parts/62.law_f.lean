theorem dLW_law_506 : decode code 506 = .ok (.aload_n 0, 1) := by decide +kernel
theorem dLW_law_507 : decode code 507 = .ok (.iload 4, 2) := by decide +kernel
theorem dLW_law_509 : decode code 509 = .ok (.iconst 2, 1) := by decide +kernel
theorem dLW_law_510 : decode code 510 = .ok (.iadd, 1) := by decide +kernel
theorem dLW_law_511 : decode code 511 = .ok (.iaload, 1) := by decide +kernel
theorem dLW_law_512 : decode code 512 = .ok (.invokevirtual 97, 3) := by decide +kernel
theorem dLW_law_515 : decode code 515 = .ok (.istore 6, 2) := by decide +kernel
theorem dLW_law_517 : decode code 517 = .ok (.goto 207, 3) := by decide +kernel
theorem dLW_law_520 : decode code 520 = .ok (.aload_n 1, 1) := by decide +kernel
theorem dLW_law_521 : decode code 521 = .ok (.invokevirtual 98, 3) := by decide +kernel
theorem dLW_law_524 : decode code 524 = .ok (.pop, 1) := by decide +kernel
theorem dLW_law_525 : decode code 525 = .ok (.aload_n 2, 1) := by decide +kernel
theorem dLW_law_526 : decode code 526 = .ok (.invokevirtual 101, 3) := by decide +kernel
theorem dLW_law_529 : decode code 529 = .ok (.pop, 1) := by decide +kernel
theorem dLW_law_530 : decode code 530 = .ok (.goto 194, 3) := by decide +kernel
theorem dLW_law_533 : decode code 533 = .ok (.aload_n 1, 1) := by decide +kernel
theorem dLW_law_534 : decode code 534 = .ok (.aload_n 0, 1) := by decide +kernel
theorem dLW_law_535 : decode code 535 = .ok (.iload 4, 2) := by decide +kernel
theorem dLW_law_537 : decode code 537 = .ok (.iconst 1, 1) := by decide +kernel
theorem dLW_law_538 : decode code 538 = .ok (.iadd, 1) := by decide +kernel
theorem dLW_law_539 : decode code 539 = .ok (.iaload, 1) := by decide +kernel
theorem dLW_law_540 : decode code 540 = .ok (.aload_n 0, 1) := by decide +kernel
theorem dLW_law_541 : decode code 541 = .ok (.iload 4, 2) := by decide +kernel
theorem dLW_law_543 : decode code 543 = .ok (.iconst 2, 1) := by decide +kernel
theorem dLW_law_544 : decode code 544 = .ok (.iadd, 1) := by decide +kernel
theorem dLW_law_545 : decode code 545 = .ok (.iaload, 1) := by decide +kernel
theorem dLW_law_546 : decode code 546 = .ok (.i2l, 1) := by decide +kernel
theorem dLW_law_547 : decode code 547 = .ok (.bipush 32, 2) := by decide +kernel
theorem dLW_law_549 : decode code 549 = .ok (.lshl, 1) := by decide +kernel
theorem dLW_law_550 : decode code 550 = .ok (.aload_n 0, 1) := by decide +kernel
theorem dLW_law_551 : decode code 551 = .ok (.iload 4, 2) := by decide +kernel
theorem dLW_law_553 : decode code 553 = .ok (.iconst 3, 1) := by decide +kernel
theorem dLW_law_554 : decode code 554 = .ok (.iadd, 1) := by decide +kernel
theorem dLW_law_555 : decode code 555 = .ok (.iaload, 1) := by decide +kernel
theorem dLW_law_556 : decode code 556 = .ok (.i2l, 1) := by decide +kernel
theorem dLW_law_557 : decode code 557 = .ok (.ldc2_w 102, 3) := by decide +kernel
theorem dLW_law_560 : decode code 560 = .ok (.land, 1) := by decide +kernel
theorem dLW_law_561 : decode code 561 = .ok (.lor, 1) := by decide +kernel
theorem dLW_law_562 : decode code 562 = .ok (.aload_n 3, 1) := by decide +kernel
theorem dLW_law_563 : decode code 563 = .ok (.invokestatic 104, 3) := by decide +kernel
theorem dLW_law_566 : decode code 566 = .ok (.istore 5, 2) := by decide +kernel
theorem dLW_law_568 : decode code 568 = .ok (.aload_n 2, 1) := by decide +kernel
theorem dLW_law_569 : decode code 569 = .ok (.aload_n 0, 1) := by decide +kernel
theorem dLW_law_570 : decode code 570 = .ok (.iload 4, 2) := by decide +kernel
theorem dLW_law_572 : decode code 572 = .ok (.iconst 1, 1) := by decide +kernel
theorem dLW_law_573 : decode code 573 = .ok (.iadd, 1) := by decide +kernel
theorem dLW_law_574 : decode code 574 = .ok (.iaload, 1) := by decide +kernel
theorem dLW_law_575 : decode code 575 = .ok (.aload_n 0, 1) := by decide +kernel
theorem dLW_law_576 : decode code 576 = .ok (.iload 4, 2) := by decide +kernel
theorem dLW_law_578 : decode code 578 = .ok (.iconst 2, 1) := by decide +kernel
theorem dLW_law_579 : decode code 579 = .ok (.iadd, 1) := by decide +kernel
theorem dLW_law_580 : decode code 580 = .ok (.iaload, 1) := by decide +kernel
theorem dLW_law_581 : decode code 581 = .ok (.i2l, 1) := by decide +kernel
theorem dLW_law_582 : decode code 582 = .ok (.bipush 32, 2) := by decide +kernel
theorem dLW_law_584 : decode code 584 = .ok (.lshl, 1) := by decide +kernel
theorem dLW_law_585 : decode code 585 = .ok (.aload_n 0, 1) := by decide +kernel
theorem dLW_law_586 : decode code 586 = .ok (.iload 4, 2) := by decide +kernel
theorem dLW_law_588 : decode code 588 = .ok (.iconst 3, 1) := by decide +kernel
theorem dLW_law_589 : decode code 589 = .ok (.iadd, 1) := by decide +kernel
theorem dLW_law_590 : decode code 590 = .ok (.iaload, 1) := by decide +kernel
