theorem dLW_law_508 : decode code 508 = .ok (.iadd, 1) := by decide +kernel
theorem dLW_law_509 : decode code 509 = .ok (.iaload, 1) := by decide +kernel
theorem dLW_law_510 : decode code 510 = .ok (.aload_n 3, 1) := by decide +kernel
theorem dLW_law_511 : decode code 511 = .ok (.invokestatic 94, 3) := by decide +kernel
theorem dLW_law_514 : decode code 514 = .ok (.istore 5, 2) := by decide +kernel
theorem dLW_law_516 : decode code 516 = .ok (.aload_n 2, 1) := by decide +kernel
theorem dLW_law_517 : decode code 517 = .ok (.aload_n 0, 1) := by decide +kernel
theorem dLW_law_518 : decode code 518 = .ok (.iload 4, 2) := by decide +kernel
theorem dLW_law_520 : decode code 520 = .ok (.iconst 1, 1) := by decide +kernel
theorem dLW_law_521 : decode code 521 = .ok (.iadd, 1) := by decide +kernel
theorem dLW_law_522 : decode code 522 = .ok (.iaload, 1) := by decide +kernel
theorem dLW_law_523 : decode code 523 = .ok (.aload_n 0, 1) := by decide +kernel
theorem dLW_law_524 : decode code 524 = .ok (.iload 4, 2) := by decide +kernel
theorem dLW_law_526 : decode code 526 = .ok (.iconst 2, 1) := by decide +kernel
theorem dLW_law_527 : decode code 527 = .ok (.iadd, 1) := by decide +kernel
theorem dLW_law_528 : decode code 528 = .ok (.iaload, 1) := by decide +kernel
theorem dLW_law_529 : decode code 529 = .ok (.invokevirtual 97, 3) := by decide +kernel
theorem dLW_law_532 : decode code 532 = .ok (.istore 6, 2) := by decide +kernel
theorem dLW_law_534 : decode code 534 = .ok (.goto 207, 3) := by decide +kernel
theorem dLW_law_537 : decode code 537 = .ok (.aload_n 1, 1) := by decide +kernel
theorem dLW_law_538 : decode code 538 = .ok (.invokevirtual 98, 3) := by decide +kernel
theorem dLW_law_541 : decode code 541 = .ok (.pop, 1) := by decide +kernel
theorem dLW_law_542 : decode code 542 = .ok (.aload_n 2, 1) := by decide +kernel
theorem dLW_law_543 : decode code 543 = .ok (.invokevirtual 101, 3) := by decide +kernel
theorem dLW_law_546 : decode code 546 = .ok (.pop, 1) := by decide +kernel
theorem dLW_law_547 : decode code 547 = .ok (.goto 194, 3) := by decide +kernel
theorem dLW_law_550 : decode code 550 = .ok (.aload_n 1, 1) := by decide +kernel
theorem dLW_law_551 : decode code 551 = .ok (.aload_n 0, 1) := by decide +kernel
theorem dLW_law_552 : decode code 552 = .ok (.iload 4, 2) := by decide +kernel
theorem dLW_law_554 : decode code 554 = .ok (.iconst 1, 1) := by decide +kernel
theorem dLW_law_555 : decode code 555 = .ok (.iadd, 1) := by decide +kernel
theorem dLW_law_556 : decode code 556 = .ok (.iaload, 1) := by decide +kernel
theorem dLW_law_557 : decode code 557 = .ok (.aload_n 0, 1) := by decide +kernel
theorem dLW_law_558 : decode code 558 = .ok (.iload 4, 2) := by decide +kernel
theorem dLW_law_560 : decode code 560 = .ok (.iconst 2, 1) := by decide +kernel
theorem dLW_law_561 : decode code 561 = .ok (.iadd, 1) := by decide +kernel
theorem dLW_law_562 : decode code 562 = .ok (.iaload, 1) := by decide +kernel
theorem dLW_law_563 : decode code 563 = .ok (.i2l, 1) := by decide +kernel
theorem dLW_law_564 : decode code 564 = .ok (.bipush 32, 2) := by decide +kernel
theorem dLW_law_566 : decode code 566 = .ok (.lshl, 1) := by decide +kernel
theorem dLW_law_567 : decode code 567 = .ok (.aload_n 0, 1) := by decide +kernel
theorem dLW_law_568 : decode code 568 = .ok (.iload 4, 2) := by decide +kernel
theorem dLW_law_570 : decode code 570 = .ok (.iconst 3, 1) := by decide +kernel
theorem dLW_law_571 : decode code 571 = .ok (.iadd, 1) := by decide +kernel
theorem dLW_law_572 : decode code 572 = .ok (.iaload, 1) := by decide +kernel
theorem dLW_law_573 : decode code 573 = .ok (.i2l, 1) := by decide +kernel
theorem dLW_law_574 : decode code 574 = .ok (.ldc2_w 102, 3) := by decide +kernel
theorem dLW_law_577 : decode code 577 = .ok (.land, 1) := by decide +kernel
theorem dLW_law_578 : decode code 578 = .ok (.lor, 1) := by decide +kernel
theorem dLW_law_579 : decode code 579 = .ok (.aload_n 3, 1) := by decide +kernel
theorem dLW_law_580 : decode code 580 = .ok (.invokestatic 104, 3) := by decide +kernel
theorem dLW_law_583 : decode code 583 = .ok (.istore 5, 2) := by decide +kernel
theorem dLW_law_585 : decode code 585 = .ok (.aload_n 2, 1) := by decide +kernel
theorem dLW_law_586 : decode code 586 = .ok (.aload_n 0, 1) := by decide +kernel
theorem dLW_law_587 : decode code 587 = .ok (.iload 4, 2) := by decide +kernel
theorem dLW_law_589 : decode code 589 = .ok (.iconst 1, 1) := by decide +kernel
theorem dLW_law_590 : decode code 590 = .ok (.iadd, 1) := by decide +kernel
theorem dLW_law_591 : decode code 591 = .ok (.iaload, 1) := by decide +kernel
theorem dLW_law_592 : decode code 592 = .ok (.aload_n 0, 1) := by decide +kernel
theorem dLW_law_593 : decode code 593 = .ok (.iload 4, 2) := by decide +kernel
