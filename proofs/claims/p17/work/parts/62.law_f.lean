theorem dLW_law_504 : decode code 504 = .ok (.istore 6, 2) := by decide +kernel
theorem dLW_law_506 : decode code 506 = .ok (.goto 235, 3) := by decide +kernel
theorem dLW_law_509 : decode code 509 = .ok (.aload_n 1, 1) := by decide +kernel
theorem dLW_law_510 : decode code 510 = .ok (.invokevirtual 95, 3) := by decide +kernel
theorem dLW_law_513 : decode code 513 = .ok (.pop, 1) := by decide +kernel
theorem dLW_law_514 : decode code 514 = .ok (.aload_n 2, 1) := by decide +kernel
theorem dLW_law_515 : decode code 515 = .ok (.invokevirtual 98, 3) := by decide +kernel
theorem dLW_law_518 : decode code 518 = .ok (.pop, 1) := by decide +kernel
theorem dLW_law_519 : decode code 519 = .ok (.goto 222, 3) := by decide +kernel
theorem dLW_law_522 : decode code 522 = .ok (.aload_n 1, 1) := by decide +kernel
theorem dLW_law_523 : decode code 523 = .ok (.aload_n 0, 1) := by decide +kernel
theorem dLW_law_524 : decode code 524 = .ok (.iload 4, 2) := by decide +kernel
theorem dLW_law_526 : decode code 526 = .ok (.iconst 1, 1) := by decide +kernel
theorem dLW_law_527 : decode code 527 = .ok (.iadd, 1) := by decide +kernel
theorem dLW_law_528 : decode code 528 = .ok (.iaload, 1) := by decide +kernel
theorem dLW_law_529 : decode code 529 = .ok (.aload_n 0, 1) := by decide +kernel
theorem dLW_law_530 : decode code 530 = .ok (.iload 4, 2) := by decide +kernel
theorem dLW_law_532 : decode code 532 = .ok (.iconst 2, 1) := by decide +kernel
theorem dLW_law_533 : decode code 533 = .ok (.iadd, 1) := by decide +kernel
theorem dLW_law_534 : decode code 534 = .ok (.iaload, 1) := by decide +kernel
theorem dLW_law_535 : decode code 535 = .ok (.i2l, 1) := by decide +kernel
theorem dLW_law_536 : decode code 536 = .ok (.bipush 32, 2) := by decide +kernel
theorem dLW_law_538 : decode code 538 = .ok (.lshl, 1) := by decide +kernel
theorem dLW_law_539 : decode code 539 = .ok (.aload_n 0, 1) := by decide +kernel
theorem dLW_law_540 : decode code 540 = .ok (.iload 4, 2) := by decide +kernel
theorem dLW_law_542 : decode code 542 = .ok (.iconst 3, 1) := by decide +kernel
theorem dLW_law_543 : decode code 543 = .ok (.iadd, 1) := by decide +kernel
theorem dLW_law_544 : decode code 544 = .ok (.iaload, 1) := by decide +kernel
theorem dLW_law_545 : decode code 545 = .ok (.i2l, 1) := by decide +kernel
theorem dLW_law_546 : decode code 546 = .ok (.ldc2_w 99, 3) := by decide +kernel
theorem dLW_law_549 : decode code 549 = .ok (.land, 1) := by decide +kernel
theorem dLW_law_550 : decode code 550 = .ok (.lor, 1) := by decide +kernel
theorem dLW_law_551 : decode code 551 = .ok (.aload_n 3, 1) := by decide +kernel
theorem dLW_law_552 : decode code 552 = .ok (.invokestatic 101, 3) := by decide +kernel
theorem dLW_law_555 : decode code 555 = .ok (.istore 5, 2) := by decide +kernel
theorem dLW_law_557 : decode code 557 = .ok (.aload_n 2, 1) := by decide +kernel
theorem dLW_law_558 : decode code 558 = .ok (.aload_n 0, 1) := by decide +kernel
theorem dLW_law_559 : decode code 559 = .ok (.iload 4, 2) := by decide +kernel
theorem dLW_law_561 : decode code 561 = .ok (.iconst 1, 1) := by decide +kernel
theorem dLW_law_562 : decode code 562 = .ok (.iadd, 1) := by decide +kernel
theorem dLW_law_563 : decode code 563 = .ok (.iaload, 1) := by decide +kernel
theorem dLW_law_564 : decode code 564 = .ok (.aload_n 0, 1) := by decide +kernel
theorem dLW_law_565 : decode code 565 = .ok (.iload 4, 2) := by decide +kernel
theorem dLW_law_567 : decode code 567 = .ok (.iconst 2, 1) := by decide +kernel
theorem dLW_law_568 : decode code 568 = .ok (.iadd, 1) := by decide +kernel
theorem dLW_law_569 : decode code 569 = .ok (.iaload, 1) := by decide +kernel
theorem dLW_law_570 : decode code 570 = .ok (.i2l, 1) := by decide +kernel
theorem dLW_law_571 : decode code 571 = .ok (.bipush 32, 2) := by decide +kernel
theorem dLW_law_573 : decode code 573 = .ok (.lshl, 1) := by decide +kernel
theorem dLW_law_574 : decode code 574 = .ok (.aload_n 0, 1) := by decide +kernel
theorem dLW_law_575 : decode code 575 = .ok (.iload 4, 2) := by decide +kernel
theorem dLW_law_577 : decode code 577 = .ok (.iconst 3, 1) := by decide +kernel
theorem dLW_law_578 : decode code 578 = .ok (.iadd, 1) := by decide +kernel
theorem dLW_law_579 : decode code 579 = .ok (.iaload, 1) := by decide +kernel
theorem dLW_law_580 : decode code 580 = .ok (.i2l, 1) := by decide +kernel
theorem dLW_law_581 : decode code 581 = .ok (.ldc2_w 99, 3) := by decide +kernel
theorem dLW_law_584 : decode code 584 = .ok (.land, 1) := by decide +kernel
theorem dLW_law_585 : decode code 585 = .ok (.lor, 1) := by decide +kernel
theorem dLW_law_586 : decode code 586 = .ok (.invokevirtual 104, 3) := by decide +kernel
theorem dLW_law_589 : decode code 589 = .ok (.istore 6, 2) := by decide +kernel
