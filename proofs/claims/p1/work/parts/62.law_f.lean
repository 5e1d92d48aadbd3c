theorem dLW_law_510 : decode code 510 = .ok (.iconst 4, 1) := by decide +kernel
theorem dLW_law_511 : decode code 511 = .ok (.iadd, 1) := by decide +kernel
theorem dLW_law_512 : decode code 512 = .ok (.iaload, 1) := by decide +kernel
theorem dLW_law_513 : decode code 513 = .ok (.invokevirtual 85, 3) := by decide +kernel
theorem dLW_law_516 : decode code 516 = .ok (.istore 6, 2) := by decide +kernel
theorem dLW_law_518 : decode code 518 = .ok (.aload_n 2, 1) := by decide +kernel
theorem dLW_law_519 : decode code 519 = .ok (.invokevirtual 68, 3) := by decide +kernel
theorem dLW_law_522 : decode code 522 = .ok (.iload 5, 2) := by decide +kernel
theorem dLW_law_524 : decode code 524 = .ok (.if_icmp .eq 5, 3) := by decide +kernel
theorem dLW_law_527 : decode code 527 = .ok (.iconst 0, 1) := by decide +kernel
theorem dLW_law_528 : decode code 528 = .ok (.ireturn, 1) := by decide +kernel
theorem dLW_law_529 : decode code 529 = .ok (.iload 5, 2) := by decide +kernel
theorem dLW_law_531 : decode code 531 = .ok (.ifCond .ne 15, 3) := by decide +kernel
theorem dLW_law_534 : decode code 534 = .ok (.aload_n 3, 1) := by decide +kernel
theorem dLW_law_535 : decode code 535 = .ok (.iconst 0, 1) := by decide +kernel
theorem dLW_law_536 : decode code 536 = .ok (.laload, 1) := by decide +kernel
theorem dLW_law_537 : decode code 537 = .ok (.iload 6, 2) := by decide +kernel
theorem dLW_law_539 : decode code 539 = .ok (.i2l, 1) := by decide +kernel
theorem dLW_law_540 : decode code 540 = .ok (.lcmp, 1) := by decide +kernel
theorem dLW_law_541 : decode code 541 = .ok (.ifCond .eq 5, 3) := by decide +kernel
theorem dLW_law_544 : decode code 544 = .ok (.iconst 0, 1) := by decide +kernel
theorem dLW_law_545 : decode code 545 = .ok (.ireturn, 1) := by decide +kernel
theorem dLW_law_546 : decode code 546 = .ok (.goto 385, 3) := by decide +kernel
theorem dLW_law_549 : decode code 549 = .ok (.aload_n 1, 1) := by decide +kernel
theorem dLW_law_550 : decode code 550 = .ok (.invokevirtual 86, 3) := by decide +kernel
theorem dLW_law_553 : decode code 553 = .ok (.aload_n 2, 1) := by decide +kernel
theorem dLW_law_554 : decode code 554 = .ok (.invokevirtual 89, 3) := by decide +kernel
theorem dLW_law_557 : decode code 557 = .ok (.if_icmp .eq 374, 3) := by decide +kernel
theorem dLW_law_560 : decode code 560 = .ok (.iconst 0, 1) := by decide +kernel
theorem dLW_law_561 : decode code 561 = .ok (.ireturn, 1) := by decide +kernel
theorem dLW_law_562 : decode code 562 = .ok (.aload_n 1, 1) := by decide +kernel
theorem dLW_law_563 : decode code 563 = .ok (.invokevirtual 90, 3) := by decide +kernel
theorem dLW_law_566 : decode code 566 = .ok (.aload_n 2, 1) := by decide +kernel
theorem dLW_law_567 : decode code 567 = .ok (.invokevirtual 93, 3) := by decide +kernel
theorem dLW_law_570 : decode code 570 = .ok (.if_icmp .eq 361, 3) := by decide +kernel
theorem dLW_law_573 : decode code 573 = .ok (.iconst 0, 1) := by decide +kernel
theorem dLW_law_574 : decode code 574 = .ok (.ireturn, 1) := by decide +kernel
theorem dLW_law_575 : decode code 575 = .ok (.aload_n 1, 1) := by decide +kernel
theorem dLW_law_576 : decode code 576 = .ok (.aload_n 0, 1) := by decide +kernel
theorem dLW_law_577 : decode code 577 = .ok (.iload 4, 2) := by decide +kernel
theorem dLW_law_579 : decode code 579 = .ok (.iconst 1, 1) := by decide +kernel
theorem dLW_law_580 : decode code 580 = .ok (.iadd, 1) := by decide +kernel
theorem dLW_law_581 : decode code 581 = .ok (.iaload, 1) := by decide +kernel
theorem dLW_law_582 : decode code 582 = .ok (.aload_n 0, 1) := by decide +kernel
theorem dLW_law_583 : decode code 583 = .ok (.iload 4, 2) := by decide +kernel
theorem dLW_law_585 : decode code 585 = .ok (.iconst 2, 1) := by decide +kernel
theorem dLW_law_586 : decode code 586 = .ok (.iadd, 1) := by decide +kernel
theorem dLW_law_587 : decode code 587 = .ok (.iaload, 1) := by decide +kernel
theorem dLW_law_588 : decode code 588 = .ok (.aload_n 3, 1) := by decide +kernel
theorem dLW_law_589 : decode code 589 = .ok (.invokestatic 94, 3) := by decide +kernel
theorem dLW_law_592 : decode code 592 = .ok (.istore 5, 2) := by decide +kernel
theorem dLW_law_594 : decode code 594 = .ok (.aload_n 2, 1) := by decide +kernel
theorem dLW_law_595 : decode code 595 = .ok (.aload_n 0, 1) := by decide +kernel
theorem dLW_law_596 : decode code 596 = .ok (.iload 4, 2) := by decide +kernel
theorem dLW_law_598 : decode code 598 = .ok (.iconst 1, 1) := by decide +kernel
theorem dLW_law_599 : decode code 599 = .ok (.iadd, 1) := by decide +kernel
theorem dLW_law_600 : decode code 600 = .ok (.iaload, 1) := by decide +kernel
theorem dLW_law_601 : decode code 601 = .ok (.aload_n 0, 1) := by decide +kernel
theorem dLW_law_602 : decode code 602 = .ok (.iload 4, 2) := by decide +kernel
theorem dLW_law_604 : decode code 604 = .ok (.iconst 2, 1) := by decide +kernel
