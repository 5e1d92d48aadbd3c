theorem dLW_law_591 : decode code 591 = .ok (.i2l, 1) := by decide +kernel
theorem dLW_law_592 : decode code 592 = .ok (.ldc2_w 102, 3) := by decide +kernel
theorem dLW_law_595 : decode code 595 = .ok (.land, 1) := by decide +kernel
theorem dLW_law_596 : decode code 596 = .ok (.lor, 1) := by decide +kernel
theorem dLW_law_597 : decode code 597 = .ok (.invokevirtual 107, 3) := by decide +kernel
theorem dLW_law_600 : decode code 600 = .ok (.istore 6, 2) := by decide +kernel
theorem dLW_law_602 : decode code 602 = .ok (.goto 122, 3) := by decide +kernel
theorem dLW_law_605 : decode code 605 = .ok (.aload_n 1, 1) := by decide +kernel
theorem dLW_law_606 : decode code 606 = .ok (.invokevirtual 108, 3) := by decide +kernel
theorem dLW_law_609 : decode code 609 = .ok (.pop, 1) := by decide +kernel
theorem dLW_law_610 : decode code 610 = .ok (.aload_n 2, 1) := by decide +kernel
theorem dLW_law_611 : decode code 611 = .ok (.invokevirtual 111, 3) := by decide +kernel
theorem dLW_law_614 : decode code 614 = .ok (.pop, 1) := by decide +kernel
theorem dLW_law_615 : decode code 615 = .ok (.goto 109, 3) := by decide +kernel
theorem dLW_law_618 : decode code 618 = .ok (.aload_n 1, 1) := by decide +kernel
theorem dLW_law_619 : decode code 619 = .ok (.aload_n 0, 1) := by decide +kernel
theorem dLW_law_620 : decode code 620 = .ok (.iload 4, 2) := by decide +kernel
theorem dLW_law_622 : decode code 622 = .ok (.iconst 1, 1) := by decide +kernel
theorem dLW_law_623 : decode code 623 = .ok (.iadd, 1) := by decide +kernel
theorem dLW_law_624 : decode code 624 = .ok (.iaload, 1) := by decide +kernel
theorem dLW_law_625 : decode code 625 = .ok (.invokevirtual 112, 3) := by decide +kernel
theorem dLW_law_628 : decode code 628 = .ok (.pop, 1) := by decide +kernel
theorem dLW_law_629 : decode code 629 = .ok (.aload_n 2, 1) := by decide +kernel
theorem dLW_law_630 : decode code 630 = .ok (.aload_n 0, 1) := by decide +kernel
theorem dLW_law_631 : decode code 631 = .ok (.iload 4, 2) := by decide +kernel
theorem dLW_law_633 : decode code 633 = .ok (.iconst 1, 1) := by decide +kernel
theorem dLW_law_634 : decode code 634 = .ok (.iadd, 1) := by decide +kernel
theorem dLW_law_635 : decode code 635 = .ok (.iaload, 1) := by decide +kernel
theorem dLW_law_636 : decode code 636 = .ok (.invokevirtual 115, 3) := by decide +kernel
theorem dLW_law_639 : decode code 639 = .ok (.pop, 1) := by decide +kernel
theorem dLW_law_640 : decode code 640 = .ok (.goto 84, 3) := by decide +kernel
theorem dLW_law_643 : decode code 643 = .ok (.aload_n 1, 1) := by decide +kernel
theorem dLW_law_644 : decode code 644 = .ok (.invokevirtual 116, 3) := by decide +kernel
theorem dLW_law_647 : decode code 647 = .ok (.pop, 1) := by decide +kernel
theorem dLW_law_648 : decode code 648 = .ok (.aload_n 2, 1) := by decide +kernel
theorem dLW_law_649 : decode code 649 = .ok (.invokevirtual 119, 3) := by decide +kernel
theorem dLW_law_652 : decode code 652 = .ok (.pop, 1) := by decide +kernel
theorem dLW_law_653 : decode code 653 = .ok (.goto 71, 3) := by decide +kernel
theorem dLW_law_656 : decode code 656 = .ok (.aload_n 1, 1) := by decide +kernel
theorem dLW_law_657 : decode code 657 = .ok (.aload_n 0, 1) := by decide +kernel
theorem dLW_law_658 : decode code 658 = .ok (.iload 4, 2) := by decide +kernel
theorem dLW_law_660 : decode code 660 = .ok (.iconst 1, 1) := by decide +kernel
theorem dLW_law_661 : decode code 661 = .ok (.iadd, 1) := by decide +kernel
theorem dLW_law_662 : decode code 662 = .ok (.iaload, 1) := by decide +kernel
theorem dLW_law_663 : decode code 663 = .ok (.aload_n 0, 1) := by decide +kernel
theorem dLW_law_664 : decode code 664 = .ok (.iload 4, 2) := by decide +kernel
theorem dLW_law_666 : decode code 666 = .ok (.iconst 2, 1) := by decide +kernel
theorem dLW_law_667 : decode code 667 = .ok (.iadd, 1) := by decide +kernel
theorem dLW_law_668 : decode code 668 = .ok (.iaload, 1) := by decide +kernel
theorem dLW_law_669 : decode code 669 = .ok (.aload_n 3, 1) := by decide +kernel
theorem dLW_law_670 : decode code 670 = .ok (.invokestatic 120, 3) := by decide +kernel
theorem dLW_law_673 : decode code 673 = .ok (.istore 5, 2) := by decide +kernel
theorem dLW_law_675 : decode code 675 = .ok (.aload_n 2, 1) := by decide +kernel
theorem dLW_law_676 : decode code 676 = .ok (.aload_n 0, 1) := by decide +kernel
theorem dLW_law_677 : decode code 677 = .ok (.iload 4, 2) := by decide +kernel
theorem dLW_law_679 : decode code 679 = .ok (.iconst 1, 1) := by decide +kernel
theorem dLW_law_680 : decode code 680 = .ok (.iadd, 1) := by decide +kernel
theorem dLW_law_681 : decode code 681 = .ok (.iaload, 1) := by decide +kernel
theorem dLW_law_682 : decode code 682 = .ok (.aload_n 0, 1) := by decide +kernel
theorem dLW_law_683 : decode code 683 = .ok (.iload 4, 2) := by decide +kernel
