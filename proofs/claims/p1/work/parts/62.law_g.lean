theorem dLW_law_605 : decode code 605 = .ok (.iadd, 1) := by decide +kernel
theorem dLW_law_606 : decode code 606 = .ok (.iaload, 1) := by decide +kernel
theorem dLW_law_607 : decode code 607 = .ok (.invokevirtual 97, 3) := by decide +kernel
theorem dLW_law_610 : decode code 610 = .ok (.istore 6, 2) := by decide +kernel
theorem dLW_law_612 : decode code 612 = .ok (.aload_n 2, 1) := by decide +kernel
theorem dLW_law_613 : decode code 613 = .ok (.invokevirtual 68, 3) := by decide +kernel
theorem dLW_law_616 : decode code 616 = .ok (.iload 5, 2) := by decide +kernel
theorem dLW_law_618 : decode code 618 = .ok (.if_icmp .eq 5, 3) := by decide +kernel
theorem dLW_law_621 : decode code 621 = .ok (.iconst 0, 1) := by decide +kernel
theorem dLW_law_622 : decode code 622 = .ok (.ireturn, 1) := by decide +kernel
theorem dLW_law_623 : decode code 623 = .ok (.iload 5, 2) := by decide +kernel
theorem dLW_law_625 : decode code 625 = .ok (.ifCond .ne 15, 3) := by decide +kernel
theorem dLW_law_628 : decode code 628 = .ok (.aload_n 3, 1) := by decide +kernel
theorem dLW_law_629 : decode code 629 = .ok (.iconst 0, 1) := by decide +kernel
theorem dLW_law_630 : decode code 630 = .ok (.laload, 1) := by decide +kernel
theorem dLW_law_631 : decode code 631 = .ok (.iload 6, 2) := by decide +kernel
theorem dLW_law_633 : decode code 633 = .ok (.i2l, 1) := by decide +kernel
theorem dLW_law_634 : decode code 634 = .ok (.lcmp, 1) := by decide +kernel
theorem dLW_law_635 : decode code 635 = .ok (.ifCond .eq 5, 3) := by decide +kernel
theorem dLW_law_638 : decode code 638 = .ok (.iconst 0, 1) := by decide +kernel
theorem dLW_law_639 : decode code 639 = .ok (.ireturn, 1) := by decide +kernel
theorem dLW_law_640 : decode code 640 = .ok (.goto 291, 3) := by decide +kernel
theorem dLW_law_643 : decode code 643 = .ok (.aload_n 1, 1) := by decide +kernel
theorem dLW_law_644 : decode code 644 = .ok (.invokevirtual 98, 3) := by decide +kernel
theorem dLW_law_647 : decode code 647 = .ok (.aload_n 2, 1) := by decide +kernel
theorem dLW_law_648 : decode code 648 = .ok (.invokevirtual 101, 3) := by decide +kernel
theorem dLW_law_651 : decode code 651 = .ok (.if_icmp .eq 280, 3) := by decide +kernel
theorem dLW_law_654 : decode code 654 = .ok (.iconst 0, 1) := by decide +kernel
theorem dLW_law_655 : decode code 655 = .ok (.ireturn, 1) := by decide +kernel
theorem dLW_law_656 : decode code 656 = .ok (.aload_n 1, 1) := by decide +kernel
theorem dLW_law_657 : decode code 657 = .ok (.aload_n 0, 1) := by decide +kernel
theorem dLW_law_658 : decode code 658 = .ok (.iload 4, 2) := by decide +kernel
theorem dLW_law_660 : decode code 660 = .ok (.iconst 1, 1) := by decide +kernel
theorem dLW_law_661 : decode code 661 = .ok (.iadd, 1) := by decide +kernel
theorem dLW_law_662 : decode code 662 = .ok (.iaload, 1) := by decide +kernel
theorem dLW_law_663 : decode code 663 = .ok (.aload_n 0, 1) := by decide +kernel
theorem dLW_law_664 : decode code 664 = .ok (.iload 4, 2) := by decide +kernel
theorem dLW_law_666 : decode code 666 = .ok (.iconst 2, 1) := by decide +kernel
theorem dLW_law_667 : decode code 667 = .ok (.iadd, 1) := by decide +kernel
theorem dLW_law_668 : decode code 668 = .ok (.iaload, 1) := by decide +kernel
theorem dLW_law_669 : decode code 669 = .ok (.i2l, 1) := by decide +kernel
theorem dLW_law_670 : decode code 670 = .ok (.bipush 32, 2) := by decide +kernel
theorem dLW_law_672 : decode code 672 = .ok (.lshl, 1) := by decide +kernel
theorem dLW_law_673 : decode code 673 = .ok (.aload_n 0, 1) := by decide +kernel
theorem dLW_law_674 : decode code 674 = .ok (.iload 4, 2) := by decide +kernel
theorem dLW_law_676 : decode code 676 = .ok (.iconst 3, 1) := by decide +kernel
theorem dLW_law_677 : decode code 677 = .ok (.iadd, 1) := by decide +kernel
theorem dLW_law_678 : decode code 678 = .ok (.iaload, 1) := by decide +kernel
theorem dLW_law_679 : decode code 679 = .ok (.i2l, 1) := by decide +kernel
theorem dLW_law_680 : decode code 680 = .ok (.ldc2_w 102, 3) := by decide +kernel
theorem dLW_law_683 : decode code 683 = .ok (.land, 1) := by decide +kernel
theorem dLW_law_684 : decode code 684 = .ok (.lor, 1) := by decide +kernel
theorem dLW_law_685 : decode code 685 = .ok (.aload_n 3, 1) := by decide +kernel
theorem dLW_law_686 : decode code 686 = .ok (.invokestatic 104, 3) := by decide +kernel
theorem dLW_law_689 : decode code 689 = .ok (.istore 5, 2) := by decide +kernel
theorem dLW_law_691 : decode code 691 = .ok (.aload_n 2, 1) := by decide +kernel
theorem dLW_law_692 : decode code 692 = .ok (.aload_n 0, 1) := by decide +kernel
theorem dLW_law_693 : decode code 693 = .ok (.iload 4, 2) := by decide +kernel
theorem dLW_law_695 : decode code 695 = .ok (.iconst 1, 1) := by decide +kernel
theorem dLW_law_696 : decode code 696 = .ok (.iadd, 1) := by decide +kernel
