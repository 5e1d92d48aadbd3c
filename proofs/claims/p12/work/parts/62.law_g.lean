theorem dLW_law_591 : decode code 591 = .ok (.aload_n 2, 1) := by decide +kernel
theorem dLW_law_592 : decode code 592 = .ok (.invokevirtual 105, 3) := by decide +kernel
theorem dLW_law_595 : decode code 595 = .ok (.iload 5, 2) := by decide +kernel
theorem dLW_law_597 : decode code 597 = .ok (.if_icmp .eq 5, 3) := by decide +kernel
theorem dLW_law_600 : decode code 600 = .ok (.iconst 0, 1) := by decide +kernel
theorem dLW_law_601 : decode code 601 = .ok (.ireturn, 1) := by decide +kernel
theorem dLW_law_602 : decode code 602 = .ok (.iload 5, 2) := by decide +kernel
theorem dLW_law_604 : decode code 604 = .ok (.ifCond .ne 15, 3) := by decide +kernel
theorem dLW_law_607 : decode code 607 = .ok (.aload_n 3, 1) := by decide +kernel
theorem dLW_law_608 : decode code 608 = .ok (.iconst 0, 1) := by decide +kernel
theorem dLW_law_609 : decode code 609 = .ok (.laload, 1) := by decide +kernel
theorem dLW_law_610 : decode code 610 = .ok (.iload 6, 2) := by decide +kernel
theorem dLW_law_612 : decode code 612 = .ok (.i2l, 1) := by decide +kernel
theorem dLW_law_613 : decode code 613 = .ok (.lcmp, 1) := by decide +kernel
theorem dLW_law_614 : decode code 614 = .ok (.ifCond .eq 5, 3) := by decide +kernel
theorem dLW_law_617 : decode code 617 = .ok (.iconst 0, 1) := by decide +kernel
theorem dLW_law_618 : decode code 618 = .ok (.ireturn, 1) := by decide +kernel
theorem dLW_law_619 : decode code 619 = .ok (.goto 122, 3) := by decide +kernel
theorem dLW_law_622 : decode code 622 = .ok (.aload_n 1, 1) := by decide +kernel
theorem dLW_law_623 : decode code 623 = .ok (.invokevirtual 108, 3) := by decide +kernel
theorem dLW_law_626 : decode code 626 = .ok (.pop, 1) := by decide +kernel
theorem dLW_law_627 : decode code 627 = .ok (.aload_n 2, 1) := by decide +kernel
theorem dLW_law_628 : decode code 628 = .ok (.invokevirtual 111, 3) := by decide +kernel
theorem dLW_law_631 : decode code 631 = .ok (.pop, 1) := by decide +kernel
theorem dLW_law_632 : decode code 632 = .ok (.goto 109, 3) := by decide +kernel
theorem dLW_law_635 : decode code 635 = .ok (.aload_n 1, 1) := by decide +kernel
theorem dLW_law_636 : decode code 636 = .ok (.aload_n 0, 1) := by decide +kernel
theorem dLW_law_637 : decode code 637 = .ok (.iload 4, 2) := by decide +kernel
theorem dLW_law_639 : decode code 639 = .ok (.iconst 1, 1) := by decide +kernel
theorem dLW_law_640 : decode code 640 = .ok (.iadd, 1) := by decide +kernel
theorem dLW_law_641 : decode code 641 = .ok (.iaload, 1) := by decide +kernel
theorem dLW_law_642 : decode code 642 = .ok (.invokevirtual 112, 3) := by decide +kernel
theorem dLW_law_645 : decode code 645 = .ok (.pop, 1) := by decide +kernel
theorem dLW_law_646 : decode code 646 = .ok (.aload_n 2, 1) := by decide +kernel
theorem dLW_law_647 : decode code 647 = .ok (.aload_n 0, 1) := by decide +kernel
theorem dLW_law_648 : decode code 648 = .ok (.iload 4, 2) := by decide +kernel
theorem dLW_law_650 : decode code 650 = .ok (.iconst 1, 1) := by decide +kernel
theorem dLW_law_651 : decode code 651 = .ok (.iadd, 1) := by decide +kernel
theorem dLW_law_652 : decode code 652 = .ok (.iaload, 1) := by decide +kernel
theorem dLW_law_653 : decode code 653 = .ok (.invokevirtual 115, 3) := by decide +kernel
theorem dLW_law_656 : decode code 656 = .ok (.pop, 1) := by decide +kernel
theorem dLW_law_657 : decode code 657 = .ok (.goto 84, 3) := by decide +kernel
theorem dLW_law_660 : decode code 660 = .ok (.aload_n 1, 1) := by decide +kernel
theorem dLW_law_661 : decode code 661 = .ok (.invokevirtual 116, 3) := by decide +kernel
theorem dLW_law_664 : decode code 664 = .ok (.pop, 1) := by decide +kernel
theorem dLW_law_665 : decode code 665 = .ok (.aload_n 2, 1) := by decide +kernel
theorem dLW_law_666 : decode code 666 = .ok (.invokevirtual 119, 3) := by decide +kernel
theorem dLW_law_669 : decode code 669 = .ok (.pop, 1) := by decide +kernel
theorem dLW_law_670 : decode code 670 = .ok (.goto 71, 3) := by decide +kernel
theorem dLW_law_673 : decode code 673 = .ok (.aload_n 1, 1) := by decide +kernel
theorem dLW_law_674 : decode code 674 = .ok (.aload_n 0, 1) := by decide +kernel
theorem dLW_law_675 : decode code 675 = .ok (.iload 4, 2) := by decide +kernel
theorem dLW_law_677 : decode code 677 = .ok (.iconst 1, 1) := by decide +kernel
theorem dLW_law_678 : decode code 678 = .ok (.iadd, 1) := by decide +kernel
theorem dLW_law_679 : decode code 679 = .ok (.iaload, 1) := by decide +kernel
theorem dLW_law_680 : decode code 680 = .ok (.aload_n 0, 1) := by decide +kernel
theorem dLW_law_681 : decode code 681 = .ok (.iload 4, 2) := by decide +kernel
theorem dLW_law_683 : decode code 683 = .ok (.iconst 2, 1) := by decide +kernel
theorem dLW_law_684 : decode code 684 = .ok (.iadd, 1) := by decide +kernel
theorem dLW_law_685 : decode code 685 = .ok (.iaload, 1) := by decide +kernel
