theorem dLW_law_591 : decode code 591 = .ok (.goto 150, 3) := by decide +kernel
theorem dLW_law_594 : decode code 594 = .ok (.aload_n 1, 1) := by decide +kernel
theorem dLW_law_595 : decode code 595 = .ok (.invokevirtual 105, 3) := by decide +kernel
theorem dLW_law_598 : decode code 598 = .ok (.pop, 1) := by decide +kernel
theorem dLW_law_599 : decode code 599 = .ok (.aload_n 2, 1) := by decide +kernel
theorem dLW_law_600 : decode code 600 = .ok (.invokevirtual 108, 3) := by decide +kernel
theorem dLW_law_603 : decode code 603 = .ok (.pop, 1) := by decide +kernel
theorem dLW_law_604 : decode code 604 = .ok (.goto 137, 3) := by decide +kernel
theorem dLW_law_607 : decode code 607 = .ok (.aload_n 1, 1) := by decide +kernel
theorem dLW_law_608 : decode code 608 = .ok (.aload_n 0, 1) := by decide +kernel
theorem dLW_law_609 : decode code 609 = .ok (.iload 4, 2) := by decide +kernel
theorem dLW_law_611 : decode code 611 = .ok (.iconst 1, 1) := by decide +kernel
theorem dLW_law_612 : decode code 612 = .ok (.iadd, 1) := by decide +kernel
theorem dLW_law_613 : decode code 613 = .ok (.iaload, 1) := by decide +kernel
theorem dLW_law_614 : decode code 614 = .ok (.invokevirtual 109, 3) := by decide +kernel
theorem dLW_law_617 : decode code 617 = .ok (.pop, 1) := by decide +kernel
theorem dLW_law_618 : decode code 618 = .ok (.aload_n 2, 1) := by decide +kernel
theorem dLW_law_619 : decode code 619 = .ok (.aload_n 0, 1) := by decide +kernel
theorem dLW_law_620 : decode code 620 = .ok (.iload 4, 2) := by decide +kernel
theorem dLW_law_622 : decode code 622 = .ok (.iconst 1, 1) := by decide +kernel
theorem dLW_law_623 : decode code 623 = .ok (.iadd, 1) := by decide +kernel
theorem dLW_law_624 : decode code 624 = .ok (.iaload, 1) := by decide +kernel
theorem dLW_law_625 : decode code 625 = .ok (.invokevirtual 112, 3) := by decide +kernel
theorem dLW_law_628 : decode code 628 = .ok (.pop, 1) := by decide +kernel
theorem dLW_law_629 : decode code 629 = .ok (.goto 112, 3) := by decide +kernel
theorem dLW_law_632 : decode code 632 = .ok (.aload_n 1, 1) := by decide +kernel
theorem dLW_law_633 : decode code 633 = .ok (.invokevirtual 113, 3) := by decide +kernel
theorem dLW_law_636 : decode code 636 = .ok (.pop, 1) := by decide +kernel
theorem dLW_law_637 : decode code 637 = .ok (.aload_n 2, 1) := by decide +kernel
theorem dLW_law_638 : decode code 638 = .ok (.invokevirtual 116, 3) := by decide +kernel
theorem dLW_law_641 : decode code 641 = .ok (.pop, 1) := by decide +kernel
theorem dLW_law_642 : decode code 642 = .ok (.goto 99, 3) := by decide +kernel
theorem dLW_law_645 : decode code 645 = .ok (.aload_n 1, 1) := by decide +kernel
theorem dLW_law_646 : decode code 646 = .ok (.aload_n 0, 1) := by decide +kernel
theorem dLW_law_647 : decode code 647 = .ok (.iload 4, 2) := by decide +kernel
theorem dLW_law_649 : decode code 649 = .ok (.iconst 1, 1) := by decide +kernel
theorem dLW_law_650 : decode code 650 = .ok (.iadd, 1) := by decide +kernel
theorem dLW_law_651 : decode code 651 = .ok (.iaload, 1) := by decide +kernel
theorem dLW_law_652 : decode code 652 = .ok (.aload_n 0, 1) := by decide +kernel
theorem dLW_law_653 : decode code 653 = .ok (.iload 4, 2) := by decide +kernel
theorem dLW_law_655 : decode code 655 = .ok (.iconst 2, 1) := by decide +kernel
theorem dLW_law_656 : decode code 656 = .ok (.iadd, 1) := by decide +kernel
theorem dLW_law_657 : decode code 657 = .ok (.iaload, 1) := by decide +kernel
theorem dLW_law_658 : decode code 658 = .ok (.aload_n 3, 1) := by decide +kernel
theorem dLW_law_659 : decode code 659 = .ok (.invokestatic 117, 3) := by decide +kernel
theorem dLW_law_662 : decode code 662 = .ok (.istore 5, 2) := by decide +kernel
theorem dLW_law_664 : decode code 664 = .ok (.aload_n 2, 1) := by decide +kernel
theorem dLW_law_665 : decode code 665 = .ok (.aload_n 0, 1) := by decide +kernel
theorem dLW_law_666 : decode code 666 = .ok (.iload 4, 2) := by decide +kernel
theorem dLW_law_668 : decode code 668 = .ok (.iconst 1, 1) := by decide +kernel
theorem dLW_law_669 : decode code 669 = .ok (.iadd, 1) := by decide +kernel
theorem dLW_law_670 : decode code 670 = .ok (.iaload, 1) := by decide +kernel
theorem dLW_law_671 : decode code 671 = .ok (.aload_n 0, 1) := by decide +kernel
theorem dLW_law_672 : decode code 672 = .ok (.iload 4, 2) := by decide +kernel
theorem dLW_law_674 : decode code 674 = .ok (.iconst 2, 1) := by decide +kernel
theorem dLW_law_675 : decode code 675 = .ok (.iadd, 1) := by decide +kernel
theorem dLW_law_676 : decode code 676 = .ok (.iaload, 1) := by decide +kernel
theorem dLW_law_677 : decode code 677 = .ok (.invokevirtual 119, 3) := by decide +kernel
theorem dLW_law_680 : decode code 680 = .ok (.istore 6, 2) := by decide +kernel
theorem dLW_law_682 : decode code 682 = .ok (.goto 59, 3) := by decide +kernel
