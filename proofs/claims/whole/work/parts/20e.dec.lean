/-! decode rows of the law -/
theorem dl_595 : decode code 595 = .ok (.invokevirtual 150, 3) := by decide +kernel
theorem dl_598 : decode code 598 = .ok (.istore 6, 2) := by decide +kernel
theorem dl_600 : decode code 600 = .ok (.aload_n 2, 1) := by decide +kernel
theorem dl_601 : decode code 601 = .ok (.invokevirtual 118, 3) := by decide +kernel
theorem dl_604 : decode code 604 = .ok (.iload 5, 2) := by decide +kernel
theorem dl_606 : decode code 606 = .ok (.if_icmp .eq 5, 3) := by decide +kernel
theorem dl_611 : decode code 611 = .ok (.iload 5, 2) := by decide +kernel
theorem dl_613 : decode code 613 = .ok (.ifCond .ne 15, 3) := by decide +kernel
theorem dl_616 : decode code 616 = .ok (.aload_n 3, 1) := by decide +kernel
theorem dl_617 : decode code 617 = .ok (.iconst 0, 1) := by decide +kernel
theorem dl_618 : decode code 618 = .ok (.laload, 1) := by decide +kernel
theorem dl_619 : decode code 619 = .ok (.iload 6, 2) := by decide +kernel
theorem dl_621 : decode code 621 = .ok (.i2l, 1) := by decide +kernel
theorem dl_622 : decode code 622 = .ok (.lcmp, 1) := by decide +kernel
theorem dl_623 : decode code 623 = .ok (.ifCond .eq 5, 3) := by decide +kernel
theorem dl_628 : decode code 628 = .ok (.goto 1272, 3) := by decide +kernel
theorem dl_631 : decode code 631 = .ok (.aload_n 1, 1) := by decide +kernel
theorem dl_632 : decode code 632 = .ok (.aload_n 0, 1) := by decide +kernel
theorem dl_633 : decode code 633 = .ok (.iload 4, 2) := by decide +kernel
theorem dl_635 : decode code 635 = .ok (.iconst 1, 1) := by decide +kernel
theorem dl_636 : decode code 636 = .ok (.iadd, 1) := by decide +kernel
theorem dl_637 : decode code 637 = .ok (.iaload, 1) := by decide +kernel
theorem dl_638 : decode code 638 = .ok (.i2c, 1) := by decide +kernel
theorem dl_639 : decode code 639 = .ok (.aload_n 3, 1) := by decide +kernel
theorem dl_640 : decode code 640 = .ok (.invokestatic 151, 3) := by decide +kernel
theorem dl_643 : decode code 643 = .ok (.istore 5, 2) := by decide +kernel
theorem dl_645 : decode code 645 = .ok (.aload_n 2, 1) := by decide +kernel
theorem dl_646 : decode code 646 = .ok (.aload_n 0, 1) := by decide +kernel
theorem dl_647 : decode code 647 = .ok (.iload 4, 2) := by decide +kernel
theorem dl_649 : decode code 649 = .ok (.iconst 1, 1) := by decide +kernel
theorem dl_650 : decode code 650 = .ok (.iadd, 1) := by decide +kernel
theorem dl_651 : decode code 651 = .ok (.iaload, 1) := by decide +kernel
theorem dl_652 : decode code 652 = .ok (.i2c, 1) := by decide +kernel
theorem dl_653 : decode code 653 = .ok (.invokevirtual 154, 3) := by decide +kernel
theorem dl_656 : decode code 656 = .ok (.istore 6, 2) := by decide +kernel
theorem dl_658 : decode code 658 = .ok (.aload_n 2, 1) := by decide +kernel
theorem dl_659 : decode code 659 = .ok (.invokevirtual 118, 3) := by decide +kernel
theorem dl_662 : decode code 662 = .ok (.iload 5, 2) := by decide +kernel
theorem dl_664 : decode code 664 = .ok (.if_icmp .eq 5, 3) := by decide +kernel
theorem dl_669 : decode code 669 = .ok (.iload 5, 2) := by decide +kernel
theorem dl_671 : decode code 671 = .ok (.ifCond .ne 15, 3) := by decide +kernel
theorem dl_674 : decode code 674 = .ok (.aload_n 3, 1) := by decide +kernel
theorem dl_675 : decode code 675 = .ok (.iconst 0, 1) := by decide +kernel
theorem dl_676 : decode code 676 = .ok (.laload, 1) := by decide +kernel
theorem dl_677 : decode code 677 = .ok (.iload 6, 2) := by decide +kernel
theorem dl_679 : decode code 679 = .ok (.i2l, 1) := by decide +kernel
theorem dl_680 : decode code 680 = .ok (.lcmp, 1) := by decide +kernel
theorem dl_681 : decode code 681 = .ok (.ifCond .eq 5, 3) := by decide +kernel
theorem dl_686 : decode code 686 = .ok (.goto 1214, 3) := by decide +kernel
theorem dl_689 : decode code 689 = .ok (.aload_n 1, 1) := by decide +kernel
theorem dl_690 : decode code 690 = .ok (.invokevirtual 155, 3) := by decide +kernel
theorem dl_693 : decode code 693 = .ok (.aload_n 2, 1) := by decide +kernel
theorem dl_694 : decode code 694 = .ok (.invokevirtual 158, 3) := by decide +kernel
theorem dl_697 : decode code 697 = .ok (.if_icmp .eq 1203, 3) := by decide +kernel
theorem dl_702 : decode code 702 = .ok (.aload_n 1, 1) := by decide +kernel
theorem dl_703 : decode code 703 = .ok (.invokevirtual 159, 3) := by decide +kernel
theorem dl_706 : decode code 706 = .ok (.aload_n 2, 1) := by decide +kernel
theorem dl_707 : decode code 707 = .ok (.invokevirtual 162, 3) := by decide +kernel
theorem dl_710 : decode code 710 = .ok (.if_icmp .eq 1190, 3) := by decide +kernel
theorem dl_715 : decode code 715 = .ok (.aload_n 1, 1) := by decide +kernel
