/-! decode rows of the law -/
theorem dl_716 : decode code 716 = .ok (.aload_n 0, 1) := by decide +kernel
theorem dl_717 : decode code 717 = .ok (.iload 4, 2) := by decide +kernel
theorem dl_719 : decode code 719 = .ok (.iconst 1, 1) := by decide +kernel
theorem dl_720 : decode code 720 = .ok (.iadd, 1) := by decide +kernel
theorem dl_721 : decode code 721 = .ok (.iaload, 1) := by decide +kernel
theorem dl_722 : decode code 722 = .ok (.aload_n 3, 1) := by decide +kernel
theorem dl_723 : decode code 723 = .ok (.invokestatic 163, 3) := by decide +kernel
theorem dl_726 : decode code 726 = .ok (.istore 5, 2) := by decide +kernel
theorem dl_728 : decode code 728 = .ok (.aload_n 2, 1) := by decide +kernel
theorem dl_729 : decode code 729 = .ok (.aload_n 0, 1) := by decide +kernel
theorem dl_730 : decode code 730 = .ok (.iload 4, 2) := by decide +kernel
theorem dl_732 : decode code 732 = .ok (.iconst 1, 1) := by decide +kernel
theorem dl_733 : decode code 733 = .ok (.iadd, 1) := by decide +kernel
theorem dl_734 : decode code 734 = .ok (.iaload, 1) := by decide +kernel
theorem dl_735 : decode code 735 = .ok (.invokevirtual 165, 3) := by decide +kernel
theorem dl_738 : decode code 738 = .ok (.istore 6, 2) := by decide +kernel
theorem dl_740 : decode code 740 = .ok (.aload_n 2, 1) := by decide +kernel
theorem dl_741 : decode code 741 = .ok (.invokevirtual 118, 3) := by decide +kernel
theorem dl_744 : decode code 744 = .ok (.iload 5, 2) := by decide +kernel
theorem dl_746 : decode code 746 = .ok (.if_icmp .eq 5, 3) := by decide +kernel
theorem dl_751 : decode code 751 = .ok (.iload 5, 2) := by decide +kernel
theorem dl_753 : decode code 753 = .ok (.ifCond .ne 15, 3) := by decide +kernel
theorem dl_756 : decode code 756 = .ok (.aload_n 3, 1) := by decide +kernel
theorem dl_757 : decode code 757 = .ok (.iconst 0, 1) := by decide +kernel
theorem dl_758 : decode code 758 = .ok (.laload, 1) := by decide +kernel
theorem dl_759 : decode code 759 = .ok (.iload 6, 2) := by decide +kernel
theorem dl_761 : decode code 761 = .ok (.i2l, 1) := by decide +kernel
theorem dl_762 : decode code 762 = .ok (.lcmp, 1) := by decide +kernel
theorem dl_763 : decode code 763 = .ok (.ifCond .eq 5, 3) := by decide +kernel
theorem dl_768 : decode code 768 = .ok (.goto 1132, 3) := by decide +kernel
theorem dl_771 : decode code 771 = .ok (.aload_n 1, 1) := by decide +kernel
theorem dl_772 : decode code 772 = .ok (.aload_n 0, 1) := by decide +kernel
theorem dl_773 : decode code 773 = .ok (.iload 4, 2) := by decide +kernel
theorem dl_775 : decode code 775 = .ok (.iconst 1, 1) := by decide +kernel
theorem dl_776 : decode code 776 = .ok (.iadd, 1) := by decide +kernel
theorem dl_777 : decode code 777 = .ok (.iaload, 1) := by decide +kernel
theorem dl_778 : decode code 778 = .ok (.aload_n 3, 1) := by decide +kernel
theorem dl_779 : decode code 779 = .ok (.invokestatic 166, 3) := by decide +kernel
theorem dl_782 : decode code 782 = .ok (.istore 5, 2) := by decide +kernel
theorem dl_784 : decode code 784 = .ok (.aload_n 2, 1) := by decide +kernel
theorem dl_785 : decode code 785 = .ok (.aload_n 0, 1) := by decide +kernel
theorem dl_786 : decode code 786 = .ok (.iload 4, 2) := by decide +kernel
theorem dl_788 : decode code 788 = .ok (.iconst 1, 1) := by decide +kernel
theorem dl_789 : decode code 789 = .ok (.iadd, 1) := by decide +kernel
theorem dl_790 : decode code 790 = .ok (.iaload, 1) := by decide +kernel
theorem dl_791 : decode code 791 = .ok (.invokevirtual 168, 3) := by decide +kernel
theorem dl_794 : decode code 794 = .ok (.istore 6, 2) := by decide +kernel
theorem dl_796 : decode code 796 = .ok (.aload_n 2, 1) := by decide +kernel
theorem dl_797 : decode code 797 = .ok (.invokevirtual 118, 3) := by decide +kernel
theorem dl_800 : decode code 800 = .ok (.iload 5, 2) := by decide +kernel
theorem dl_802 : decode code 802 = .ok (.if_icmp .eq 5, 3) := by decide +kernel
theorem dl_807 : decode code 807 = .ok (.iload 5, 2) := by decide +kernel
theorem dl_809 : decode code 809 = .ok (.ifCond .ne 15, 3) := by decide +kernel
theorem dl_812 : decode code 812 = .ok (.aload_n 3, 1) := by decide +kernel
theorem dl_813 : decode code 813 = .ok (.iconst 0, 1) := by decide +kernel
theorem dl_814 : decode code 814 = .ok (.laload, 1) := by decide +kernel
theorem dl_815 : decode code 815 = .ok (.iload 6, 2) := by decide +kernel
theorem dl_817 : decode code 817 = .ok (.i2l, 1) := by decide +kernel
theorem dl_818 : decode code 818 = .ok (.lcmp, 1) := by decide +kernel
theorem dl_819 : decode code 819 = .ok (.ifCond .eq 5, 3) := by decide +kernel
