/-! decode rows of the law -/
theorem dl_824 : decode code 824 = .ok (.goto 1076, 3) := by decide +kernel
theorem dl_827 : decode code 827 = .ok (.aload_n 1, 1) := by decide +kernel
theorem dl_828 : decode code 828 = .ok (.aload_n 0, 1) := by decide +kernel
theorem dl_829 : decode code 829 = .ok (.iload 4, 2) := by decide +kernel
theorem dl_831 : decode code 831 = .ok (.iconst 1, 1) := by decide +kernel
theorem dl_832 : decode code 832 = .ok (.iadd, 1) := by decide +kernel
theorem dl_833 : decode code 833 = .ok (.iaload, 1) := by decide +kernel
theorem dl_834 : decode code 834 = .ok (.aload_n 3, 1) := by decide +kernel
theorem dl_835 : decode code 835 = .ok (.invokestatic 169, 3) := by decide +kernel
theorem dl_838 : decode code 838 = .ok (.istore 5, 2) := by decide +kernel
theorem dl_840 : decode code 840 = .ok (.aload_n 2, 1) := by decide +kernel
theorem dl_841 : decode code 841 = .ok (.aload_n 0, 1) := by decide +kernel
theorem dl_842 : decode code 842 = .ok (.iload 4, 2) := by decide +kernel
theorem dl_844 : decode code 844 = .ok (.iconst 1, 1) := by decide +kernel
theorem dl_845 : decode code 845 = .ok (.iadd, 1) := by decide +kernel
theorem dl_846 : decode code 846 = .ok (.iaload, 1) := by decide +kernel
theorem dl_847 : decode code 847 = .ok (.invokevirtual 171, 3) := by decide +kernel
theorem dl_850 : decode code 850 = .ok (.istore 6, 2) := by decide +kernel
theorem dl_852 : decode code 852 = .ok (.aload_n 2, 1) := by decide +kernel
theorem dl_853 : decode code 853 = .ok (.invokevirtual 118, 3) := by decide +kernel
theorem dl_856 : decode code 856 = .ok (.iload 5, 2) := by decide +kernel
theorem dl_858 : decode code 858 = .ok (.if_icmp .eq 5, 3) := by decide +kernel
theorem dl_863 : decode code 863 = .ok (.iload 5, 2) := by decide +kernel
theorem dl_865 : decode code 865 = .ok (.ifCond .ne 15, 3) := by decide +kernel
theorem dl_868 : decode code 868 = .ok (.aload_n 3, 1) := by decide +kernel
theorem dl_869 : decode code 869 = .ok (.iconst 0, 1) := by decide +kernel
theorem dl_870 : decode code 870 = .ok (.laload, 1) := by decide +kernel
theorem dl_871 : decode code 871 = .ok (.iload 6, 2) := by decide +kernel
theorem dl_873 : decode code 873 = .ok (.i2l, 1) := by decide +kernel
theorem dl_874 : decode code 874 = .ok (.lcmp, 1) := by decide +kernel
theorem dl_875 : decode code 875 = .ok (.ifCond .eq 5, 3) := by decide +kernel
theorem dl_880 : decode code 880 = .ok (.goto 1020, 3) := by decide +kernel
theorem dl_883 : decode code 883 = .ok (.aload_n 1, 1) := by decide +kernel
theorem dl_884 : decode code 884 = .ok (.aload_n 0, 1) := by decide +kernel
theorem dl_885 : decode code 885 = .ok (.iload 4, 2) := by decide +kernel
theorem dl_887 : decode code 887 = .ok (.iconst 1, 1) := by decide +kernel
theorem dl_888 : decode code 888 = .ok (.iadd, 1) := by decide +kernel
theorem dl_889 : decode code 889 = .ok (.iaload, 1) := by decide +kernel
theorem dl_890 : decode code 890 = .ok (.aload_n 3, 1) := by decide +kernel
theorem dl_891 : decode code 891 = .ok (.invokestatic 172, 3) := by decide +kernel
theorem dl_894 : decode code 894 = .ok (.istore 5, 2) := by decide +kernel
theorem dl_896 : decode code 896 = .ok (.aload_n 2, 1) := by decide +kernel
theorem dl_897 : decode code 897 = .ok (.aload_n 0, 1) := by decide +kernel
theorem dl_898 : decode code 898 = .ok (.iload 4, 2) := by decide +kernel
theorem dl_900 : decode code 900 = .ok (.iconst 1, 1) := by decide +kernel
theorem dl_901 : decode code 901 = .ok (.iadd, 1) := by decide +kernel
theorem dl_902 : decode code 902 = .ok (.iaload, 1) := by decide +kernel
theorem dl_903 : decode code 903 = .ok (.invokevirtual 174, 3) := by decide +kernel
theorem dl_906 : decode code 906 = .ok (.istore 6, 2) := by decide +kernel
theorem dl_908 : decode code 908 = .ok (.aload_n 2, 1) := by decide +kernel
theorem dl_909 : decode code 909 = .ok (.invokevirtual 118, 3) := by decide +kernel
theorem dl_912 : decode code 912 = .ok (.iload 5, 2) := by decide +kernel
theorem dl_914 : decode code 914 = .ok (.if_icmp .eq 5, 3) := by decide +kernel
theorem dl_919 : decode code 919 = .ok (.iload 5, 2) := by decide +kernel
theorem dl_921 : decode code 921 = .ok (.ifCond .ne 15, 3) := by decide +kernel
theorem dl_924 : decode code 924 = .ok (.aload_n 3, 1) := by decide +kernel
theorem dl_925 : decode code 925 = .ok (.iconst 0, 1) := by decide +kernel
theorem dl_926 : decode code 926 = .ok (.laload, 1) := by decide +kernel
theorem dl_927 : decode code 927 = .ok (.iload 6, 2) := by decide +kernel
theorem dl_929 : decode code 929 = .ok (.i2l, 1) := by decide +kernel
