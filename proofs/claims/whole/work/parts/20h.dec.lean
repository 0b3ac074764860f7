/-! decode rows of the law -/
theorem dl_930 : decode code 930 = .ok (.lcmp, 1) := by decide +kernel
theorem dl_931 : decode code 931 = .ok (.ifCond .eq 5, 3) := by decide +kernel
theorem dl_936 : decode code 936 = .ok (.goto 964, 3) := by decide +kernel
theorem dl_939 : decode code 939 = .ok (.aload_n 1, 1) := by decide +kernel
theorem dl_940 : decode code 940 = .ok (.invokevirtual 175, 3) := by decide +kernel
theorem dl_943 : decode code 943 = .ok (.aload_n 2, 1) := by decide +kernel
theorem dl_944 : decode code 944 = .ok (.invokevirtual 178, 3) := by decide +kernel
theorem dl_947 : decode code 947 = .ok (.if_icmp .eq 953, 3) := by decide +kernel
theorem dl_952 : decode code 952 = .ok (.aload_n 1, 1) := by decide +kernel
theorem dl_953 : decode code 953 = .ok (.invokevirtual 179, 3) := by decide +kernel
theorem dl_956 : decode code 956 = .ok (.aload_n 2, 1) := by decide +kernel
theorem dl_957 : decode code 957 = .ok (.invokevirtual 182, 3) := by decide +kernel
theorem dl_960 : decode code 960 = .ok (.if_icmp .eq 940, 3) := by decide +kernel
theorem dl_965 : decode code 965 = .ok (.aload_n 1, 1) := by decide +kernel
theorem dl_966 : decode code 966 = .ok (.invokevirtual 183, 3) := by decide +kernel
theorem dl_969 : decode code 969 = .ok (.aload_n 2, 1) := by decide +kernel
theorem dl_970 : decode code 970 = .ok (.invokevirtual 186, 3) := by decide +kernel
theorem dl_973 : decode code 973 = .ok (.if_icmp .eq 927, 3) := by decide +kernel
theorem dl_978 : decode code 978 = .ok (.aload_n 1, 1) := by decide +kernel
theorem dl_979 : decode code 979 = .ok (.invokevirtual 187, 3) := by decide +kernel
theorem dl_982 : decode code 982 = .ok (.aload_n 2, 1) := by decide +kernel
theorem dl_983 : decode code 983 = .ok (.invokevirtual 191, 3) := by decide +kernel
theorem dl_986 : decode code 986 = .ok (.if_icmp .eq 914, 3) := by decide +kernel
theorem dl_991 : decode code 991 = .ok (.aload_n 1, 1) := by decide +kernel
theorem dl_992 : decode code 992 = .ok (.aload_n 0, 1) := by decide +kernel
theorem dl_993 : decode code 993 = .ok (.iload 4, 2) := by decide +kernel
theorem dl_995 : decode code 995 = .ok (.iconst 1, 1) := by decide +kernel
theorem dl_996 : decode code 996 = .ok (.iadd, 1) := by decide +kernel
theorem dl_997 : decode code 997 = .ok (.iaload, 1) := by decide +kernel
theorem dl_998 : decode code 998 = .ok (.aload_n 3, 1) := by decide +kernel
theorem dl_999 : decode code 999 = .ok (.invokestatic 192, 3) := by decide +kernel
theorem dl_1002 : decode code 1002 = .ok (.istore 5, 2) := by decide +kernel
theorem dl_1004 : decode code 1004 = .ok (.aload_n 2, 1) := by decide +kernel
theorem dl_1005 : decode code 1005 = .ok (.aload_n 0, 1) := by decide +kernel
theorem dl_1006 : decode code 1006 = .ok (.iload 4, 2) := by decide +kernel
theorem dl_1008 : decode code 1008 = .ok (.iconst 1, 1) := by decide +kernel
theorem dl_1009 : decode code 1009 = .ok (.iadd, 1) := by decide +kernel
theorem dl_1010 : decode code 1010 = .ok (.iaload, 1) := by decide +kernel
theorem dl_1011 : decode code 1011 = .ok (.invokevirtual 194, 3) := by decide +kernel
theorem dl_1014 : decode code 1014 = .ok (.lstore 6, 2) := by decide +kernel
theorem dl_1016 : decode code 1016 = .ok (.aload_n 2, 1) := by decide +kernel
theorem dl_1017 : decode code 1017 = .ok (.invokevirtual 118, 3) := by decide +kernel
theorem dl_1020 : decode code 1020 = .ok (.iload 5, 2) := by decide +kernel
theorem dl_1022 : decode code 1022 = .ok (.if_icmp .eq 5, 3) := by decide +kernel
theorem dl_1027 : decode code 1027 = .ok (.iload 5, 2) := by decide +kernel
theorem dl_1029 : decode code 1029 = .ok (.ifCond .ne 14, 3) := by decide +kernel
theorem dl_1032 : decode code 1032 = .ok (.aload_n 3, 1) := by decide +kernel
theorem dl_1033 : decode code 1033 = .ok (.iconst 0, 1) := by decide +kernel
theorem dl_1034 : decode code 1034 = .ok (.laload, 1) := by decide +kernel
theorem dl_1035 : decode code 1035 = .ok (.lload 6, 2) := by decide +kernel
theorem dl_1037 : decode code 1037 = .ok (.lcmp, 1) := by decide +kernel
theorem dl_1038 : decode code 1038 = .ok (.ifCond .eq 5, 3) := by decide +kernel
theorem dl_1043 : decode code 1043 = .ok (.goto 857, 3) := by decide +kernel
theorem dl_1046 : decode code 1046 = .ok (.aload_n 1, 1) := by decide +kernel
theorem dl_1047 : decode code 1047 = .ok (.invokevirtual 195, 3) := by decide +kernel
theorem dl_1050 : decode code 1050 = .ok (.aload_n 2, 1) := by decide +kernel
theorem dl_1051 : decode code 1051 = .ok (.invokevirtual 198, 3) := by decide +kernel
theorem dl_1054 : decode code 1054 = .ok (.if_icmp .eq 846, 3) := by decide +kernel
theorem dl_1059 : decode code 1059 = .ok (.aload_n 1, 1) := by decide +kernel
theorem dl_1060 : decode code 1060 = .ok (.aload_n 3, 1) := by decide +kernel
