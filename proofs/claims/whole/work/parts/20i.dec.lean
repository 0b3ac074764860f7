/-! decode rows of the law -/
theorem dl_1061 : decode code 1061 = .ok (.invokestatic 199, 3) := by decide +kernel
theorem dl_1064 : decode code 1064 = .ok (.istore 5, 2) := by decide +kernel
theorem dl_1066 : decode code 1066 = .ok (.aload_n 2, 1) := by decide +kernel
theorem dl_1067 : decode code 1067 = .ok (.invokevirtual 201, 3) := by decide +kernel
theorem dl_1070 : decode code 1070 = .ok (.istore 6, 2) := by decide +kernel
theorem dl_1072 : decode code 1072 = .ok (.aload_n 2, 1) := by decide +kernel
theorem dl_1073 : decode code 1073 = .ok (.invokevirtual 118, 3) := by decide +kernel
theorem dl_1076 : decode code 1076 = .ok (.iload 5, 2) := by decide +kernel
theorem dl_1078 : decode code 1078 = .ok (.if_icmp .eq 5, 3) := by decide +kernel
theorem dl_1083 : decode code 1083 = .ok (.iload 5, 2) := by decide +kernel
theorem dl_1085 : decode code 1085 = .ok (.ifCond .ne 15, 3) := by decide +kernel
theorem dl_1088 : decode code 1088 = .ok (.aload_n 3, 1) := by decide +kernel
theorem dl_1089 : decode code 1089 = .ok (.iconst 0, 1) := by decide +kernel
theorem dl_1090 : decode code 1090 = .ok (.laload, 1) := by decide +kernel
theorem dl_1091 : decode code 1091 = .ok (.iload 6, 2) := by decide +kernel
theorem dl_1093 : decode code 1093 = .ok (.i2l, 1) := by decide +kernel
theorem dl_1094 : decode code 1094 = .ok (.lcmp, 1) := by decide +kernel
theorem dl_1095 : decode code 1095 = .ok (.ifCond .eq 5, 3) := by decide +kernel
theorem dl_1100 : decode code 1100 = .ok (.goto 800, 3) := by decide +kernel
theorem dl_1103 : decode code 1103 = .ok (.aload_n 1, 1) := by decide +kernel
theorem dl_1104 : decode code 1104 = .ok (.invokevirtual 202, 3) := by decide +kernel
theorem dl_1107 : decode code 1107 = .ok (.aload_n 2, 1) := by decide +kernel
theorem dl_1108 : decode code 1108 = .ok (.invokevirtual 205, 3) := by decide +kernel
theorem dl_1111 : decode code 1111 = .ok (.if_icmp .eq 789, 3) := by decide +kernel
theorem dl_1116 : decode code 1116 = .ok (.aload_n 1, 1) := by decide +kernel
theorem dl_1117 : decode code 1117 = .ok (.invokevirtual 206, 3) := by decide +kernel
theorem dl_1120 : decode code 1120 = .ok (.aload_n 2, 1) := by decide +kernel
theorem dl_1121 : decode code 1121 = .ok (.invokevirtual 209, 3) := by decide +kernel
theorem dl_1124 : decode code 1124 = .ok (.if_icmp .eq 776, 3) := by decide +kernel
theorem dl_1129 : decode code 1129 = .ok (.aload_n 1, 1) := by decide +kernel
theorem dl_1130 : decode code 1130 = .ok (.aload_n 0, 1) := by decide +kernel
theorem dl_1131 : decode code 1131 = .ok (.iload 4, 2) := by decide +kernel
theorem dl_1133 : decode code 1133 = .ok (.iconst 1, 1) := by decide +kernel
theorem dl_1134 : decode code 1134 = .ok (.iadd, 1) := by decide +kernel
theorem dl_1135 : decode code 1135 = .ok (.iaload, 1) := by decide +kernel
theorem dl_1136 : decode code 1136 = .ok (.aload_n 3, 1) := by decide +kernel
theorem dl_1137 : decode code 1137 = .ok (.invokestatic 210, 3) := by decide +kernel
theorem dl_1140 : decode code 1140 = .ok (.istore 5, 2) := by decide +kernel
theorem dl_1142 : decode code 1142 = .ok (.aload_n 2, 1) := by decide +kernel
theorem dl_1143 : decode code 1143 = .ok (.aload_n 0, 1) := by decide +kernel
theorem dl_1144 : decode code 1144 = .ok (.iload 4, 2) := by decide +kernel
theorem dl_1146 : decode code 1146 = .ok (.iconst 1, 1) := by decide +kernel
theorem dl_1147 : decode code 1147 = .ok (.iadd, 1) := by decide +kernel
theorem dl_1148 : decode code 1148 = .ok (.iaload, 1) := by decide +kernel
theorem dl_1149 : decode code 1149 = .ok (.invokevirtual 212, 3) := by decide +kernel
theorem dl_1152 : decode code 1152 = .ok (.istore 6, 2) := by decide +kernel
theorem dl_1154 : decode code 1154 = .ok (.aload_n 2, 1) := by decide +kernel
theorem dl_1155 : decode code 1155 = .ok (.invokevirtual 118, 3) := by decide +kernel
theorem dl_1158 : decode code 1158 = .ok (.iload 5, 2) := by decide +kernel
theorem dl_1160 : decode code 1160 = .ok (.if_icmp .eq 5, 3) := by decide +kernel
theorem dl_1165 : decode code 1165 = .ok (.iload 5, 2) := by decide +kernel
theorem dl_1167 : decode code 1167 = .ok (.ifCond .ne 15, 3) := by decide +kernel
theorem dl_1170 : decode code 1170 = .ok (.aload_n 3, 1) := by decide +kernel
theorem dl_1171 : decode code 1171 = .ok (.iconst 0, 1) := by decide +kernel
theorem dl_1172 : decode code 1172 = .ok (.laload, 1) := by decide +kernel
theorem dl_1173 : decode code 1173 = .ok (.iload 6, 2) := by decide +kernel
theorem dl_1175 : decode code 1175 = .ok (.i2l, 1) := by decide +kernel
theorem dl_1176 : decode code 1176 = .ok (.lcmp, 1) := by decide +kernel
theorem dl_1177 : decode code 1177 = .ok (.ifCond .eq 5, 3) := by decide +kernel
theorem dl_1182 : decode code 1182 = .ok (.goto 718, 3) := by decide +kernel
