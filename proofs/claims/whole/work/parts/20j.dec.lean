/-! decode rows of the law -/
theorem dl_1185 : decode code 1185 = .ok (.aload_n 1, 1) := by decide +kernel
theorem dl_1186 : decode code 1186 = .ok (.aload_n 3, 1) := by decide +kernel
theorem dl_1187 : decode code 1187 = .ok (.invokestatic 213, 3) := by decide +kernel
theorem dl_1190 : decode code 1190 = .ok (.istore 5, 2) := by decide +kernel
theorem dl_1192 : decode code 1192 = .ok (.aload_n 2, 1) := by decide +kernel
theorem dl_1193 : decode code 1193 = .ok (.invokevirtual 215, 3) := by decide +kernel
theorem dl_1196 : decode code 1196 = .ok (.istore 6, 2) := by decide +kernel
theorem dl_1198 : decode code 1198 = .ok (.aload_n 2, 1) := by decide +kernel
theorem dl_1199 : decode code 1199 = .ok (.invokevirtual 118, 3) := by decide +kernel
theorem dl_1202 : decode code 1202 = .ok (.iload 5, 2) := by decide +kernel
theorem dl_1204 : decode code 1204 = .ok (.if_icmp .eq 5, 3) := by decide +kernel
theorem dl_1209 : decode code 1209 = .ok (.iload 5, 2) := by decide +kernel
theorem dl_1211 : decode code 1211 = .ok (.ifCond .ne 15, 3) := by decide +kernel
theorem dl_1214 : decode code 1214 = .ok (.aload_n 3, 1) := by decide +kernel
theorem dl_1215 : decode code 1215 = .ok (.iconst 0, 1) := by decide +kernel
theorem dl_1216 : decode code 1216 = .ok (.laload, 1) := by decide +kernel
theorem dl_1217 : decode code 1217 = .ok (.iload 6, 2) := by decide +kernel
theorem dl_1219 : decode code 1219 = .ok (.i2l, 1) := by decide +kernel
theorem dl_1220 : decode code 1220 = .ok (.lcmp, 1) := by decide +kernel
theorem dl_1221 : decode code 1221 = .ok (.ifCond .eq 5, 3) := by decide +kernel
theorem dl_1226 : decode code 1226 = .ok (.goto 674, 3) := by decide +kernel
theorem dl_1229 : decode code 1229 = .ok (.aload_n 1, 1) := by decide +kernel
theorem dl_1230 : decode code 1230 = .ok (.invokevirtual 216, 3) := by decide +kernel
theorem dl_1233 : decode code 1233 = .ok (.aload_n 2, 1) := by decide +kernel
theorem dl_1234 : decode code 1234 = .ok (.invokevirtual 219, 3) := by decide +kernel
theorem dl_1237 : decode code 1237 = .ok (.if_icmp .eq 663, 3) := by decide +kernel
theorem dl_1242 : decode code 1242 = .ok (.aload_n 1, 1) := by decide +kernel
theorem dl_1243 : decode code 1243 = .ok (.invokevirtual 220, 3) := by decide +kernel
theorem dl_1246 : decode code 1246 = .ok (.aload_n 2, 1) := by decide +kernel
theorem dl_1247 : decode code 1247 = .ok (.invokevirtual 223, 3) := by decide +kernel
theorem dl_1250 : decode code 1250 = .ok (.if_icmp .eq 650, 3) := by decide +kernel
theorem dl_1255 : decode code 1255 = .ok (.aload_n 1, 1) := by decide +kernel
theorem dl_1256 : decode code 1256 = .ok (.aload_n 0, 1) := by decide +kernel
theorem dl_1257 : decode code 1257 = .ok (.iload 4, 2) := by decide +kernel
theorem dl_1259 : decode code 1259 = .ok (.iconst 1, 1) := by decide +kernel
theorem dl_1260 : decode code 1260 = .ok (.iadd, 1) := by decide +kernel
theorem dl_1261 : decode code 1261 = .ok (.iaload, 1) := by decide +kernel
theorem dl_1262 : decode code 1262 = .ok (.aload_n 0, 1) := by decide +kernel
theorem dl_1263 : decode code 1263 = .ok (.iload 4, 2) := by decide +kernel
theorem dl_1265 : decode code 1265 = .ok (.iconst 2, 1) := by decide +kernel
theorem dl_1266 : decode code 1266 = .ok (.iadd, 1) := by decide +kernel
theorem dl_1267 : decode code 1267 = .ok (.iaload, 1) := by decide +kernel
theorem dl_1268 : decode code 1268 = .ok (.aload_n 3, 1) := by decide +kernel
theorem dl_1269 : decode code 1269 = .ok (.invokestatic 224, 3) := by decide +kernel
theorem dl_1272 : decode code 1272 = .ok (.istore 5, 2) := by decide +kernel
theorem dl_1274 : decode code 1274 = .ok (.aload_n 2, 1) := by decide +kernel
theorem dl_1275 : decode code 1275 = .ok (.aload_n 0, 1) := by decide +kernel
theorem dl_1276 : decode code 1276 = .ok (.iload 4, 2) := by decide +kernel
theorem dl_1278 : decode code 1278 = .ok (.iconst 1, 1) := by decide +kernel
theorem dl_1279 : decode code 1279 = .ok (.iadd, 1) := by decide +kernel
theorem dl_1280 : decode code 1280 = .ok (.iaload, 1) := by decide +kernel
theorem dl_1281 : decode code 1281 = .ok (.aload_n 0, 1) := by decide +kernel
theorem dl_1282 : decode code 1282 = .ok (.iload 4, 2) := by decide +kernel
theorem dl_1284 : decode code 1284 = .ok (.iconst 2, 1) := by decide +kernel
theorem dl_1285 : decode code 1285 = .ok (.iadd, 1) := by decide +kernel
theorem dl_1286 : decode code 1286 = .ok (.iaload, 1) := by decide +kernel
theorem dl_1287 : decode code 1287 = .ok (.invokevirtual 226, 3) := by decide +kernel
theorem dl_1290 : decode code 1290 = .ok (.istore 6, 2) := by decide +kernel
theorem dl_1292 : decode code 1292 = .ok (.aload_n 2, 1) := by decide +kernel
theorem dl_1293 : decode code 1293 = .ok (.invokevirtual 118, 3) := by decide +kernel
