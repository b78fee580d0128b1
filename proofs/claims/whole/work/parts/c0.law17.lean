theorem dL_law_1250 : decode cL_law 1250 = .ok (.iadd, 1) := by decide +kernel
theorem dL_law_1251 : decode cL_law 1251 = .ok (.iaload, 1) := by decide +kernel
theorem dL_law_1252 : decode cL_law 1252 = .ok (.aload_n 0, 1) := by decide +kernel
theorem dL_law_1253 : decode cL_law 1253 = .ok (.iload_n 3, 1) := by decide +kernel
theorem dL_law_1254 : decode cL_law 1254 = .ok (.iconst 3, 1) := by decide +kernel
theorem dL_law_1255 : decode cL_law 1255 = .ok (.iadd, 1) := by decide +kernel
theorem dL_law_1256 : decode cL_law 1256 = .ok (.iaload, 1) := by decide +kernel
theorem dL_law_1257 : decode cL_law 1257 = .ok (.invokevirtual 117, 3) := by decide +kernel
theorem dL_law_1260 : decode cL_law 1260 = .ok (.aload_n 2, 1) := by decide +kernel
theorem dL_law_1261 : decode cL_law 1261 = .ok (.aload_n 0, 1) := by decide +kernel
theorem dL_law_1262 : decode cL_law 1262 = .ok (.iload_n 3, 1) := by decide +kernel
theorem dL_law_1263 : decode cL_law 1263 = .ok (.iconst 1, 1) := by decide +kernel
theorem dL_law_1264 : decode cL_law 1264 = .ok (.iadd, 1) := by decide +kernel
theorem dL_law_1265 : decode cL_law 1265 = .ok (.iaload, 1) := by decide +kernel
theorem dL_law_1266 : decode cL_law 1266 = .ok (.aload_n 0, 1) := by decide +kernel
theorem dL_law_1267 : decode cL_law 1267 = .ok (.iload_n 3, 1) := by decide +kernel
theorem dL_law_1268 : decode cL_law 1268 = .ok (.iconst 2, 1) := by decide +kernel
theorem dL_law_1269 : decode cL_law 1269 = .ok (.iadd, 1) := by decide +kernel
theorem dL_law_1270 : decode cL_law 1270 = .ok (.iaload, 1) := by decide +kernel
theorem dL_law_1271 : decode cL_law 1271 = .ok (.aload_n 0, 1) := by decide +kernel
theorem dL_law_1272 : decode cL_law 1272 = .ok (.iload_n 3, 1) := by decide +kernel
theorem dL_law_1273 : decode cL_law 1273 = .ok (.iconst 3, 1) := by decide +kernel
theorem dL_law_1274 : decode cL_law 1274 = .ok (.iadd, 1) := by decide +kernel
theorem dL_law_1275 : decode cL_law 1275 = .ok (.iaload, 1) := by decide +kernel
theorem dL_law_1276 : decode cL_law 1276 = .ok (.invokevirtual 120, 3) := by decide +kernel
theorem dL_law_1279 : decode cL_law 1279 = .ok (.if_icmp .eq 770, 3) := by decide +kernel
theorem dL_law_1282 : decode cL_law 1282 = .ok (.iconst 0, 1) := by decide +kernel
theorem dL_law_1283 : decode cL_law 1283 = .ok (.ireturn, 1) := by decide +kernel
theorem dL_law_1284 : decode cL_law 1284 = .ok (.aload_n 1, 1) := by decide +kernel
theorem dL_law_1285 : decode cL_law 1285 = .ok (.aload_n 0, 1) := by decide +kernel
theorem dL_law_1286 : decode cL_law 1286 = .ok (.iload_n 3, 1) := by decide +kernel
theorem dL_law_1287 : decode cL_law 1287 = .ok (.iconst 1, 1) := by decide +kernel
theorem dL_law_1288 : decode cL_law 1288 = .ok (.iadd, 1) := by decide +kernel
theorem dL_law_1289 : decode cL_law 1289 = .ok (.iaload, 1) := by decide +kernel
theorem dL_law_1290 : decode cL_law 1290 = .ok (.aload_n 0, 1) := by decide +kernel
theorem dL_law_1291 : decode cL_law 1291 = .ok (.iload_n 3, 1) := by decide +kernel
theorem dL_law_1292 : decode cL_law 1292 = .ok (.iconst 2, 1) := by decide +kernel
theorem dL_law_1293 : decode cL_law 1293 = .ok (.iadd, 1) := by decide +kernel
theorem dL_law_1294 : decode cL_law 1294 = .ok (.iaload, 1) := by decide +kernel
theorem dL_law_1295 : decode cL_law 1295 = .ok (.invokevirtual 121, 3) := by decide +kernel
theorem dL_law_1298 : decode cL_law 1298 = .ok (.aload_n 2, 1) := by decide +kernel
theorem dL_law_1299 : decode cL_law 1299 = .ok (.aload_n 0, 1) := by decide +kernel
theorem dL_law_1300 : decode cL_law 1300 = .ok (.iload_n 3, 1) := by decide +kernel
theorem dL_law_1301 : decode cL_law 1301 = .ok (.iconst 1, 1) := by decide +kernel
theorem dL_law_1302 : decode cL_law 1302 = .ok (.iadd, 1) := by decide +kernel
theorem dL_law_1303 : decode cL_law 1303 = .ok (.iaload, 1) := by decide +kernel
theorem dL_law_1304 : decode cL_law 1304 = .ok (.aload_n 0, 1) := by decide +kernel
theorem dL_law_1305 : decode cL_law 1305 = .ok (.iload_n 3, 1) := by decide +kernel
theorem dL_law_1306 : decode cL_law 1306 = .ok (.iconst 2, 1) := by decide +kernel
theorem dL_law_1307 : decode cL_law 1307 = .ok (.iadd, 1) := by decide +kernel
theorem dL_law_1308 : decode cL_law 1308 = .ok (.iaload, 1) := by decide +kernel
theorem dL_law_1309 : decode cL_law 1309 = .ok (.invokevirtual 124, 3) := by decide +kernel
