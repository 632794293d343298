/-! decode rows of the law (by gen72.py) -/
theorem lx_d_1286 : decode code 1286 = .ok (.iaload, 1) := by decide +kernel
theorem lx_d_1287 : decode code 1287 = .ok (.aload_n 0, 1) := by decide +kernel
theorem lx_d_1288 : decode code 1288 = .ok (.iload_n 3, 1) := by decide +kernel
theorem lx_d_1289 : decode code 1289 = .ok (.iconst 3, 1) := by decide +kernel
theorem lx_d_1290 : decode code 1290 = .ok (.iadd, 1) := by decide +kernel
theorem lx_d_1291 : decode code 1291 = .ok (.iaload, 1) := by decide +kernel
theorem lx_d_1292 : decode code 1292 = .ok (.aload_n 0, 1) := by decide +kernel
theorem lx_d_1293 : decode code 1293 = .ok (.iload_n 3, 1) := by decide +kernel
theorem lx_d_1294 : decode code 1294 = .ok (.iconst 4, 1) := by decide +kernel
theorem lx_d_1295 : decode code 1295 = .ok (.iadd, 1) := by decide +kernel
theorem lx_d_1296 : decode code 1296 = .ok (.iaload, 1) := by decide +kernel
theorem lx_d_1297 : decode code 1297 = .ok (.aload_n 0, 1) := by decide +kernel
theorem lx_d_1298 : decode code 1298 = .ok (.iload_n 3, 1) := by decide +kernel
theorem lx_d_1299 : decode code 1299 = .ok (.iconst 5, 1) := by decide +kernel
theorem lx_d_1300 : decode code 1300 = .ok (.iadd, 1) := by decide +kernel
theorem lx_d_1301 : decode code 1301 = .ok (.iaload, 1) := by decide +kernel
theorem lx_d_1302 : decode code 1302 = .ok (.invokevirtual 163, 3) := by decide +kernel
theorem lx_d_1305 : decode code 1305 = .ok (.if_icmp .eq 61, 3) := by decide +kernel
theorem lx_d_1308 : decode code 1308 = .ok (.iconst 0, 1) := by decide +kernel
theorem lx_d_1309 : decode code 1309 = .ok (.ireturn, 1) := by decide +kernel
theorem lx_d_1310 : decode code 1310 = .ok (.aload_n 1, 1) := by decide +kernel
theorem lx_d_1311 : decode code 1311 = .ok (.aload_n 0, 1) := by decide +kernel
theorem lx_d_1312 : decode code 1312 = .ok (.iload_n 3, 1) := by decide +kernel
theorem lx_d_1313 : decode code 1313 = .ok (.iconst 1, 1) := by decide +kernel
theorem lx_d_1314 : decode code 1314 = .ok (.iadd, 1) := by decide +kernel
theorem lx_d_1315 : decode code 1315 = .ok (.iaload, 1) := by decide +kernel
theorem lx_d_1316 : decode code 1316 = .ok (.aload_n 0, 1) := by decide +kernel
theorem lx_d_1317 : decode code 1317 = .ok (.iload_n 3, 1) := by decide +kernel
theorem lx_d_1318 : decode code 1318 = .ok (.iconst 2, 1) := by decide +kernel
theorem lx_d_1319 : decode code 1319 = .ok (.iadd, 1) := by decide +kernel
theorem lx_d_1320 : decode code 1320 = .ok (.iaload, 1) := by decide +kernel
theorem lx_d_1321 : decode code 1321 = .ok (.invokevirtual 164, 3) := by decide +kernel
theorem lx_d_1324 : decode code 1324 = .ok (.aload_n 2, 1) := by decide +kernel
theorem lx_d_1325 : decode code 1325 = .ok (.aload_n 0, 1) := by decide +kernel
theorem lx_d_1326 : decode code 1326 = .ok (.iload_n 3, 1) := by decide +kernel
theorem lx_d_1327 : decode code 1327 = .ok (.iconst 1, 1) := by decide +kernel
theorem lx_d_1328 : decode code 1328 = .ok (.iadd, 1) := by decide +kernel
theorem lx_d_1329 : decode code 1329 = .ok (.iaload, 1) := by decide +kernel
theorem lx_d_1330 : decode code 1330 = .ok (.aload_n 0, 1) := by decide +kernel
theorem lx_d_1331 : decode code 1331 = .ok (.iload_n 3, 1) := by decide +kernel
theorem lx_d_1332 : decode code 1332 = .ok (.iconst 2, 1) := by decide +kernel
theorem lx_d_1333 : decode code 1333 = .ok (.iadd, 1) := by decide +kernel
theorem lx_d_1334 : decode code 1334 = .ok (.iaload, 1) := by decide +kernel
theorem lx_d_1335 : decode code 1335 = .ok (.invokevirtual 167, 3) := by decide +kernel
theorem lx_d_1338 : decode code 1338 = .ok (.if_icmp .eq 28, 3) := by decide +kernel
theorem lx_d_1341 : decode code 1341 = .ok (.iconst 0, 1) := by decide +kernel
theorem lx_d_1342 : decode code 1342 = .ok (.ireturn, 1) := by decide +kernel
theorem lx_d_1343 : decode code 1343 = .ok (.aload_n 1, 1) := by decide +kernel
theorem lx_d_1344 : decode code 1344 = .ok (.aload_n 0, 1) := by decide +kernel
theorem lx_d_1345 : decode code 1345 = .ok (.iload_n 3, 1) := by decide +kernel
