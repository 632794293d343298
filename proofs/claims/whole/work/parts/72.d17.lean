/-! decode rows of the law (by gen72.py) -/
theorem lx_d_1230 : decode code 1230 = .ok (.iconst 1, 1) := by decide +kernel
theorem lx_d_1231 : decode code 1231 = .ok (.iadd, 1) := by decide +kernel
theorem lx_d_1232 : decode code 1232 = .ok (.iaload, 1) := by decide +kernel
theorem lx_d_1233 : decode code 1233 = .ok (.aload_n 0, 1) := by decide +kernel
theorem lx_d_1234 : decode code 1234 = .ok (.iload_n 3, 1) := by decide +kernel
theorem lx_d_1235 : decode code 1235 = .ok (.iconst 2, 1) := by decide +kernel
theorem lx_d_1236 : decode code 1236 = .ok (.iadd, 1) := by decide +kernel
theorem lx_d_1237 : decode code 1237 = .ok (.iaload, 1) := by decide +kernel
theorem lx_d_1238 : decode code 1238 = .ok (.invokevirtual 158, 3) := by decide +kernel
theorem lx_d_1241 : decode code 1241 = .ok (.lcmp, 1) := by decide +kernel
theorem lx_d_1242 : decode code 1242 = .ok (.ifCond .eq 124, 3) := by decide +kernel
theorem lx_d_1245 : decode code 1245 = .ok (.iconst 0, 1) := by decide +kernel
theorem lx_d_1246 : decode code 1246 = .ok (.ireturn, 1) := by decide +kernel
theorem lx_d_1247 : decode code 1247 = .ok (.aload_n 1, 1) := by decide +kernel
theorem lx_d_1248 : decode code 1248 = .ok (.aload_n 0, 1) := by decide +kernel
theorem lx_d_1249 : decode code 1249 = .ok (.iload_n 3, 1) := by decide +kernel
theorem lx_d_1250 : decode code 1250 = .ok (.iconst 1, 1) := by decide +kernel
theorem lx_d_1251 : decode code 1251 = .ok (.iadd, 1) := by decide +kernel
theorem lx_d_1252 : decode code 1252 = .ok (.iaload, 1) := by decide +kernel
theorem lx_d_1253 : decode code 1253 = .ok (.aload_n 0, 1) := by decide +kernel
theorem lx_d_1254 : decode code 1254 = .ok (.iload_n 3, 1) := by decide +kernel
theorem lx_d_1255 : decode code 1255 = .ok (.iconst 2, 1) := by decide +kernel
theorem lx_d_1256 : decode code 1256 = .ok (.iadd, 1) := by decide +kernel
theorem lx_d_1257 : decode code 1257 = .ok (.iaload, 1) := by decide +kernel
theorem lx_d_1258 : decode code 1258 = .ok (.aload_n 0, 1) := by decide +kernel
theorem lx_d_1259 : decode code 1259 = .ok (.iload_n 3, 1) := by decide +kernel
theorem lx_d_1260 : decode code 1260 = .ok (.iconst 3, 1) := by decide +kernel
theorem lx_d_1261 : decode code 1261 = .ok (.iadd, 1) := by decide +kernel
theorem lx_d_1262 : decode code 1262 = .ok (.iaload, 1) := by decide +kernel
theorem lx_d_1263 : decode code 1263 = .ok (.aload_n 0, 1) := by decide +kernel
theorem lx_d_1264 : decode code 1264 = .ok (.iload_n 3, 1) := by decide +kernel
theorem lx_d_1265 : decode code 1265 = .ok (.iconst 4, 1) := by decide +kernel
theorem lx_d_1266 : decode code 1266 = .ok (.iadd, 1) := by decide +kernel
theorem lx_d_1267 : decode code 1267 = .ok (.iaload, 1) := by decide +kernel
theorem lx_d_1268 : decode code 1268 = .ok (.aload_n 0, 1) := by decide +kernel
theorem lx_d_1269 : decode code 1269 = .ok (.iload_n 3, 1) := by decide +kernel
theorem lx_d_1270 : decode code 1270 = .ok (.iconst 5, 1) := by decide +kernel
theorem lx_d_1271 : decode code 1271 = .ok (.iadd, 1) := by decide +kernel
theorem lx_d_1272 : decode code 1272 = .ok (.iaload, 1) := by decide +kernel
theorem lx_d_1273 : decode code 1273 = .ok (.invokevirtual 159, 3) := by decide +kernel
theorem lx_d_1276 : decode code 1276 = .ok (.aload_n 2, 1) := by decide +kernel
theorem lx_d_1277 : decode code 1277 = .ok (.aload_n 0, 1) := by decide +kernel
theorem lx_d_1278 : decode code 1278 = .ok (.iload_n 3, 1) := by decide +kernel
theorem lx_d_1279 : decode code 1279 = .ok (.iconst 1, 1) := by decide +kernel
theorem lx_d_1280 : decode code 1280 = .ok (.iadd, 1) := by decide +kernel
theorem lx_d_1281 : decode code 1281 = .ok (.iaload, 1) := by decide +kernel
theorem lx_d_1282 : decode code 1282 = .ok (.aload_n 0, 1) := by decide +kernel
theorem lx_d_1283 : decode code 1283 = .ok (.iload_n 3, 1) := by decide +kernel
theorem lx_d_1284 : decode code 1284 = .ok (.iconst 2, 1) := by decide +kernel
theorem lx_d_1285 : decode code 1285 = .ok (.iadd, 1) := by decide +kernel
