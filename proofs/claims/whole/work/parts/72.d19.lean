/-! decode rows of the law (by gen72.py) -/
theorem lx_d_1346 : decode code 1346 = .ok (.iconst 1, 1) := by decide +kernel
theorem lx_d_1347 : decode code 1347 = .ok (.iadd, 1) := by decide +kernel
theorem lx_d_1348 : decode code 1348 = .ok (.iaload, 1) := by decide +kernel
theorem lx_d_1349 : decode code 1349 = .ok (.invokevirtual 168, 3) := by decide +kernel
theorem lx_d_1352 : decode code 1352 = .ok (.aload_n 2, 1) := by decide +kernel
theorem lx_d_1353 : decode code 1353 = .ok (.aload_n 0, 1) := by decide +kernel
theorem lx_d_1354 : decode code 1354 = .ok (.iload_n 3, 1) := by decide +kernel
theorem lx_d_1355 : decode code 1355 = .ok (.iconst 1, 1) := by decide +kernel
theorem lx_d_1356 : decode code 1356 = .ok (.iadd, 1) := by decide +kernel
theorem lx_d_1357 : decode code 1357 = .ok (.iaload, 1) := by decide +kernel
theorem lx_d_1358 : decode code 1358 = .ok (.invokevirtual 171, 3) := by decide +kernel
theorem lx_d_1361 : decode code 1361 = .ok (.if_icmp .eq 5, 3) := by decide +kernel
theorem lx_d_1364 : decode code 1364 = .ok (.iconst 0, 1) := by decide +kernel
theorem lx_d_1365 : decode code 1365 = .ok (.ireturn, 1) := by decide +kernel
theorem lx_d_1366 : decode code 1366 = .ok (.iinc 3 6, 3) := by decide +kernel
theorem lx_d_1369 : decode code 1369 = .ok (.goto (-1351), 3) := by decide +kernel
theorem lx_d_1372 : decode code 1372 = .ok (.iconst 1, 1) := by decide +kernel
theorem lx_d_1373 : decode code 1373 = .ok (.ireturn, 1) := by decide +kernel
