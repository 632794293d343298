/-! decode rows of the law (by gen72.py) -/
theorem lx_d_350 : decode code 350 = .ok (.iconst 1, 1) := by decide +kernel
theorem lx_d_351 : decode code 351 = .ok (.iadd, 1) := by decide +kernel
theorem lx_d_352 : decode code 352 = .ok (.iaload, 1) := by decide +kernel
theorem lx_d_353 : decode code 353 = .ok (.invokevirtual 35, 3) := by decide +kernel
theorem lx_d_356 : decode code 356 = .ok (.if_icmp .eq 1010, 3) := by decide +kernel
theorem lx_d_359 : decode code 359 = .ok (.iconst 0, 1) := by decide +kernel
theorem lx_d_360 : decode code 360 = .ok (.ireturn, 1) := by decide +kernel
theorem lx_d_361 : decode code 361 = .ok (.aload_n 1, 1) := by decide +kernel
theorem lx_d_362 : decode code 362 = .ok (.invokevirtual 36, 3) := by decide +kernel
theorem lx_d_365 : decode code 365 = .ok (.aload_n 2, 1) := by decide +kernel
theorem lx_d_366 : decode code 366 = .ok (.invokevirtual 40, 3) := by decide +kernel
theorem lx_d_369 : decode code 369 = .ok (.if_icmp .eq 997, 3) := by decide +kernel
theorem lx_d_372 : decode code 372 = .ok (.iconst 0, 1) := by decide +kernel
theorem lx_d_373 : decode code 373 = .ok (.ireturn, 1) := by decide +kernel
theorem lx_d_374 : decode code 374 = .ok (.aload_n 1, 1) := by decide +kernel
theorem lx_d_375 : decode code 375 = .ok (.aload_n 0, 1) := by decide +kernel
theorem lx_d_376 : decode code 376 = .ok (.iload_n 3, 1) := by decide +kernel
theorem lx_d_377 : decode code 377 = .ok (.iconst 1, 1) := by decide +kernel
theorem lx_d_378 : decode code 378 = .ok (.iadd, 1) := by decide +kernel
theorem lx_d_379 : decode code 379 = .ok (.iaload, 1) := by decide +kernel
theorem lx_d_380 : decode code 380 = .ok (.aload_n 0, 1) := by decide +kernel
theorem lx_d_381 : decode code 381 = .ok (.iload_n 3, 1) := by decide +kernel
theorem lx_d_382 : decode code 382 = .ok (.iconst 2, 1) := by decide +kernel
theorem lx_d_383 : decode code 383 = .ok (.iadd, 1) := by decide +kernel
theorem lx_d_384 : decode code 384 = .ok (.iaload, 1) := by decide +kernel
theorem lx_d_385 : decode code 385 = .ok (.aload_n 0, 1) := by decide +kernel
theorem lx_d_386 : decode code 386 = .ok (.iload_n 3, 1) := by decide +kernel
theorem lx_d_387 : decode code 387 = .ok (.iconst 3, 1) := by decide +kernel
theorem lx_d_388 : decode code 388 = .ok (.iadd, 1) := by decide +kernel
theorem lx_d_389 : decode code 389 = .ok (.iaload, 1) := by decide +kernel
theorem lx_d_390 : decode code 390 = .ok (.invokevirtual 41, 3) := by decide +kernel
theorem lx_d_393 : decode code 393 = .ok (.aload_n 2, 1) := by decide +kernel
theorem lx_d_394 : decode code 394 = .ok (.aload_n 0, 1) := by decide +kernel
theorem lx_d_395 : decode code 395 = .ok (.iload_n 3, 1) := by decide +kernel
theorem lx_d_396 : decode code 396 = .ok (.iconst 1, 1) := by decide +kernel
theorem lx_d_397 : decode code 397 = .ok (.iadd, 1) := by decide +kernel
theorem lx_d_398 : decode code 398 = .ok (.iaload, 1) := by decide +kernel
theorem lx_d_399 : decode code 399 = .ok (.aload_n 0, 1) := by decide +kernel
theorem lx_d_400 : decode code 400 = .ok (.iload_n 3, 1) := by decide +kernel
theorem lx_d_401 : decode code 401 = .ok (.iconst 2, 1) := by decide +kernel
theorem lx_d_402 : decode code 402 = .ok (.iadd, 1) := by decide +kernel
theorem lx_d_403 : decode code 403 = .ok (.iaload, 1) := by decide +kernel
theorem lx_d_404 : decode code 404 = .ok (.aload_n 0, 1) := by decide +kernel
theorem lx_d_405 : decode code 405 = .ok (.iload_n 3, 1) := by decide +kernel
theorem lx_d_406 : decode code 406 = .ok (.iconst 3, 1) := by decide +kernel
theorem lx_d_407 : decode code 407 = .ok (.iadd, 1) := by decide +kernel
theorem lx_d_408 : decode code 408 = .ok (.iaload, 1) := by decide +kernel
theorem lx_d_409 : decode code 409 = .ok (.invokevirtual 45, 3) := by decide +kernel
theorem lx_d_412 : decode code 412 = .ok (.lcmp, 1) := by decide +kernel
theorem lx_d_413 : decode code 413 = .ok (.ifCond .eq 953, 3) := by decide +kernel
