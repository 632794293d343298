/-! decode rows of the law (by gen72.py) -/
theorem lx_d_288 : decode code 288 = .ok (.iload_n 3, 1) := by decide +kernel
theorem lx_d_289 : decode code 289 = .ok (.iconst 2, 1) := by decide +kernel
theorem lx_d_290 : decode code 290 = .ok (.iadd, 1) := by decide +kernel
theorem lx_d_291 : decode code 291 = .ok (.iaload, 1) := by decide +kernel
theorem lx_d_292 : decode code 292 = .ok (.aload_n 0, 1) := by decide +kernel
theorem lx_d_293 : decode code 293 = .ok (.iload_n 3, 1) := by decide +kernel
theorem lx_d_294 : decode code 294 = .ok (.iconst 3, 1) := by decide +kernel
theorem lx_d_295 : decode code 295 = .ok (.iadd, 1) := by decide +kernel
theorem lx_d_296 : decode code 296 = .ok (.iaload, 1) := by decide +kernel
theorem lx_d_297 : decode code 297 = .ok (.invokevirtual 26, 3) := by decide +kernel
theorem lx_d_300 : decode code 300 = .ok (.if_icmp .eq 1066, 3) := by decide +kernel
theorem lx_d_303 : decode code 303 = .ok (.iconst 0, 1) := by decide +kernel
theorem lx_d_304 : decode code 304 = .ok (.ireturn, 1) := by decide +kernel
theorem lx_d_305 : decode code 305 = .ok (.aload_n 1, 1) := by decide +kernel
theorem lx_d_306 : decode code 306 = .ok (.aload_n 0, 1) := by decide +kernel
theorem lx_d_307 : decode code 307 = .ok (.iload_n 3, 1) := by decide +kernel
theorem lx_d_308 : decode code 308 = .ok (.iconst 1, 1) := by decide +kernel
theorem lx_d_309 : decode code 309 = .ok (.iadd, 1) := by decide +kernel
theorem lx_d_310 : decode code 310 = .ok (.iaload, 1) := by decide +kernel
theorem lx_d_311 : decode code 311 = .ok (.aload_n 0, 1) := by decide +kernel
theorem lx_d_312 : decode code 312 = .ok (.iload_n 3, 1) := by decide +kernel
theorem lx_d_313 : decode code 313 = .ok (.iconst 2, 1) := by decide +kernel
theorem lx_d_314 : decode code 314 = .ok (.iadd, 1) := by decide +kernel
theorem lx_d_315 : decode code 315 = .ok (.iaload, 1) := by decide +kernel
theorem lx_d_316 : decode code 316 = .ok (.invokevirtual 27, 3) := by decide +kernel
theorem lx_d_319 : decode code 319 = .ok (.aload_n 2, 1) := by decide +kernel
theorem lx_d_320 : decode code 320 = .ok (.aload_n 0, 1) := by decide +kernel
theorem lx_d_321 : decode code 321 = .ok (.iload_n 3, 1) := by decide +kernel
theorem lx_d_322 : decode code 322 = .ok (.iconst 1, 1) := by decide +kernel
theorem lx_d_323 : decode code 323 = .ok (.iadd, 1) := by decide +kernel
theorem lx_d_324 : decode code 324 = .ok (.iaload, 1) := by decide +kernel
theorem lx_d_325 : decode code 325 = .ok (.aload_n 0, 1) := by decide +kernel
theorem lx_d_326 : decode code 326 = .ok (.iload_n 3, 1) := by decide +kernel
theorem lx_d_327 : decode code 327 = .ok (.iconst 2, 1) := by decide +kernel
theorem lx_d_328 : decode code 328 = .ok (.iadd, 1) := by decide +kernel
theorem lx_d_329 : decode code 329 = .ok (.iaload, 1) := by decide +kernel
theorem lx_d_330 : decode code 330 = .ok (.invokevirtual 31, 3) := by decide +kernel
theorem lx_d_333 : decode code 333 = .ok (.if_icmp .eq 1033, 3) := by decide +kernel
theorem lx_d_336 : decode code 336 = .ok (.iconst 0, 1) := by decide +kernel
theorem lx_d_337 : decode code 337 = .ok (.ireturn, 1) := by decide +kernel
theorem lx_d_338 : decode code 338 = .ok (.aload_n 1, 1) := by decide +kernel
theorem lx_d_339 : decode code 339 = .ok (.aload_n 0, 1) := by decide +kernel
theorem lx_d_340 : decode code 340 = .ok (.iload_n 3, 1) := by decide +kernel
theorem lx_d_341 : decode code 341 = .ok (.iconst 1, 1) := by decide +kernel
theorem lx_d_342 : decode code 342 = .ok (.iadd, 1) := by decide +kernel
theorem lx_d_343 : decode code 343 = .ok (.iaload, 1) := by decide +kernel
theorem lx_d_344 : decode code 344 = .ok (.invokevirtual 32, 3) := by decide +kernel
theorem lx_d_347 : decode code 347 = .ok (.aload_n 2, 1) := by decide +kernel
theorem lx_d_348 : decode code 348 = .ok (.aload_n 0, 1) := by decide +kernel
theorem lx_d_349 : decode code 349 = .ok (.iload_n 3, 1) := by decide +kernel
