/-! decode rows of the law (by gen72.py) -/
theorem lx_d_416 : decode code 416 = .ok (.iconst 0, 1) := by decide +kernel
theorem lx_d_417 : decode code 417 = .ok (.ireturn, 1) := by decide +kernel
theorem lx_d_418 : decode code 418 = .ok (.aload_n 1, 1) := by decide +kernel
theorem lx_d_419 : decode code 419 = .ok (.aload_n 0, 1) := by decide +kernel
theorem lx_d_420 : decode code 420 = .ok (.iload_n 3, 1) := by decide +kernel
theorem lx_d_421 : decode code 421 = .ok (.iconst 1, 1) := by decide +kernel
theorem lx_d_422 : decode code 422 = .ok (.iadd, 1) := by decide +kernel
theorem lx_d_423 : decode code 423 = .ok (.iaload, 1) := by decide +kernel
theorem lx_d_424 : decode code 424 = .ok (.aload_n 0, 1) := by decide +kernel
theorem lx_d_425 : decode code 425 = .ok (.iload_n 3, 1) := by decide +kernel
theorem lx_d_426 : decode code 426 = .ok (.iconst 2, 1) := by decide +kernel
theorem lx_d_427 : decode code 427 = .ok (.iadd, 1) := by decide +kernel
theorem lx_d_428 : decode code 428 = .ok (.iaload, 1) := by decide +kernel
theorem lx_d_429 : decode code 429 = .ok (.aload_n 0, 1) := by decide +kernel
theorem lx_d_430 : decode code 430 = .ok (.iload_n 3, 1) := by decide +kernel
theorem lx_d_431 : decode code 431 = .ok (.iconst 3, 1) := by decide +kernel
theorem lx_d_432 : decode code 432 = .ok (.iadd, 1) := by decide +kernel
theorem lx_d_433 : decode code 433 = .ok (.iaload, 1) := by decide +kernel
theorem lx_d_434 : decode code 434 = .ok (.invokevirtual 46, 3) := by decide +kernel
theorem lx_d_437 : decode code 437 = .ok (.aload_n 2, 1) := by decide +kernel
theorem lx_d_438 : decode code 438 = .ok (.aload_n 0, 1) := by decide +kernel
theorem lx_d_439 : decode code 439 = .ok (.iload_n 3, 1) := by decide +kernel
theorem lx_d_440 : decode code 440 = .ok (.iconst 1, 1) := by decide +kernel
theorem lx_d_441 : decode code 441 = .ok (.iadd, 1) := by decide +kernel
theorem lx_d_442 : decode code 442 = .ok (.iaload, 1) := by decide +kernel
theorem lx_d_443 : decode code 443 = .ok (.aload_n 0, 1) := by decide +kernel
theorem lx_d_444 : decode code 444 = .ok (.iload_n 3, 1) := by decide +kernel
theorem lx_d_445 : decode code 445 = .ok (.iconst 2, 1) := by decide +kernel
theorem lx_d_446 : decode code 446 = .ok (.iadd, 1) := by decide +kernel
theorem lx_d_447 : decode code 447 = .ok (.iaload, 1) := by decide +kernel
theorem lx_d_448 : decode code 448 = .ok (.aload_n 0, 1) := by decide +kernel
theorem lx_d_449 : decode code 449 = .ok (.iload_n 3, 1) := by decide +kernel
theorem lx_d_450 : decode code 450 = .ok (.iconst 3, 1) := by decide +kernel
theorem lx_d_451 : decode code 451 = .ok (.iadd, 1) := by decide +kernel
theorem lx_d_452 : decode code 452 = .ok (.iaload, 1) := by decide +kernel
theorem lx_d_453 : decode code 453 = .ok (.invokevirtual 49, 3) := by decide +kernel
theorem lx_d_456 : decode code 456 = .ok (.lcmp, 1) := by decide +kernel
theorem lx_d_457 : decode code 457 = .ok (.ifCond .eq 909, 3) := by decide +kernel
theorem lx_d_460 : decode code 460 = .ok (.iconst 0, 1) := by decide +kernel
theorem lx_d_461 : decode code 461 = .ok (.ireturn, 1) := by decide +kernel
theorem lx_d_462 : decode code 462 = .ok (.aload_n 1, 1) := by decide +kernel
theorem lx_d_463 : decode code 463 = .ok (.aload_n 0, 1) := by decide +kernel
theorem lx_d_464 : decode code 464 = .ok (.iload_n 3, 1) := by decide +kernel
theorem lx_d_465 : decode code 465 = .ok (.iconst 1, 1) := by decide +kernel
theorem lx_d_466 : decode code 466 = .ok (.iadd, 1) := by decide +kernel
theorem lx_d_467 : decode code 467 = .ok (.iaload, 1) := by decide +kernel
theorem lx_d_468 : decode code 468 = .ok (.invokevirtual 50, 3) := by decide +kernel
theorem lx_d_471 : decode code 471 = .ok (.aload_n 2, 1) := by decide +kernel
theorem lx_d_472 : decode code 472 = .ok (.aload_n 0, 1) := by decide +kernel
theorem lx_d_473 : decode code 473 = .ok (.iload_n 3, 1) := by decide +kernel
