/-! decode rows of the law (by gen72.py) -/
theorem lx_d_474 : decode code 474 = .ok (.iconst 1, 1) := by decide +kernel
theorem lx_d_475 : decode code 475 = .ok (.iadd, 1) := by decide +kernel
theorem lx_d_476 : decode code 476 = .ok (.iaload, 1) := by decide +kernel
theorem lx_d_477 : decode code 477 = .ok (.invokevirtual 53, 3) := by decide +kernel
theorem lx_d_480 : decode code 480 = .ok (.if_icmp .eq 886, 3) := by decide +kernel
theorem lx_d_483 : decode code 483 = .ok (.iconst 0, 1) := by decide +kernel
theorem lx_d_484 : decode code 484 = .ok (.ireturn, 1) := by decide +kernel
theorem lx_d_485 : decode code 485 = .ok (.aload_n 1, 1) := by decide +kernel
theorem lx_d_486 : decode code 486 = .ok (.aload_n 0, 1) := by decide +kernel
theorem lx_d_487 : decode code 487 = .ok (.iload_n 3, 1) := by decide +kernel
theorem lx_d_488 : decode code 488 = .ok (.iconst 1, 1) := by decide +kernel
theorem lx_d_489 : decode code 489 = .ok (.iadd, 1) := by decide +kernel
theorem lx_d_490 : decode code 490 = .ok (.iaload, 1) := by decide +kernel
theorem lx_d_491 : decode code 491 = .ok (.invokevirtual 54, 3) := by decide +kernel
theorem lx_d_494 : decode code 494 = .ok (.aload_n 2, 1) := by decide +kernel
theorem lx_d_495 : decode code 495 = .ok (.aload_n 0, 1) := by decide +kernel
theorem lx_d_496 : decode code 496 = .ok (.iload_n 3, 1) := by decide +kernel
theorem lx_d_497 : decode code 497 = .ok (.iconst 1, 1) := by decide +kernel
theorem lx_d_498 : decode code 498 = .ok (.iadd, 1) := by decide +kernel
theorem lx_d_499 : decode code 499 = .ok (.iaload, 1) := by decide +kernel
theorem lx_d_500 : decode code 500 = .ok (.invokevirtual 57, 3) := by decide +kernel
theorem lx_d_503 : decode code 503 = .ok (.if_icmp .eq 863, 3) := by decide +kernel
theorem lx_d_506 : decode code 506 = .ok (.iconst 0, 1) := by decide +kernel
theorem lx_d_507 : decode code 507 = .ok (.ireturn, 1) := by decide +kernel
theorem lx_d_508 : decode code 508 = .ok (.aload_n 1, 1) := by decide +kernel
theorem lx_d_509 : decode code 509 = .ok (.aload_n 0, 1) := by decide +kernel
theorem lx_d_510 : decode code 510 = .ok (.iload_n 3, 1) := by decide +kernel
theorem lx_d_511 : decode code 511 = .ok (.iconst 1, 1) := by decide +kernel
theorem lx_d_512 : decode code 512 = .ok (.iadd, 1) := by decide +kernel
theorem lx_d_513 : decode code 513 = .ok (.iaload, 1) := by decide +kernel
theorem lx_d_514 : decode code 514 = .ok (.aload_n 0, 1) := by decide +kernel
theorem lx_d_515 : decode code 515 = .ok (.iload_n 3, 1) := by decide +kernel
theorem lx_d_516 : decode code 516 = .ok (.iconst 2, 1) := by decide +kernel
theorem lx_d_517 : decode code 517 = .ok (.iadd, 1) := by decide +kernel
theorem lx_d_518 : decode code 518 = .ok (.iaload, 1) := by decide +kernel
theorem lx_d_519 : decode code 519 = .ok (.aload_n 0, 1) := by decide +kernel
theorem lx_d_520 : decode code 520 = .ok (.iload_n 3, 1) := by decide +kernel
theorem lx_d_521 : decode code 521 = .ok (.iconst 3, 1) := by decide +kernel
theorem lx_d_522 : decode code 522 = .ok (.iadd, 1) := by decide +kernel
theorem lx_d_523 : decode code 523 = .ok (.iaload, 1) := by decide +kernel
theorem lx_d_524 : decode code 524 = .ok (.invokevirtual 58, 3) := by decide +kernel
theorem lx_d_527 : decode code 527 = .ok (.aload_n 2, 1) := by decide +kernel
theorem lx_d_528 : decode code 528 = .ok (.aload_n 0, 1) := by decide +kernel
theorem lx_d_529 : decode code 529 = .ok (.iload_n 3, 1) := by decide +kernel
theorem lx_d_530 : decode code 530 = .ok (.iconst 1, 1) := by decide +kernel
theorem lx_d_531 : decode code 531 = .ok (.iadd, 1) := by decide +kernel
theorem lx_d_532 : decode code 532 = .ok (.iaload, 1) := by decide +kernel
theorem lx_d_533 : decode code 533 = .ok (.aload_n 0, 1) := by decide +kernel
theorem lx_d_534 : decode code 534 = .ok (.iload_n 3, 1) := by decide +kernel
theorem lx_d_535 : decode code 535 = .ok (.iconst 2, 1) := by decide +kernel
