/-! decode rows of the law (by gen72.py) -/
theorem lx_d_536 : decode code 536 = .ok (.iadd, 1) := by decide +kernel
theorem lx_d_537 : decode code 537 = .ok (.iaload, 1) := by decide +kernel
theorem lx_d_538 : decode code 538 = .ok (.aload_n 0, 1) := by decide +kernel
theorem lx_d_539 : decode code 539 = .ok (.iload_n 3, 1) := by decide +kernel
theorem lx_d_540 : decode code 540 = .ok (.iconst 3, 1) := by decide +kernel
theorem lx_d_541 : decode code 541 = .ok (.iadd, 1) := by decide +kernel
theorem lx_d_542 : decode code 542 = .ok (.iaload, 1) := by decide +kernel
theorem lx_d_543 : decode code 543 = .ok (.invokevirtual 61, 3) := by decide +kernel
theorem lx_d_546 : decode code 546 = .ok (.lcmp, 1) := by decide +kernel
theorem lx_d_547 : decode code 547 = .ok (.ifCond .eq 819, 3) := by decide +kernel
theorem lx_d_550 : decode code 550 = .ok (.iconst 0, 1) := by decide +kernel
theorem lx_d_551 : decode code 551 = .ok (.ireturn, 1) := by decide +kernel
theorem lx_d_552 : decode code 552 = .ok (.aload_n 1, 1) := by decide +kernel
theorem lx_d_553 : decode code 553 = .ok (.aload_n 0, 1) := by decide +kernel
theorem lx_d_554 : decode code 554 = .ok (.iload_n 3, 1) := by decide +kernel
theorem lx_d_555 : decode code 555 = .ok (.iconst 1, 1) := by decide +kernel
theorem lx_d_556 : decode code 556 = .ok (.iadd, 1) := by decide +kernel
theorem lx_d_557 : decode code 557 = .ok (.iaload, 1) := by decide +kernel
theorem lx_d_558 : decode code 558 = .ok (.aload_n 0, 1) := by decide +kernel
theorem lx_d_559 : decode code 559 = .ok (.iload_n 3, 1) := by decide +kernel
theorem lx_d_560 : decode code 560 = .ok (.iconst 2, 1) := by decide +kernel
theorem lx_d_561 : decode code 561 = .ok (.iadd, 1) := by decide +kernel
theorem lx_d_562 : decode code 562 = .ok (.iaload, 1) := by decide +kernel
theorem lx_d_563 : decode code 563 = .ok (.aload_n 0, 1) := by decide +kernel
theorem lx_d_564 : decode code 564 = .ok (.iload_n 3, 1) := by decide +kernel
theorem lx_d_565 : decode code 565 = .ok (.iconst 3, 1) := by decide +kernel
theorem lx_d_566 : decode code 566 = .ok (.iadd, 1) := by decide +kernel
theorem lx_d_567 : decode code 567 = .ok (.iaload, 1) := by decide +kernel
theorem lx_d_568 : decode code 568 = .ok (.invokevirtual 62, 3) := by decide +kernel
theorem lx_d_571 : decode code 571 = .ok (.aload_n 2, 1) := by decide +kernel
theorem lx_d_572 : decode code 572 = .ok (.aload_n 0, 1) := by decide +kernel
theorem lx_d_573 : decode code 573 = .ok (.iload_n 3, 1) := by decide +kernel
theorem lx_d_574 : decode code 574 = .ok (.iconst 1, 1) := by decide +kernel
theorem lx_d_575 : decode code 575 = .ok (.iadd, 1) := by decide +kernel
theorem lx_d_576 : decode code 576 = .ok (.iaload, 1) := by decide +kernel
theorem lx_d_577 : decode code 577 = .ok (.aload_n 0, 1) := by decide +kernel
theorem lx_d_578 : decode code 578 = .ok (.iload_n 3, 1) := by decide +kernel
theorem lx_d_579 : decode code 579 = .ok (.iconst 2, 1) := by decide +kernel
theorem lx_d_580 : decode code 580 = .ok (.iadd, 1) := by decide +kernel
theorem lx_d_581 : decode code 581 = .ok (.iaload, 1) := by decide +kernel
theorem lx_d_582 : decode code 582 = .ok (.aload_n 0, 1) := by decide +kernel
theorem lx_d_583 : decode code 583 = .ok (.iload_n 3, 1) := by decide +kernel
theorem lx_d_584 : decode code 584 = .ok (.iconst 3, 1) := by decide +kernel
theorem lx_d_585 : decode code 585 = .ok (.iadd, 1) := by decide +kernel
theorem lx_d_586 : decode code 586 = .ok (.iaload, 1) := by decide +kernel
theorem lx_d_587 : decode code 587 = .ok (.invokevirtual 65, 3) := by decide +kernel
theorem lx_d_590 : decode code 590 = .ok (.lcmp, 1) := by decide +kernel
theorem lx_d_591 : decode code 591 = .ok (.ifCond .eq 775, 3) := by decide +kernel
theorem lx_d_594 : decode code 594 = .ok (.iconst 0, 1) := by decide +kernel
theorem lx_d_595 : decode code 595 = .ok (.ireturn, 1) := by decide +kernel
