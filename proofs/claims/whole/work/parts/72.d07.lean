/-! decode rows of the law (by gen72.py) -/
theorem lx_d_596 : decode code 596 = .ok (.aload_n 1, 1) := by decide +kernel
theorem lx_d_597 : decode code 597 = .ok (.aload_n 0, 1) := by decide +kernel
theorem lx_d_598 : decode code 598 = .ok (.iload_n 3, 1) := by decide +kernel
theorem lx_d_599 : decode code 599 = .ok (.iconst 1, 1) := by decide +kernel
theorem lx_d_600 : decode code 600 = .ok (.iadd, 1) := by decide +kernel
theorem lx_d_601 : decode code 601 = .ok (.iaload, 1) := by decide +kernel
theorem lx_d_602 : decode code 602 = .ok (.aload_n 0, 1) := by decide +kernel
theorem lx_d_603 : decode code 603 = .ok (.iload_n 3, 1) := by decide +kernel
theorem lx_d_604 : decode code 604 = .ok (.iconst 2, 1) := by decide +kernel
theorem lx_d_605 : decode code 605 = .ok (.iadd, 1) := by decide +kernel
theorem lx_d_606 : decode code 606 = .ok (.iaload, 1) := by decide +kernel
theorem lx_d_607 : decode code 607 = .ok (.aload_n 0, 1) := by decide +kernel
theorem lx_d_608 : decode code 608 = .ok (.iload_n 3, 1) := by decide +kernel
theorem lx_d_609 : decode code 609 = .ok (.iconst 3, 1) := by decide +kernel
theorem lx_d_610 : decode code 610 = .ok (.iadd, 1) := by decide +kernel
theorem lx_d_611 : decode code 611 = .ok (.iaload, 1) := by decide +kernel
theorem lx_d_612 : decode code 612 = .ok (.invokevirtual 66, 3) := by decide +kernel
theorem lx_d_615 : decode code 615 = .ok (.aload_n 2, 1) := by decide +kernel
theorem lx_d_616 : decode code 616 = .ok (.aload_n 0, 1) := by decide +kernel
theorem lx_d_617 : decode code 617 = .ok (.iload_n 3, 1) := by decide +kernel
theorem lx_d_618 : decode code 618 = .ok (.iconst 1, 1) := by decide +kernel
theorem lx_d_619 : decode code 619 = .ok (.iadd, 1) := by decide +kernel
theorem lx_d_620 : decode code 620 = .ok (.iaload, 1) := by decide +kernel
theorem lx_d_621 : decode code 621 = .ok (.aload_n 0, 1) := by decide +kernel
theorem lx_d_622 : decode code 622 = .ok (.iload_n 3, 1) := by decide +kernel
theorem lx_d_623 : decode code 623 = .ok (.iconst 2, 1) := by decide +kernel
theorem lx_d_624 : decode code 624 = .ok (.iadd, 1) := by decide +kernel
theorem lx_d_625 : decode code 625 = .ok (.iaload, 1) := by decide +kernel
theorem lx_d_626 : decode code 626 = .ok (.aload_n 0, 1) := by decide +kernel
theorem lx_d_627 : decode code 627 = .ok (.iload_n 3, 1) := by decide +kernel
theorem lx_d_628 : decode code 628 = .ok (.iconst 3, 1) := by decide +kernel
theorem lx_d_629 : decode code 629 = .ok (.iadd, 1) := by decide +kernel
theorem lx_d_630 : decode code 630 = .ok (.iaload, 1) := by decide +kernel
theorem lx_d_631 : decode code 631 = .ok (.invokevirtual 69, 3) := by decide +kernel
theorem lx_d_634 : decode code 634 = .ok (.lcmp, 1) := by decide +kernel
theorem lx_d_635 : decode code 635 = .ok (.ifCond .eq 731, 3) := by decide +kernel
theorem lx_d_638 : decode code 638 = .ok (.iconst 0, 1) := by decide +kernel
theorem lx_d_639 : decode code 639 = .ok (.ireturn, 1) := by decide +kernel
theorem lx_d_640 : decode code 640 = .ok (.aload_n 1, 1) := by decide +kernel
theorem lx_d_641 : decode code 641 = .ok (.aload_n 0, 1) := by decide +kernel
theorem lx_d_642 : decode code 642 = .ok (.iload_n 3, 1) := by decide +kernel
theorem lx_d_643 : decode code 643 = .ok (.iconst 1, 1) := by decide +kernel
theorem lx_d_644 : decode code 644 = .ok (.iadd, 1) := by decide +kernel
theorem lx_d_645 : decode code 645 = .ok (.iaload, 1) := by decide +kernel
theorem lx_d_646 : decode code 646 = .ok (.aload_n 0, 1) := by decide +kernel
theorem lx_d_647 : decode code 647 = .ok (.iload_n 3, 1) := by decide +kernel
theorem lx_d_648 : decode code 648 = .ok (.iconst 2, 1) := by decide +kernel
theorem lx_d_649 : decode code 649 = .ok (.iadd, 1) := by decide +kernel
theorem lx_d_650 : decode code 650 = .ok (.iaload, 1) := by decide +kernel
theorem lx_d_651 : decode code 651 = .ok (.invokevirtual 70, 3) := by decide +kernel
