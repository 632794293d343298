/-! decode rows of the law (by gen72.py) -/
theorem lx_d_654 : decode code 654 = .ok (.aload_n 2, 1) := by decide +kernel
theorem lx_d_655 : decode code 655 = .ok (.aload_n 0, 1) := by decide +kernel
theorem lx_d_656 : decode code 656 = .ok (.iload_n 3, 1) := by decide +kernel
theorem lx_d_657 : decode code 657 = .ok (.iconst 1, 1) := by decide +kernel
theorem lx_d_658 : decode code 658 = .ok (.iadd, 1) := by decide +kernel
theorem lx_d_659 : decode code 659 = .ok (.iaload, 1) := by decide +kernel
theorem lx_d_660 : decode code 660 = .ok (.aload_n 0, 1) := by decide +kernel
theorem lx_d_661 : decode code 661 = .ok (.iload_n 3, 1) := by decide +kernel
theorem lx_d_662 : decode code 662 = .ok (.iconst 2, 1) := by decide +kernel
theorem lx_d_663 : decode code 663 = .ok (.iadd, 1) := by decide +kernel
theorem lx_d_664 : decode code 664 = .ok (.iaload, 1) := by decide +kernel
theorem lx_d_665 : decode code 665 = .ok (.invokevirtual 74, 3) := by decide +kernel
theorem lx_d_668 : decode code 668 = .ok (.lcmp, 1) := by decide +kernel
theorem lx_d_669 : decode code 669 = .ok (.ifCond .eq 697, 3) := by decide +kernel
theorem lx_d_672 : decode code 672 = .ok (.iconst 0, 1) := by decide +kernel
theorem lx_d_673 : decode code 673 = .ok (.ireturn, 1) := by decide +kernel
theorem lx_d_674 : decode code 674 = .ok (.aload_n 1, 1) := by decide +kernel
theorem lx_d_675 : decode code 675 = .ok (.aload_n 0, 1) := by decide +kernel
theorem lx_d_676 : decode code 676 = .ok (.iload_n 3, 1) := by decide +kernel
theorem lx_d_677 : decode code 677 = .ok (.iconst 1, 1) := by decide +kernel
theorem lx_d_678 : decode code 678 = .ok (.iadd, 1) := by decide +kernel
theorem lx_d_679 : decode code 679 = .ok (.iaload, 1) := by decide +kernel
theorem lx_d_680 : decode code 680 = .ok (.invokevirtual 75, 3) := by decide +kernel
theorem lx_d_683 : decode code 683 = .ok (.aload_n 2, 1) := by decide +kernel
theorem lx_d_684 : decode code 684 = .ok (.aload_n 0, 1) := by decide +kernel
theorem lx_d_685 : decode code 685 = .ok (.iload_n 3, 1) := by decide +kernel
theorem lx_d_686 : decode code 686 = .ok (.iconst 1, 1) := by decide +kernel
theorem lx_d_687 : decode code 687 = .ok (.iadd, 1) := by decide +kernel
theorem lx_d_688 : decode code 688 = .ok (.iaload, 1) := by decide +kernel
theorem lx_d_689 : decode code 689 = .ok (.invokevirtual 79, 3) := by decide +kernel
theorem lx_d_692 : decode code 692 = .ok (.lcmp, 1) := by decide +kernel
theorem lx_d_693 : decode code 693 = .ok (.ifCond .eq 673, 3) := by decide +kernel
theorem lx_d_696 : decode code 696 = .ok (.iconst 0, 1) := by decide +kernel
theorem lx_d_697 : decode code 697 = .ok (.ireturn, 1) := by decide +kernel
theorem lx_d_698 : decode code 698 = .ok (.aload_n 1, 1) := by decide +kernel
theorem lx_d_699 : decode code 699 = .ok (.aload_n 0, 1) := by decide +kernel
theorem lx_d_700 : decode code 700 = .ok (.iload_n 3, 1) := by decide +kernel
theorem lx_d_701 : decode code 701 = .ok (.iconst 1, 1) := by decide +kernel
theorem lx_d_702 : decode code 702 = .ok (.iadd, 1) := by decide +kernel
theorem lx_d_703 : decode code 703 = .ok (.iaload, 1) := by decide +kernel
theorem lx_d_704 : decode code 704 = .ok (.invokevirtual 80, 3) := by decide +kernel
theorem lx_d_707 : decode code 707 = .ok (.aload_n 2, 1) := by decide +kernel
theorem lx_d_708 : decode code 708 = .ok (.aload_n 0, 1) := by decide +kernel
theorem lx_d_709 : decode code 709 = .ok (.iload_n 3, 1) := by decide +kernel
theorem lx_d_710 : decode code 710 = .ok (.iconst 1, 1) := by decide +kernel
theorem lx_d_711 : decode code 711 = .ok (.iadd, 1) := by decide +kernel
theorem lx_d_712 : decode code 712 = .ok (.iaload, 1) := by decide +kernel
theorem lx_d_713 : decode code 713 = .ok (.invokevirtual 83, 3) := by decide +kernel
theorem lx_d_716 : decode code 716 = .ok (.lcmp, 1) := by decide +kernel
theorem lx_d_717 : decode code 717 = .ok (.ifCond .eq 649, 3) := by decide +kernel
