/-! decode rows of the law (by gen72.py) -/
theorem lx_d_720 : decode code 720 = .ok (.iconst 0, 1) := by decide +kernel
theorem lx_d_721 : decode code 721 = .ok (.ireturn, 1) := by decide +kernel
theorem lx_d_722 : decode code 722 = .ok (.aload_n 1, 1) := by decide +kernel
theorem lx_d_723 : decode code 723 = .ok (.aload_n 0, 1) := by decide +kernel
theorem lx_d_724 : decode code 724 = .ok (.iload_n 3, 1) := by decide +kernel
theorem lx_d_725 : decode code 725 = .ok (.iconst 1, 1) := by decide +kernel
theorem lx_d_726 : decode code 726 = .ok (.iadd, 1) := by decide +kernel
theorem lx_d_727 : decode code 727 = .ok (.iaload, 1) := by decide +kernel
theorem lx_d_728 : decode code 728 = .ok (.invokevirtual 84, 3) := by decide +kernel
theorem lx_d_731 : decode code 731 = .ok (.aload_n 2, 1) := by decide +kernel
theorem lx_d_732 : decode code 732 = .ok (.aload_n 0, 1) := by decide +kernel
theorem lx_d_733 : decode code 733 = .ok (.iload_n 3, 1) := by decide +kernel
theorem lx_d_734 : decode code 734 = .ok (.iconst 1, 1) := by decide +kernel
theorem lx_d_735 : decode code 735 = .ok (.iadd, 1) := by decide +kernel
theorem lx_d_736 : decode code 736 = .ok (.iaload, 1) := by decide +kernel
theorem lx_d_737 : decode code 737 = .ok (.invokevirtual 87, 3) := by decide +kernel
theorem lx_d_740 : decode code 740 = .ok (.if_icmp .eq 626, 3) := by decide +kernel
theorem lx_d_743 : decode code 743 = .ok (.iconst 0, 1) := by decide +kernel
theorem lx_d_744 : decode code 744 = .ok (.ireturn, 1) := by decide +kernel
theorem lx_d_745 : decode code 745 = .ok (.aload_n 1, 1) := by decide +kernel
theorem lx_d_746 : decode code 746 = .ok (.aload_n 0, 1) := by decide +kernel
theorem lx_d_747 : decode code 747 = .ok (.iload_n 3, 1) := by decide +kernel
theorem lx_d_748 : decode code 748 = .ok (.iconst 1, 1) := by decide +kernel
theorem lx_d_749 : decode code 749 = .ok (.iadd, 1) := by decide +kernel
theorem lx_d_750 : decode code 750 = .ok (.iaload, 1) := by decide +kernel
theorem lx_d_751 : decode code 751 = .ok (.aload_n 0, 1) := by decide +kernel
theorem lx_d_752 : decode code 752 = .ok (.iload_n 3, 1) := by decide +kernel
theorem lx_d_753 : decode code 753 = .ok (.iconst 2, 1) := by decide +kernel
theorem lx_d_754 : decode code 754 = .ok (.iadd, 1) := by decide +kernel
theorem lx_d_755 : decode code 755 = .ok (.iaload, 1) := by decide +kernel
theorem lx_d_756 : decode code 756 = .ok (.invokevirtual 88, 3) := by decide +kernel
theorem lx_d_759 : decode code 759 = .ok (.aload_n 2, 1) := by decide +kernel
theorem lx_d_760 : decode code 760 = .ok (.aload_n 0, 1) := by decide +kernel
theorem lx_d_761 : decode code 761 = .ok (.iload_n 3, 1) := by decide +kernel
theorem lx_d_762 : decode code 762 = .ok (.iconst 1, 1) := by decide +kernel
theorem lx_d_763 : decode code 763 = .ok (.iadd, 1) := by decide +kernel
theorem lx_d_764 : decode code 764 = .ok (.iaload, 1) := by decide +kernel
theorem lx_d_765 : decode code 765 = .ok (.aload_n 0, 1) := by decide +kernel
theorem lx_d_766 : decode code 766 = .ok (.iload_n 3, 1) := by decide +kernel
theorem lx_d_767 : decode code 767 = .ok (.iconst 2, 1) := by decide +kernel
theorem lx_d_768 : decode code 768 = .ok (.iadd, 1) := by decide +kernel
theorem lx_d_769 : decode code 769 = .ok (.iaload, 1) := by decide +kernel
theorem lx_d_770 : decode code 770 = .ok (.invokevirtual 91, 3) := by decide +kernel
theorem lx_d_773 : decode code 773 = .ok (.if_icmp .eq 593, 3) := by decide +kernel
theorem lx_d_776 : decode code 776 = .ok (.iconst 0, 1) := by decide +kernel
theorem lx_d_777 : decode code 777 = .ok (.ireturn, 1) := by decide +kernel
theorem lx_d_778 : decode code 778 = .ok (.aload_n 1, 1) := by decide +kernel
theorem lx_d_779 : decode code 779 = .ok (.aload_n 0, 1) := by decide +kernel
theorem lx_d_780 : decode code 780 = .ok (.iload_n 3, 1) := by decide +kernel
theorem lx_d_781 : decode code 781 = .ok (.iconst 1, 1) := by decide +kernel
