/-! decode rows of the law (by gen72.py) -/
theorem lx_d_782 : decode code 782 = .ok (.iadd, 1) := by decide +kernel
theorem lx_d_783 : decode code 783 = .ok (.iaload, 1) := by decide +kernel
theorem lx_d_784 : decode code 784 = .ok (.invokevirtual 92, 3) := by decide +kernel
theorem lx_d_787 : decode code 787 = .ok (.aload_n 2, 1) := by decide +kernel
theorem lx_d_788 : decode code 788 = .ok (.aload_n 0, 1) := by decide +kernel
theorem lx_d_789 : decode code 789 = .ok (.iload_n 3, 1) := by decide +kernel
theorem lx_d_790 : decode code 790 = .ok (.iconst 1, 1) := by decide +kernel
theorem lx_d_791 : decode code 791 = .ok (.iadd, 1) := by decide +kernel
theorem lx_d_792 : decode code 792 = .ok (.iaload, 1) := by decide +kernel
theorem lx_d_793 : decode code 793 = .ok (.invokevirtual 95, 3) := by decide +kernel
theorem lx_d_796 : decode code 796 = .ok (.if_icmp .eq 570, 3) := by decide +kernel
theorem lx_d_799 : decode code 799 = .ok (.iconst 0, 1) := by decide +kernel
theorem lx_d_800 : decode code 800 = .ok (.ireturn, 1) := by decide +kernel
theorem lx_d_801 : decode code 801 = .ok (.aload_n 1, 1) := by decide +kernel
theorem lx_d_802 : decode code 802 = .ok (.aload_n 0, 1) := by decide +kernel
theorem lx_d_803 : decode code 803 = .ok (.iload_n 3, 1) := by decide +kernel
theorem lx_d_804 : decode code 804 = .ok (.iconst 1, 1) := by decide +kernel
theorem lx_d_805 : decode code 805 = .ok (.iadd, 1) := by decide +kernel
theorem lx_d_806 : decode code 806 = .ok (.iaload, 1) := by decide +kernel
theorem lx_d_807 : decode code 807 = .ok (.aload_n 0, 1) := by decide +kernel
theorem lx_d_808 : decode code 808 = .ok (.iload_n 3, 1) := by decide +kernel
theorem lx_d_809 : decode code 809 = .ok (.iconst 2, 1) := by decide +kernel
theorem lx_d_810 : decode code 810 = .ok (.iadd, 1) := by decide +kernel
theorem lx_d_811 : decode code 811 = .ok (.iaload, 1) := by decide +kernel
theorem lx_d_812 : decode code 812 = .ok (.aload_n 0, 1) := by decide +kernel
theorem lx_d_813 : decode code 813 = .ok (.iload_n 3, 1) := by decide +kernel
theorem lx_d_814 : decode code 814 = .ok (.iconst 3, 1) := by decide +kernel
theorem lx_d_815 : decode code 815 = .ok (.iadd, 1) := by decide +kernel
theorem lx_d_816 : decode code 816 = .ok (.iaload, 1) := by decide +kernel
theorem lx_d_817 : decode code 817 = .ok (.invokevirtual 96, 3) := by decide +kernel
theorem lx_d_820 : decode code 820 = .ok (.aload_n 2, 1) := by decide +kernel
theorem lx_d_821 : decode code 821 = .ok (.aload_n 0, 1) := by decide +kernel
theorem lx_d_822 : decode code 822 = .ok (.iload_n 3, 1) := by decide +kernel
theorem lx_d_823 : decode code 823 = .ok (.iconst 1, 1) := by decide +kernel
theorem lx_d_824 : decode code 824 = .ok (.iadd, 1) := by decide +kernel
theorem lx_d_825 : decode code 825 = .ok (.iaload, 1) := by decide +kernel
theorem lx_d_826 : decode code 826 = .ok (.aload_n 0, 1) := by decide +kernel
theorem lx_d_827 : decode code 827 = .ok (.iload_n 3, 1) := by decide +kernel
theorem lx_d_828 : decode code 828 = .ok (.iconst 2, 1) := by decide +kernel
theorem lx_d_829 : decode code 829 = .ok (.iadd, 1) := by decide +kernel
theorem lx_d_830 : decode code 830 = .ok (.iaload, 1) := by decide +kernel
theorem lx_d_831 : decode code 831 = .ok (.aload_n 0, 1) := by decide +kernel
theorem lx_d_832 : decode code 832 = .ok (.iload_n 3, 1) := by decide +kernel
theorem lx_d_833 : decode code 833 = .ok (.iconst 3, 1) := by decide +kernel
theorem lx_d_834 : decode code 834 = .ok (.iadd, 1) := by decide +kernel
theorem lx_d_835 : decode code 835 = .ok (.iaload, 1) := by decide +kernel
theorem lx_d_836 : decode code 836 = .ok (.invokevirtual 99, 3) := by decide +kernel
theorem lx_d_839 : decode code 839 = .ok (.if_icmp .eq 527, 3) := by decide +kernel
theorem lx_d_842 : decode code 842 = .ok (.iconst 0, 1) := by decide +kernel
theorem lx_d_843 : decode code 843 = .ok (.ireturn, 1) := by decide +kernel
