/-! decode rows of the law (by gen72.py) -/
theorem lx_d_844 : decode code 844 = .ok (.aload_n 1, 1) := by decide +kernel
theorem lx_d_845 : decode code 845 = .ok (.aload_n 0, 1) := by decide +kernel
theorem lx_d_846 : decode code 846 = .ok (.iload_n 3, 1) := by decide +kernel
theorem lx_d_847 : decode code 847 = .ok (.iconst 1, 1) := by decide +kernel
theorem lx_d_848 : decode code 848 = .ok (.iadd, 1) := by decide +kernel
theorem lx_d_849 : decode code 849 = .ok (.iaload, 1) := by decide +kernel
theorem lx_d_850 : decode code 850 = .ok (.aload_n 0, 1) := by decide +kernel
theorem lx_d_851 : decode code 851 = .ok (.iload_n 3, 1) := by decide +kernel
theorem lx_d_852 : decode code 852 = .ok (.iconst 2, 1) := by decide +kernel
theorem lx_d_853 : decode code 853 = .ok (.iadd, 1) := by decide +kernel
theorem lx_d_854 : decode code 854 = .ok (.iaload, 1) := by decide +kernel
theorem lx_d_855 : decode code 855 = .ok (.invokevirtual 100, 3) := by decide +kernel
theorem lx_d_858 : decode code 858 = .ok (.aload_n 2, 1) := by decide +kernel
theorem lx_d_859 : decode code 859 = .ok (.aload_n 0, 1) := by decide +kernel
theorem lx_d_860 : decode code 860 = .ok (.iload_n 3, 1) := by decide +kernel
theorem lx_d_861 : decode code 861 = .ok (.iconst 1, 1) := by decide +kernel
theorem lx_d_862 : decode code 862 = .ok (.iadd, 1) := by decide +kernel
theorem lx_d_863 : decode code 863 = .ok (.iaload, 1) := by decide +kernel
theorem lx_d_864 : decode code 864 = .ok (.aload_n 0, 1) := by decide +kernel
theorem lx_d_865 : decode code 865 = .ok (.iload_n 3, 1) := by decide +kernel
theorem lx_d_866 : decode code 866 = .ok (.iconst 2, 1) := by decide +kernel
theorem lx_d_867 : decode code 867 = .ok (.iadd, 1) := by decide +kernel
theorem lx_d_868 : decode code 868 = .ok (.iaload, 1) := by decide +kernel
theorem lx_d_869 : decode code 869 = .ok (.invokevirtual 103, 3) := by decide +kernel
theorem lx_d_872 : decode code 872 = .ok (.if_icmp .eq 494, 3) := by decide +kernel
theorem lx_d_875 : decode code 875 = .ok (.iconst 0, 1) := by decide +kernel
theorem lx_d_876 : decode code 876 = .ok (.ireturn, 1) := by decide +kernel
theorem lx_d_877 : decode code 877 = .ok (.aload_n 1, 1) := by decide +kernel
theorem lx_d_878 : decode code 878 = .ok (.aload_n 0, 1) := by decide +kernel
theorem lx_d_879 : decode code 879 = .ok (.iload_n 3, 1) := by decide +kernel
theorem lx_d_880 : decode code 880 = .ok (.iconst 1, 1) := by decide +kernel
theorem lx_d_881 : decode code 881 = .ok (.iadd, 1) := by decide +kernel
theorem lx_d_882 : decode code 882 = .ok (.iaload, 1) := by decide +kernel
theorem lx_d_883 : decode code 883 = .ok (.invokevirtual 104, 3) := by decide +kernel
theorem lx_d_886 : decode code 886 = .ok (.aload_n 2, 1) := by decide +kernel
theorem lx_d_887 : decode code 887 = .ok (.aload_n 0, 1) := by decide +kernel
theorem lx_d_888 : decode code 888 = .ok (.iload_n 3, 1) := by decide +kernel
theorem lx_d_889 : decode code 889 = .ok (.iconst 1, 1) := by decide +kernel
theorem lx_d_890 : decode code 890 = .ok (.iadd, 1) := by decide +kernel
theorem lx_d_891 : decode code 891 = .ok (.iaload, 1) := by decide +kernel
theorem lx_d_892 : decode code 892 = .ok (.invokevirtual 107, 3) := by decide +kernel
theorem lx_d_895 : decode code 895 = .ok (.if_icmp .eq 471, 3) := by decide +kernel
theorem lx_d_898 : decode code 898 = .ok (.iconst 0, 1) := by decide +kernel
theorem lx_d_899 : decode code 899 = .ok (.ireturn, 1) := by decide +kernel
theorem lx_d_900 : decode code 900 = .ok (.aload_n 1, 1) := by decide +kernel
theorem lx_d_901 : decode code 901 = .ok (.aload_n 0, 1) := by decide +kernel
theorem lx_d_902 : decode code 902 = .ok (.iload_n 3, 1) := by decide +kernel
theorem lx_d_903 : decode code 903 = .ok (.iconst 1, 1) := by decide +kernel
theorem lx_d_904 : decode code 904 = .ok (.iadd, 1) := by decide +kernel
theorem lx_d_905 : decode code 905 = .ok (.iaload, 1) := by decide +kernel
