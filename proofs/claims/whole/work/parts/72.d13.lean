/-! decode rows of the law (by gen72.py) -/
theorem lx_d_988 : decode code 988 = .ok (.iadd, 1) := by decide +kernel
theorem lx_d_989 : decode code 989 = .ok (.iaload, 1) := by decide +kernel
theorem lx_d_990 : decode code 990 = .ok (.invokevirtual 131, 3) := by decide +kernel
theorem lx_d_993 : decode code 993 = .ok (.if_icmp .eq 373, 3) := by decide +kernel
theorem lx_d_996 : decode code 996 = .ok (.iconst 0, 1) := by decide +kernel
theorem lx_d_997 : decode code 997 = .ok (.ireturn, 1) := by decide +kernel
theorem lx_d_998 : decode code 998 = .ok (.aload_n 1, 1) := by decide +kernel
theorem lx_d_999 : decode code 999 = .ok (.aload_n 0, 1) := by decide +kernel
theorem lx_d_1000 : decode code 1000 = .ok (.iload_n 3, 1) := by decide +kernel
theorem lx_d_1001 : decode code 1001 = .ok (.iconst 1, 1) := by decide +kernel
theorem lx_d_1002 : decode code 1002 = .ok (.iadd, 1) := by decide +kernel
theorem lx_d_1003 : decode code 1003 = .ok (.iaload, 1) := by decide +kernel
theorem lx_d_1004 : decode code 1004 = .ok (.aload_n 0, 1) := by decide +kernel
theorem lx_d_1005 : decode code 1005 = .ok (.iload_n 3, 1) := by decide +kernel
theorem lx_d_1006 : decode code 1006 = .ok (.iconst 2, 1) := by decide +kernel
theorem lx_d_1007 : decode code 1007 = .ok (.iadd, 1) := by decide +kernel
theorem lx_d_1008 : decode code 1008 = .ok (.iaload, 1) := by decide +kernel
theorem lx_d_1009 : decode code 1009 = .ok (.aload_n 0, 1) := by decide +kernel
theorem lx_d_1010 : decode code 1010 = .ok (.iload_n 3, 1) := by decide +kernel
theorem lx_d_1011 : decode code 1011 = .ok (.iconst 3, 1) := by decide +kernel
theorem lx_d_1012 : decode code 1012 = .ok (.iadd, 1) := by decide +kernel
theorem lx_d_1013 : decode code 1013 = .ok (.iaload, 1) := by decide +kernel
theorem lx_d_1014 : decode code 1014 = .ok (.invokevirtual 132, 3) := by decide +kernel
theorem lx_d_1017 : decode code 1017 = .ok (.aload_n 2, 1) := by decide +kernel
theorem lx_d_1018 : decode code 1018 = .ok (.aload_n 0, 1) := by decide +kernel
theorem lx_d_1019 : decode code 1019 = .ok (.iload_n 3, 1) := by decide +kernel
theorem lx_d_1020 : decode code 1020 = .ok (.iconst 1, 1) := by decide +kernel
theorem lx_d_1021 : decode code 1021 = .ok (.iadd, 1) := by decide +kernel
theorem lx_d_1022 : decode code 1022 = .ok (.iaload, 1) := by decide +kernel
theorem lx_d_1023 : decode code 1023 = .ok (.aload_n 0, 1) := by decide +kernel
theorem lx_d_1024 : decode code 1024 = .ok (.iload_n 3, 1) := by decide +kernel
theorem lx_d_1025 : decode code 1025 = .ok (.iconst 2, 1) := by decide +kernel
theorem lx_d_1026 : decode code 1026 = .ok (.iadd, 1) := by decide +kernel
theorem lx_d_1027 : decode code 1027 = .ok (.iaload, 1) := by decide +kernel
theorem lx_d_1028 : decode code 1028 = .ok (.aload_n 0, 1) := by decide +kernel
theorem lx_d_1029 : decode code 1029 = .ok (.iload_n 3, 1) := by decide +kernel
theorem lx_d_1030 : decode code 1030 = .ok (.iconst 3, 1) := by decide +kernel
theorem lx_d_1031 : decode code 1031 = .ok (.iadd, 1) := by decide +kernel
theorem lx_d_1032 : decode code 1032 = .ok (.iaload, 1) := by decide +kernel
theorem lx_d_1033 : decode code 1033 = .ok (.invokevirtual 135, 3) := by decide +kernel
theorem lx_d_1036 : decode code 1036 = .ok (.if_icmp .eq 330, 3) := by decide +kernel
theorem lx_d_1039 : decode code 1039 = .ok (.iconst 0, 1) := by decide +kernel
theorem lx_d_1040 : decode code 1040 = .ok (.ireturn, 1) := by decide +kernel
theorem lx_d_1041 : decode code 1041 = .ok (.aload_n 1, 1) := by decide +kernel
theorem lx_d_1042 : decode code 1042 = .ok (.aload_n 0, 1) := by decide +kernel
theorem lx_d_1043 : decode code 1043 = .ok (.iload_n 3, 1) := by decide +kernel
theorem lx_d_1044 : decode code 1044 = .ok (.iconst 1, 1) := by decide +kernel
theorem lx_d_1045 : decode code 1045 = .ok (.iadd, 1) := by decide +kernel
theorem lx_d_1046 : decode code 1046 = .ok (.iaload, 1) := by decide +kernel
theorem lx_d_1047 : decode code 1047 = .ok (.invokevirtual 136, 3) := by decide +kernel
