/-! decode rows of the law (by gen72.py) -/
theorem lx_d_1050 : decode code 1050 = .ok (.aload_n 2, 1) := by decide +kernel
theorem lx_d_1051 : decode code 1051 = .ok (.aload_n 0, 1) := by decide +kernel
theorem lx_d_1052 : decode code 1052 = .ok (.iload_n 3, 1) := by decide +kernel
theorem lx_d_1053 : decode code 1053 = .ok (.iconst 1, 1) := by decide +kernel
theorem lx_d_1054 : decode code 1054 = .ok (.iadd, 1) := by decide +kernel
theorem lx_d_1055 : decode code 1055 = .ok (.iaload, 1) := by decide +kernel
theorem lx_d_1056 : decode code 1056 = .ok (.invokevirtual 139, 3) := by decide +kernel
theorem lx_d_1059 : decode code 1059 = .ok (.if_icmp .eq 307, 3) := by decide +kernel
theorem lx_d_1062 : decode code 1062 = .ok (.iconst 0, 1) := by decide +kernel
theorem lx_d_1063 : decode code 1063 = .ok (.ireturn, 1) := by decide +kernel
theorem lx_d_1064 : decode code 1064 = .ok (.aload_n 1, 1) := by decide +kernel
theorem lx_d_1065 : decode code 1065 = .ok (.aload_n 0, 1) := by decide +kernel
theorem lx_d_1066 : decode code 1066 = .ok (.iload_n 3, 1) := by decide +kernel
theorem lx_d_1067 : decode code 1067 = .ok (.iconst 1, 1) := by decide +kernel
theorem lx_d_1068 : decode code 1068 = .ok (.iadd, 1) := by decide +kernel
theorem lx_d_1069 : decode code 1069 = .ok (.iaload, 1) := by decide +kernel
theorem lx_d_1070 : decode code 1070 = .ok (.aload_n 0, 1) := by decide +kernel
theorem lx_d_1071 : decode code 1071 = .ok (.iload_n 3, 1) := by decide +kernel
theorem lx_d_1072 : decode code 1072 = .ok (.iconst 2, 1) := by decide +kernel
theorem lx_d_1073 : decode code 1073 = .ok (.iadd, 1) := by decide +kernel
theorem lx_d_1074 : decode code 1074 = .ok (.iaload, 1) := by decide +kernel
theorem lx_d_1075 : decode code 1075 = .ok (.invokevirtual 140, 3) := by decide +kernel
theorem lx_d_1078 : decode code 1078 = .ok (.aload_n 2, 1) := by decide +kernel
theorem lx_d_1079 : decode code 1079 = .ok (.aload_n 0, 1) := by decide +kernel
theorem lx_d_1080 : decode code 1080 = .ok (.iload_n 3, 1) := by decide +kernel
theorem lx_d_1081 : decode code 1081 = .ok (.iconst 1, 1) := by decide +kernel
theorem lx_d_1082 : decode code 1082 = .ok (.iadd, 1) := by decide +kernel
theorem lx_d_1083 : decode code 1083 = .ok (.iaload, 1) := by decide +kernel
theorem lx_d_1084 : decode code 1084 = .ok (.aload_n 0, 1) := by decide +kernel
theorem lx_d_1085 : decode code 1085 = .ok (.iload_n 3, 1) := by decide +kernel
theorem lx_d_1086 : decode code 1086 = .ok (.iconst 2, 1) := by decide +kernel
theorem lx_d_1087 : decode code 1087 = .ok (.iadd, 1) := by decide +kernel
theorem lx_d_1088 : decode code 1088 = .ok (.iaload, 1) := by decide +kernel
theorem lx_d_1089 : decode code 1089 = .ok (.invokevirtual 143, 3) := by decide +kernel
theorem lx_d_1092 : decode code 1092 = .ok (.if_icmp .eq 274, 3) := by decide +kernel
theorem lx_d_1095 : decode code 1095 = .ok (.iconst 0, 1) := by decide +kernel
theorem lx_d_1096 : decode code 1096 = .ok (.ireturn, 1) := by decide +kernel
theorem lx_d_1097 : decode code 1097 = .ok (.aload_n 1, 1) := by decide +kernel
theorem lx_d_1098 : decode code 1098 = .ok (.aload_n 0, 1) := by decide +kernel
theorem lx_d_1099 : decode code 1099 = .ok (.iload_n 3, 1) := by decide +kernel
theorem lx_d_1100 : decode code 1100 = .ok (.iconst 1, 1) := by decide +kernel
theorem lx_d_1101 : decode code 1101 = .ok (.iadd, 1) := by decide +kernel
theorem lx_d_1102 : decode code 1102 = .ok (.iaload, 1) := by decide +kernel
theorem lx_d_1103 : decode code 1103 = .ok (.aload_n 0, 1) := by decide +kernel
theorem lx_d_1104 : decode code 1104 = .ok (.iload_n 3, 1) := by decide +kernel
theorem lx_d_1105 : decode code 1105 = .ok (.iconst 2, 1) := by decide +kernel
theorem lx_d_1106 : decode code 1106 = .ok (.iadd, 1) := by decide +kernel
theorem lx_d_1107 : decode code 1107 = .ok (.iaload, 1) := by decide +kernel
theorem lx_d_1108 : decode code 1108 = .ok (.aload_n 0, 1) := by decide +kernel
theorem lx_d_1109 : decode code 1109 = .ok (.iload_n 3, 1) := by decide +kernel
