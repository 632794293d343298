/-! decode rows of the law (by gen72.py) -/
theorem lx_d_1110 : decode code 1110 = .ok (.iconst 3, 1) := by decide +kernel
theorem lx_d_1111 : decode code 1111 = .ok (.iadd, 1) := by decide +kernel
theorem lx_d_1112 : decode code 1112 = .ok (.iaload, 1) := by decide +kernel
theorem lx_d_1113 : decode code 1113 = .ok (.invokevirtual 144, 3) := by decide +kernel
theorem lx_d_1116 : decode code 1116 = .ok (.aload_n 2, 1) := by decide +kernel
theorem lx_d_1117 : decode code 1117 = .ok (.aload_n 0, 1) := by decide +kernel
theorem lx_d_1118 : decode code 1118 = .ok (.iload_n 3, 1) := by decide +kernel
theorem lx_d_1119 : decode code 1119 = .ok (.iconst 1, 1) := by decide +kernel
theorem lx_d_1120 : decode code 1120 = .ok (.iadd, 1) := by decide +kernel
theorem lx_d_1121 : decode code 1121 = .ok (.iaload, 1) := by decide +kernel
theorem lx_d_1122 : decode code 1122 = .ok (.aload_n 0, 1) := by decide +kernel
theorem lx_d_1123 : decode code 1123 = .ok (.iload_n 3, 1) := by decide +kernel
theorem lx_d_1124 : decode code 1124 = .ok (.iconst 2, 1) := by decide +kernel
theorem lx_d_1125 : decode code 1125 = .ok (.iadd, 1) := by decide +kernel
theorem lx_d_1126 : decode code 1126 = .ok (.iaload, 1) := by decide +kernel
theorem lx_d_1127 : decode code 1127 = .ok (.aload_n 0, 1) := by decide +kernel
theorem lx_d_1128 : decode code 1128 = .ok (.iload_n 3, 1) := by decide +kernel
theorem lx_d_1129 : decode code 1129 = .ok (.iconst 3, 1) := by decide +kernel
theorem lx_d_1130 : decode code 1130 = .ok (.iadd, 1) := by decide +kernel
theorem lx_d_1131 : decode code 1131 = .ok (.iaload, 1) := by decide +kernel
theorem lx_d_1132 : decode code 1132 = .ok (.invokevirtual 147, 3) := by decide +kernel
theorem lx_d_1135 : decode code 1135 = .ok (.if_icmp .eq 231, 3) := by decide +kernel
theorem lx_d_1138 : decode code 1138 = .ok (.iconst 0, 1) := by decide +kernel
theorem lx_d_1139 : decode code 1139 = .ok (.ireturn, 1) := by decide +kernel
theorem lx_d_1140 : decode code 1140 = .ok (.aload_n 1, 1) := by decide +kernel
theorem lx_d_1141 : decode code 1141 = .ok (.aload_n 0, 1) := by decide +kernel
theorem lx_d_1142 : decode code 1142 = .ok (.iload_n 3, 1) := by decide +kernel
theorem lx_d_1143 : decode code 1143 = .ok (.iconst 1, 1) := by decide +kernel
theorem lx_d_1144 : decode code 1144 = .ok (.iadd, 1) := by decide +kernel
theorem lx_d_1145 : decode code 1145 = .ok (.iaload, 1) := by decide +kernel
theorem lx_d_1146 : decode code 1146 = .ok (.aload_n 0, 1) := by decide +kernel
theorem lx_d_1147 : decode code 1147 = .ok (.iload_n 3, 1) := by decide +kernel
theorem lx_d_1148 : decode code 1148 = .ok (.iconst 2, 1) := by decide +kernel
theorem lx_d_1149 : decode code 1149 = .ok (.iadd, 1) := by decide +kernel
theorem lx_d_1150 : decode code 1150 = .ok (.iaload, 1) := by decide +kernel
theorem lx_d_1151 : decode code 1151 = .ok (.aload_n 0, 1) := by decide +kernel
theorem lx_d_1152 : decode code 1152 = .ok (.iload_n 3, 1) := by decide +kernel
theorem lx_d_1153 : decode code 1153 = .ok (.iconst 3, 1) := by decide +kernel
theorem lx_d_1154 : decode code 1154 = .ok (.iadd, 1) := by decide +kernel
theorem lx_d_1155 : decode code 1155 = .ok (.iaload, 1) := by decide +kernel
theorem lx_d_1156 : decode code 1156 = .ok (.i2l, 1) := by decide +kernel
theorem lx_d_1157 : decode code 1157 = .ok (.bipush 32, 2) := by decide +kernel
theorem lx_d_1159 : decode code 1159 = .ok (.lshl, 1) := by decide +kernel
theorem lx_d_1160 : decode code 1160 = .ok (.aload_n 0, 1) := by decide +kernel
theorem lx_d_1161 : decode code 1161 = .ok (.iload_n 3, 1) := by decide +kernel
theorem lx_d_1162 : decode code 1162 = .ok (.iconst 4, 1) := by decide +kernel
theorem lx_d_1163 : decode code 1163 = .ok (.iadd, 1) := by decide +kernel
theorem lx_d_1164 : decode code 1164 = .ok (.iaload, 1) := by decide +kernel
theorem lx_d_1165 : decode code 1165 = .ok (.i2l, 1) := by decide +kernel
theorem lx_d_1166 : decode code 1166 = .ok (.ldc2_w 148, 3) := by decide +kernel
