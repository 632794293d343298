/-! decode rows of the law (by gen72.py) -/
theorem lx_d_1169 : decode code 1169 = .ok (.land, 1) := by decide +kernel
theorem lx_d_1170 : decode code 1170 = .ok (.lor, 1) := by decide +kernel
theorem lx_d_1171 : decode code 1171 = .ok (.invokevirtual 150, 3) := by decide +kernel
theorem lx_d_1174 : decode code 1174 = .ok (.aload_n 2, 1) := by decide +kernel
theorem lx_d_1175 : decode code 1175 = .ok (.aload_n 0, 1) := by decide +kernel
theorem lx_d_1176 : decode code 1176 = .ok (.iload_n 3, 1) := by decide +kernel
theorem lx_d_1177 : decode code 1177 = .ok (.iconst 1, 1) := by decide +kernel
theorem lx_d_1178 : decode code 1178 = .ok (.iadd, 1) := by decide +kernel
theorem lx_d_1179 : decode code 1179 = .ok (.iaload, 1) := by decide +kernel
theorem lx_d_1180 : decode code 1180 = .ok (.aload_n 0, 1) := by decide +kernel
theorem lx_d_1181 : decode code 1181 = .ok (.iload_n 3, 1) := by decide +kernel
theorem lx_d_1182 : decode code 1182 = .ok (.iconst 2, 1) := by decide +kernel
theorem lx_d_1183 : decode code 1183 = .ok (.iadd, 1) := by decide +kernel
theorem lx_d_1184 : decode code 1184 = .ok (.iaload, 1) := by decide +kernel
theorem lx_d_1185 : decode code 1185 = .ok (.aload_n 0, 1) := by decide +kernel
theorem lx_d_1186 : decode code 1186 = .ok (.iload_n 3, 1) := by decide +kernel
theorem lx_d_1187 : decode code 1187 = .ok (.iconst 3, 1) := by decide +kernel
theorem lx_d_1188 : decode code 1188 = .ok (.iadd, 1) := by decide +kernel
theorem lx_d_1189 : decode code 1189 = .ok (.iaload, 1) := by decide +kernel
theorem lx_d_1190 : decode code 1190 = .ok (.i2l, 1) := by decide +kernel
theorem lx_d_1191 : decode code 1191 = .ok (.bipush 32, 2) := by decide +kernel
theorem lx_d_1193 : decode code 1193 = .ok (.lshl, 1) := by decide +kernel
theorem lx_d_1194 : decode code 1194 = .ok (.aload_n 0, 1) := by decide +kernel
theorem lx_d_1195 : decode code 1195 = .ok (.iload_n 3, 1) := by decide +kernel
theorem lx_d_1196 : decode code 1196 = .ok (.iconst 4, 1) := by decide +kernel
theorem lx_d_1197 : decode code 1197 = .ok (.iadd, 1) := by decide +kernel
theorem lx_d_1198 : decode code 1198 = .ok (.iaload, 1) := by decide +kernel
theorem lx_d_1199 : decode code 1199 = .ok (.i2l, 1) := by decide +kernel
theorem lx_d_1200 : decode code 1200 = .ok (.ldc2_w 148, 3) := by decide +kernel
theorem lx_d_1203 : decode code 1203 = .ok (.land, 1) := by decide +kernel
theorem lx_d_1204 : decode code 1204 = .ok (.lor, 1) := by decide +kernel
theorem lx_d_1205 : decode code 1205 = .ok (.invokevirtual 154, 3) := by decide +kernel
theorem lx_d_1208 : decode code 1208 = .ok (.if_icmp .eq 158, 3) := by decide +kernel
theorem lx_d_1211 : decode code 1211 = .ok (.iconst 0, 1) := by decide +kernel
theorem lx_d_1212 : decode code 1212 = .ok (.ireturn, 1) := by decide +kernel
theorem lx_d_1213 : decode code 1213 = .ok (.aload_n 1, 1) := by decide +kernel
theorem lx_d_1214 : decode code 1214 = .ok (.aload_n 0, 1) := by decide +kernel
theorem lx_d_1215 : decode code 1215 = .ok (.iload_n 3, 1) := by decide +kernel
theorem lx_d_1216 : decode code 1216 = .ok (.iconst 1, 1) := by decide +kernel
theorem lx_d_1217 : decode code 1217 = .ok (.iadd, 1) := by decide +kernel
theorem lx_d_1218 : decode code 1218 = .ok (.iaload, 1) := by decide +kernel
theorem lx_d_1219 : decode code 1219 = .ok (.aload_n 0, 1) := by decide +kernel
theorem lx_d_1220 : decode code 1220 = .ok (.iload_n 3, 1) := by decide +kernel
theorem lx_d_1221 : decode code 1221 = .ok (.iconst 2, 1) := by decide +kernel
theorem lx_d_1222 : decode code 1222 = .ok (.iadd, 1) := by decide +kernel
theorem lx_d_1223 : decode code 1223 = .ok (.iaload, 1) := by decide +kernel
theorem lx_d_1224 : decode code 1224 = .ok (.invokevirtual 155, 3) := by decide +kernel
theorem lx_d_1227 : decode code 1227 = .ok (.aload_n 2, 1) := by decide +kernel
theorem lx_d_1228 : decode code 1228 = .ok (.aload_n 0, 1) := by decide +kernel
theorem lx_d_1229 : decode code 1229 = .ok (.iload_n 3, 1) := by decide +kernel
