/-! decode rows of the law (by gen72.py) -/
theorem lx_d_0 : decode code 0 = .ok (.new 7, 3) := by decide +kernel
theorem lx_d_3 : decode code 3 = .ok (.dup, 1) := by decide +kernel
theorem lx_d_4 : decode code 4 = .ok (.invokespecial 9, 3) := by decide +kernel
theorem lx_d_7 : decode code 7 = .ok (.astore_n 1, 1) := by decide +kernel
theorem lx_d_8 : decode code 8 = .ok (.new 10, 3) := by decide +kernel
theorem lx_d_11 : decode code 11 = .ok (.dup, 1) := by decide +kernel
theorem lx_d_12 : decode code 12 = .ok (.invokespecial 12, 3) := by decide +kernel
theorem lx_d_15 : decode code 15 = .ok (.astore_n 2, 1) := by decide +kernel
theorem lx_d_16 : decode code 16 = .ok (.iconst 0, 1) := by decide +kernel
theorem lx_d_17 : decode code 17 = .ok (.istore_n 3, 1) := by decide +kernel
theorem lx_d_18 : decode code 18 = .ok (.iload_n 3, 1) := by decide +kernel
theorem lx_d_19 : decode code 19 = .ok (.aload_n 0, 1) := by decide +kernel
theorem lx_d_20 : decode code 20 = .ok (.arraylength, 1) := by decide +kernel
theorem lx_d_21 : decode code 21 = .ok (.bipush 6, 2) := by decide +kernel
theorem lx_d_23 : decode code 23 = .ok (.isub, 1) := by decide +kernel
theorem lx_d_24 : decode code 24 = .ok (.if_icmp .gt 1348, 3) := by decide +kernel
theorem lx_d_27 : decode code 27 = .ok (.aload_n 0, 1) := by decide +kernel
theorem lx_d_28 : decode code 28 = .ok (.iload_n 3, 1) := by decide +kernel
theorem lx_d_29 : decode code 29 = .ok (.iaload, 1) := by decide +kernel
theorem lx_d_30 : decode code 30 = .ok (.bipush 63, 2) := by decide +kernel
theorem lx_d_32 : decode code 32 = .ok (.iand, 1) := by decide +kernel
theorem lx_d_33 : decode code 33 = .ok (.tableswitch 1333 0 36 #[163, 186, 229, 272, 305, 328, 341, 385, 429, 452, 475, 519, 563, 607, 641, 665, 689, 712, 745, 768, 811, 844, 867, 890, 903, 916, 929, 942, 965, 1008, 1031, 1064, 1107, 1180, 1214, 1277, 1310], 163) := by decide +kernel
theorem lx_d_196 : decode code 196 = .ok (.aload_n 1, 1) := by decide +kernel
theorem lx_d_197 : decode code 197 = .ok (.aload_n 0, 1) := by decide +kernel
theorem lx_d_198 : decode code 198 = .ok (.iload_n 3, 1) := by decide +kernel
theorem lx_d_199 : decode code 199 = .ok (.iconst 1, 1) := by decide +kernel
theorem lx_d_200 : decode code 200 = .ok (.iadd, 1) := by decide +kernel
theorem lx_d_201 : decode code 201 = .ok (.iaload, 1) := by decide +kernel
theorem lx_d_202 : decode code 202 = .ok (.invokevirtual 13, 3) := by decide +kernel
theorem lx_d_205 : decode code 205 = .ok (.aload_n 2, 1) := by decide +kernel
theorem lx_d_206 : decode code 206 = .ok (.aload_n 0, 1) := by decide +kernel
theorem lx_d_207 : decode code 207 = .ok (.iload_n 3, 1) := by decide +kernel
theorem lx_d_208 : decode code 208 = .ok (.iconst 1, 1) := by decide +kernel
theorem lx_d_209 : decode code 209 = .ok (.iadd, 1) := by decide +kernel
theorem lx_d_210 : decode code 210 = .ok (.iaload, 1) := by decide +kernel
theorem lx_d_211 : decode code 211 = .ok (.invokevirtual 17, 3) := by decide +kernel
theorem lx_d_214 : decode code 214 = .ok (.if_icmp .eq 1152, 3) := by decide +kernel
theorem lx_d_217 : decode code 217 = .ok (.iconst 0, 1) := by decide +kernel
theorem lx_d_218 : decode code 218 = .ok (.ireturn, 1) := by decide +kernel
theorem lx_d_219 : decode code 219 = .ok (.aload_n 1, 1) := by decide +kernel
theorem lx_d_220 : decode code 220 = .ok (.aload_n 0, 1) := by decide +kernel
theorem lx_d_221 : decode code 221 = .ok (.iload_n 3, 1) := by decide +kernel
theorem lx_d_222 : decode code 222 = .ok (.iconst 1, 1) := by decide +kernel
theorem lx_d_223 : decode code 223 = .ok (.iadd, 1) := by decide +kernel
theorem lx_d_224 : decode code 224 = .ok (.iaload, 1) := by decide +kernel
theorem lx_d_225 : decode code 225 = .ok (.aload_n 0, 1) := by decide +kernel
theorem lx_d_226 : decode code 226 = .ok (.iload_n 3, 1) := by decide +kernel
theorem lx_d_227 : decode code 227 = .ok (.iconst 2, 1) := by decide +kernel
theorem lx_d_228 : decode code 228 = .ok (.iadd, 1) := by decide +kernel
theorem lx_d_229 : decode code 229 = .ok (.iaload, 1) := by decide +kernel
