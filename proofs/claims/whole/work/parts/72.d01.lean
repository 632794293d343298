/-! decode rows of the law (by gen72.py) -/
theorem lx_d_230 : decode code 230 = .ok (.aload_n 0, 1) := by decide +kernel
theorem lx_d_231 : decode code 231 = .ok (.iload_n 3, 1) := by decide +kernel
theorem lx_d_232 : decode code 232 = .ok (.iconst 3, 1) := by decide +kernel
theorem lx_d_233 : decode code 233 = .ok (.iadd, 1) := by decide +kernel
theorem lx_d_234 : decode code 234 = .ok (.iaload, 1) := by decide +kernel
theorem lx_d_235 : decode code 235 = .ok (.invokevirtual 18, 3) := by decide +kernel
theorem lx_d_238 : decode code 238 = .ok (.aload_n 2, 1) := by decide +kernel
theorem lx_d_239 : decode code 239 = .ok (.aload_n 0, 1) := by decide +kernel
theorem lx_d_240 : decode code 240 = .ok (.iload_n 3, 1) := by decide +kernel
theorem lx_d_241 : decode code 241 = .ok (.iconst 1, 1) := by decide +kernel
theorem lx_d_242 : decode code 242 = .ok (.iadd, 1) := by decide +kernel
theorem lx_d_243 : decode code 243 = .ok (.iaload, 1) := by decide +kernel
theorem lx_d_244 : decode code 244 = .ok (.aload_n 0, 1) := by decide +kernel
theorem lx_d_245 : decode code 245 = .ok (.iload_n 3, 1) := by decide +kernel
theorem lx_d_246 : decode code 246 = .ok (.iconst 2, 1) := by decide +kernel
theorem lx_d_247 : decode code 247 = .ok (.iadd, 1) := by decide +kernel
theorem lx_d_248 : decode code 248 = .ok (.iaload, 1) := by decide +kernel
theorem lx_d_249 : decode code 249 = .ok (.aload_n 0, 1) := by decide +kernel
theorem lx_d_250 : decode code 250 = .ok (.iload_n 3, 1) := by decide +kernel
theorem lx_d_251 : decode code 251 = .ok (.iconst 3, 1) := by decide +kernel
theorem lx_d_252 : decode code 252 = .ok (.iadd, 1) := by decide +kernel
theorem lx_d_253 : decode code 253 = .ok (.iaload, 1) := by decide +kernel
theorem lx_d_254 : decode code 254 = .ok (.invokevirtual 22, 3) := by decide +kernel
theorem lx_d_257 : decode code 257 = .ok (.if_icmp .eq 1109, 3) := by decide +kernel
theorem lx_d_260 : decode code 260 = .ok (.iconst 0, 1) := by decide +kernel
theorem lx_d_261 : decode code 261 = .ok (.ireturn, 1) := by decide +kernel
theorem lx_d_262 : decode code 262 = .ok (.aload_n 1, 1) := by decide +kernel
theorem lx_d_263 : decode code 263 = .ok (.aload_n 0, 1) := by decide +kernel
theorem lx_d_264 : decode code 264 = .ok (.iload_n 3, 1) := by decide +kernel
theorem lx_d_265 : decode code 265 = .ok (.iconst 1, 1) := by decide +kernel
theorem lx_d_266 : decode code 266 = .ok (.iadd, 1) := by decide +kernel
theorem lx_d_267 : decode code 267 = .ok (.iaload, 1) := by decide +kernel
theorem lx_d_268 : decode code 268 = .ok (.aload_n 0, 1) := by decide +kernel
theorem lx_d_269 : decode code 269 = .ok (.iload_n 3, 1) := by decide +kernel
theorem lx_d_270 : decode code 270 = .ok (.iconst 2, 1) := by decide +kernel
theorem lx_d_271 : decode code 271 = .ok (.iadd, 1) := by decide +kernel
theorem lx_d_272 : decode code 272 = .ok (.iaload, 1) := by decide +kernel
theorem lx_d_273 : decode code 273 = .ok (.aload_n 0, 1) := by decide +kernel
theorem lx_d_274 : decode code 274 = .ok (.iload_n 3, 1) := by decide +kernel
theorem lx_d_275 : decode code 275 = .ok (.iconst 3, 1) := by decide +kernel
theorem lx_d_276 : decode code 276 = .ok (.iadd, 1) := by decide +kernel
theorem lx_d_277 : decode code 277 = .ok (.iaload, 1) := by decide +kernel
theorem lx_d_278 : decode code 278 = .ok (.invokevirtual 23, 3) := by decide +kernel
theorem lx_d_281 : decode code 281 = .ok (.aload_n 2, 1) := by decide +kernel
theorem lx_d_282 : decode code 282 = .ok (.aload_n 0, 1) := by decide +kernel
theorem lx_d_283 : decode code 283 = .ok (.iload_n 3, 1) := by decide +kernel
theorem lx_d_284 : decode code 284 = .ok (.iconst 1, 1) := by decide +kernel
theorem lx_d_285 : decode code 285 = .ok (.iadd, 1) := by decide +kernel
theorem lx_d_286 : decode code 286 = .ok (.iaload, 1) := by decide +kernel
theorem lx_d_287 : decode code 287 = .ok (.aload_n 0, 1) := by decide +kernel
