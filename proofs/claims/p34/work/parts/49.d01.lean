theorem dL_law_220 : decode code 220 = .ok (.ishr, 1) := by decide +kernel
theorem dL_law_221 : decode code 221 = .ok (.bipush 6, 2) := by decide +kernel
theorem dL_law_223 : decode code 223 = .ok (.invokestatic 18, 3) := by decide +kernel
theorem dL_law_226 : decode code 226 = .ok (.invokevirtual 32, 3) := by decide +kernel
theorem dL_law_229 : decode code 229 = .ok (.pop, 1) := by decide +kernel
theorem dL_law_23 : decode code 23 = .ok (.sipush 5000, 3) := by decide +kernel
theorem dL_law_230 : decode code 230 = .ok (.goto 365, 3) := by decide +kernel
theorem dL_law_233 : decode code 233 = .ok (.iload 4, 2) := by decide +kernel
theorem dL_law_235 : decode code 235 = .ok (.iconst 2, 1) := by decide +kernel
theorem dL_law_236 : decode code 236 = .ok (.ishr, 1) := by decide +kernel
theorem dL_law_237 : decode code 237 = .ok (.aload_n 1, 1) := by decide +kernel
theorem dL_law_238 : decode code 238 = .ok (.iconst 4, 1) := by decide +kernel
theorem dL_law_239 : decode code 239 = .ok (.invokevirtual 35, 3) := by decide +kernel
theorem dL_law_242 : decode code 242 = .ok (.iconst 1, 1) := by decide +kernel
theorem dL_law_243 : decode code 243 = .ok (.iadd, 1) := by decide +kernel
theorem dL_law_244 : decode code 244 = .ok (.invokestatic 18, 3) := by decide +kernel
theorem dL_law_247 : decode code 247 = .ok (.istore 8, 2) := by decide +kernel
theorem dL_law_249 : decode code 249 = .ok (.iload 8, 2) := by decide +kernel
theorem dL_law_251 : decode code 251 = .ok (.aload_n 1, 1) := by decide +kernel
theorem dL_law_252 : decode code 252 = .ok (.iconst 5, 1) := by decide +kernel
theorem dL_law_253 : decode code 253 = .ok (.invokevirtual 35, 3) := by decide +kernel
theorem dL_law_256 : decode code 256 = .ok (.if_icmp .gt 6, 3) := by decide +kernel
theorem dL_law_259 : decode code 259 = .ok (.goto 336, 3) := by decide +kernel
theorem dL_law_26 : decode code 26 = .ok (.invokestatic 18, 3) := by decide +kernel
theorem dL_law_262 : decode code 262 = .ok (.aload_n 1, 1) := by decide +kernel
theorem dL_law_263 : decode code 263 = .ok (.iload 8, 2) := by decide +kernel
theorem dL_law_265 : decode code 265 = .ok (.invokevirtual 38, 3) := by decide +kernel
theorem dL_law_268 : decode code 268 = .ok (.lstore 9, 2) := by decide +kernel
theorem dL_law_270 : decode code 270 = .ok (.aload_n 1, 1) := by decide +kernel
theorem dL_law_271 : decode code 271 = .ok (.iload 8, 2) := by decide +kernel
theorem dL_law_273 : decode code 273 = .ok (.iconst 0, 1) := by decide +kernel
theorem dL_law_274 : decode code 274 = .ok (.invokevirtual 42, 3) := by decide +kernel
theorem dL_law_277 : decode code 277 = .ok (.istore 7, 2) := by decide +kernel
theorem dL_law_279 : decode code 279 = .ok (.aload_n 1, 1) := by decide +kernel
theorem dL_law_280 : decode code 280 = .ok (.iload 7, 2) := by decide +kernel
theorem dL_law_282 : decode code 282 = .ok (.iconst 2, 1) := by decide +kernel
theorem dL_law_283 : decode code 283 = .ok (.invokevirtual 45, 3) := by decide +kernel
theorem dL_law_286 : decode code 286 = .ok (.iconst 1, 1) := by decide +kernel
theorem dL_law_287 : decode code 287 = .ok (.isub, 1) := by decide +kernel
theorem dL_law_288 : decode code 288 = .ok (.istore 11, 2) := by decide +kernel
theorem dL_law_29 : decode code 29 = .ok (.iadd, 1) := by decide +kernel
theorem dL_law_290 : decode code 290 = .ok (.lload 9, 2) := by decide +kernel
theorem dL_law_292 : decode code 292 = .ok (.lconst 0, 1) := by decide +kernel
theorem dL_law_293 : decode code 293 = .ok (.lcmp, 1) := by decide +kernel
theorem dL_law_294 : decode code 294 = .ok (.ifCond .eq 32, 3) := by decide +kernel
theorem dL_law_297 : decode code 297 = .ok (.aload_n 1, 1) := by decide +kernel
theorem dL_law_298 : decode code 298 = .ok (.iload 7, 2) := by decide +kernel
theorem dL_law_30 : decode code 30 = .ok (.invokevirtual 22, 3) := by decide +kernel
theorem dL_law_300 : decode code 300 = .ok (.iload 11, 2) := by decide +kernel
theorem dL_law_302 : decode code 302 = .ok (.iconst 0, 1) := by decide +kernel
theorem dL_law_303 : decode code 303 = .ok (.invokevirtual 48, 3) := by decide +kernel
theorem dL_law_306 : decode code 306 = .ok (.lconst 0, 1) := by decide +kernel
theorem dL_law_307 : decode code 307 = .ok (.lcmp, 1) := by decide +kernel
theorem dL_law_308 : decode code 308 = .ok (.ifCond .ne 39, 3) := by decide +kernel
theorem dL_law_311 : decode code 311 = .ok (.aload_n 1, 1) := by decide +kernel
theorem dL_law_312 : decode code 312 = .ok (.iload 7, 2) := by decide +kernel
theorem dL_law_314 : decode code 314 = .ok (.iload 11, 2) := by decide +kernel
theorem dL_law_316 : decode code 316 = .ok (.iconst 1, 1) := by decide +kernel
theorem dL_law_317 : decode code 317 = .ok (.invokevirtual 48, 3) := by decide +kernel
theorem dL_law_320 : decode code 320 = .ok (.lload 9, 2) := by decide +kernel
