theorem dLW_law_251 : decode code 251 = .ok (.iconst 4, 1) := by decide +kernel
theorem dLW_law_252 : decode code 252 = .ok (.iadd, 1) := by decide +kernel
theorem dLW_law_253 : decode code 253 = .ok (.iaload, 1) := by decide +kernel
theorem dLW_law_254 : decode code 254 = .ok (.aload_n 0, 1) := by decide +kernel
theorem dLW_law_255 : decode code 255 = .ok (.iload 4, 2) := by decide +kernel
theorem dLW_law_257 : decode code 257 = .ok (.iconst 5, 1) := by decide +kernel
theorem dLW_law_258 : decode code 258 = .ok (.iadd, 1) := by decide +kernel
theorem dLW_law_259 : decode code 259 = .ok (.iaload, 1) := by decide +kernel
theorem dLW_law_260 : decode code 260 = .ok (.aload_n 3, 1) := by decide +kernel
theorem dLW_law_261 : decode code 261 = .ok (.invokestatic 68, 3) := by decide +kernel
theorem dLW_law_264 : decode code 264 = .ok (.istore 5, 2) := by decide +kernel
theorem dLW_law_266 : decode code 266 = .ok (.aload_n 2, 1) := by decide +kernel
theorem dLW_law_267 : decode code 267 = .ok (.aload_n 0, 1) := by decide +kernel
theorem dLW_law_268 : decode code 268 = .ok (.iload 4, 2) := by decide +kernel
theorem dLW_law_270 : decode code 270 = .ok (.iconst 1, 1) := by decide +kernel
theorem dLW_law_271 : decode code 271 = .ok (.iadd, 1) := by decide +kernel
theorem dLW_law_272 : decode code 272 = .ok (.iaload, 1) := by decide +kernel
theorem dLW_law_273 : decode code 273 = .ok (.aload_n 0, 1) := by decide +kernel
theorem dLW_law_274 : decode code 274 = .ok (.iload 4, 2) := by decide +kernel
theorem dLW_law_276 : decode code 276 = .ok (.iconst 2, 1) := by decide +kernel
theorem dLW_law_277 : decode code 277 = .ok (.iadd, 1) := by decide +kernel
theorem dLW_law_278 : decode code 278 = .ok (.iaload, 1) := by decide +kernel
theorem dLW_law_279 : decode code 279 = .ok (.aload_n 0, 1) := by decide +kernel
theorem dLW_law_280 : decode code 280 = .ok (.iload 4, 2) := by decide +kernel
theorem dLW_law_282 : decode code 282 = .ok (.iconst 3, 1) := by decide +kernel
theorem dLW_law_283 : decode code 283 = .ok (.iadd, 1) := by decide +kernel
theorem dLW_law_284 : decode code 284 = .ok (.iaload, 1) := by decide +kernel
theorem dLW_law_285 : decode code 285 = .ok (.aload_n 0, 1) := by decide +kernel
theorem dLW_law_286 : decode code 286 = .ok (.iload 4, 2) := by decide +kernel
theorem dLW_law_288 : decode code 288 = .ok (.iconst 4, 1) := by decide +kernel
theorem dLW_law_289 : decode code 289 = .ok (.iadd, 1) := by decide +kernel
theorem dLW_law_290 : decode code 290 = .ok (.iaload, 1) := by decide +kernel
theorem dLW_law_291 : decode code 291 = .ok (.aload_n 0, 1) := by decide +kernel
theorem dLW_law_292 : decode code 292 = .ok (.iload 4, 2) := by decide +kernel
theorem dLW_law_294 : decode code 294 = .ok (.iconst 5, 1) := by decide +kernel
theorem dLW_law_295 : decode code 295 = .ok (.iadd, 1) := by decide +kernel
theorem dLW_law_296 : decode code 296 = .ok (.iaload, 1) := by decide +kernel
theorem dLW_law_297 : decode code 297 = .ok (.invokevirtual 70, 3) := by decide +kernel
theorem dLW_law_300 : decode code 300 = .ok (.istore 6, 2) := by decide +kernel
theorem dLW_law_302 : decode code 302 = .ok (.goto 439, 3) := by decide +kernel
theorem dLW_law_305 : decode code 305 = .ok (.aload_n 1, 1) := by decide +kernel
theorem dLW_law_306 : decode code 306 = .ok (.aload_n 0, 1) := by decide +kernel
theorem dLW_law_307 : decode code 307 = .ok (.iload 4, 2) := by decide +kernel
theorem dLW_law_309 : decode code 309 = .ok (.iconst 1, 1) := by decide +kernel
theorem dLW_law_310 : decode code 310 = .ok (.iadd, 1) := by decide +kernel
theorem dLW_law_311 : decode code 311 = .ok (.iaload, 1) := by decide +kernel
theorem dLW_law_312 : decode code 312 = .ok (.aload_n 0, 1) := by decide +kernel
theorem dLW_law_313 : decode code 313 = .ok (.iload 4, 2) := by decide +kernel
theorem dLW_law_315 : decode code 315 = .ok (.iconst 2, 1) := by decide +kernel
theorem dLW_law_316 : decode code 316 = .ok (.iadd, 1) := by decide +kernel
theorem dLW_law_317 : decode code 317 = .ok (.iaload, 1) := by decide +kernel
theorem dLW_law_318 : decode code 318 = .ok (.aload_n 0, 1) := by decide +kernel
theorem dLW_law_319 : decode code 319 = .ok (.iload 4, 2) := by decide +kernel
theorem dLW_law_321 : decode code 321 = .ok (.iconst 3, 1) := by decide +kernel
theorem dLW_law_322 : decode code 322 = .ok (.iadd, 1) := by decide +kernel
theorem dLW_law_323 : decode code 323 = .ok (.iaload, 1) := by decide +kernel
theorem dLW_law_324 : decode code 324 = .ok (.invokestatic 71, 3) := by decide +kernel
theorem dLW_law_327 : decode code 327 = .ok (.istore 5, 2) := by decide +kernel
theorem dLW_law_329 : decode code 329 = .ok (.aload_n 2, 1) := by decide +kernel
theorem dLW_law_330 : decode code 330 = .ok (.aload_n 0, 1) := by decide +kernel
