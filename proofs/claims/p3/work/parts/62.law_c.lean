theorem dLW_law_258 : decode code 258 = .ok (.aload_n 0, 1) := by decide +kernel
theorem dLW_law_259 : decode code 259 = .ok (.iload 4, 2) := by decide +kernel
theorem dLW_law_261 : decode code 261 = .ok (.iconst 1, 1) := by decide +kernel
theorem dLW_law_262 : decode code 262 = .ok (.iadd, 1) := by decide +kernel
theorem dLW_law_263 : decode code 263 = .ok (.iaload, 1) := by decide +kernel
theorem dLW_law_264 : decode code 264 = .ok (.aload_n 0, 1) := by decide +kernel
theorem dLW_law_265 : decode code 265 = .ok (.iload 4, 2) := by decide +kernel
theorem dLW_law_267 : decode code 267 = .ok (.iconst 2, 1) := by decide +kernel
theorem dLW_law_268 : decode code 268 = .ok (.iadd, 1) := by decide +kernel
theorem dLW_law_269 : decode code 269 = .ok (.iaload, 1) := by decide +kernel
theorem dLW_law_270 : decode code 270 = .ok (.aload_n 0, 1) := by decide +kernel
theorem dLW_law_271 : decode code 271 = .ok (.iload 4, 2) := by decide +kernel
theorem dLW_law_273 : decode code 273 = .ok (.iconst 3, 1) := by decide +kernel
theorem dLW_law_274 : decode code 274 = .ok (.iadd, 1) := by decide +kernel
theorem dLW_law_275 : decode code 275 = .ok (.iaload, 1) := by decide +kernel
theorem dLW_law_276 : decode code 276 = .ok (.aload_n 0, 1) := by decide +kernel
theorem dLW_law_277 : decode code 277 = .ok (.iload 4, 2) := by decide +kernel
theorem dLW_law_279 : decode code 279 = .ok (.iconst 4, 1) := by decide +kernel
theorem dLW_law_280 : decode code 280 = .ok (.iadd, 1) := by decide +kernel
theorem dLW_law_281 : decode code 281 = .ok (.iaload, 1) := by decide +kernel
theorem dLW_law_282 : decode code 282 = .ok (.aload_n 0, 1) := by decide +kernel
theorem dLW_law_283 : decode code 283 = .ok (.iload 4, 2) := by decide +kernel
theorem dLW_law_285 : decode code 285 = .ok (.iconst 5, 1) := by decide +kernel
theorem dLW_law_286 : decode code 286 = .ok (.iadd, 1) := by decide +kernel
theorem dLW_law_287 : decode code 287 = .ok (.iaload, 1) := by decide +kernel
theorem dLW_law_288 : decode code 288 = .ok (.aload_n 3, 1) := by decide +kernel
theorem dLW_law_289 : decode code 289 = .ok (.invokestatic 71, 3) := by decide +kernel
theorem dLW_law_292 : decode code 292 = .ok (.istore 5, 2) := by decide +kernel
theorem dLW_law_294 : decode code 294 = .ok (.aload_n 2, 1) := by decide +kernel
theorem dLW_law_295 : decode code 295 = .ok (.aload_n 0, 1) := by decide +kernel
theorem dLW_law_296 : decode code 296 = .ok (.iload 4, 2) := by decide +kernel
theorem dLW_law_298 : decode code 298 = .ok (.iconst 1, 1) := by decide +kernel
theorem dLW_law_299 : decode code 299 = .ok (.iadd, 1) := by decide +kernel
theorem dLW_law_300 : decode code 300 = .ok (.iaload, 1) := by decide +kernel
theorem dLW_law_301 : decode code 301 = .ok (.aload_n 0, 1) := by decide +kernel
theorem dLW_law_302 : decode code 302 = .ok (.iload 4, 2) := by decide +kernel
theorem dLW_law_304 : decode code 304 = .ok (.iconst 2, 1) := by decide +kernel
theorem dLW_law_305 : decode code 305 = .ok (.iadd, 1) := by decide +kernel
theorem dLW_law_306 : decode code 306 = .ok (.iaload, 1) := by decide +kernel
theorem dLW_law_307 : decode code 307 = .ok (.aload_n 0, 1) := by decide +kernel
theorem dLW_law_308 : decode code 308 = .ok (.iload 4, 2) := by decide +kernel
theorem dLW_law_310 : decode code 310 = .ok (.iconst 3, 1) := by decide +kernel
theorem dLW_law_311 : decode code 311 = .ok (.iadd, 1) := by decide +kernel
theorem dLW_law_312 : decode code 312 = .ok (.iaload, 1) := by decide +kernel
theorem dLW_law_313 : decode code 313 = .ok (.aload_n 0, 1) := by decide +kernel
theorem dLW_law_314 : decode code 314 = .ok (.iload 4, 2) := by decide +kernel
theorem dLW_law_316 : decode code 316 = .ok (.iconst 4, 1) := by decide +kernel
theorem dLW_law_317 : decode code 317 = .ok (.iadd, 1) := by decide +kernel
theorem dLW_law_318 : decode code 318 = .ok (.iaload, 1) := by decide +kernel
theorem dLW_law_319 : decode code 319 = .ok (.aload_n 0, 1) := by decide +kernel
theorem dLW_law_320 : decode code 320 = .ok (.iload 4, 2) := by decide +kernel
theorem dLW_law_322 : decode code 322 = .ok (.iconst 5, 1) := by decide +kernel
theorem dLW_law_323 : decode code 323 = .ok (.iadd, 1) := by decide +kernel
theorem dLW_law_324 : decode code 324 = .ok (.iaload, 1) := by decide +kernel
theorem dLW_law_325 : decode code 325 = .ok (.invokevirtual 73, 3) := by decide +kernel
theorem dLW_law_328 : decode code 328 = .ok (.istore 6, 2) := by decide +kernel
theorem dLW_law_330 : decode code 330 = .ok (.goto 411, 3) := by decide +kernel
theorem dLW_law_333 : decode code 333 = .ok (.aload_n 1, 1) := by decide +kernel
theorem dLW_law_334 : decode code 334 = .ok (.aload_n 0, 1) := by decide +kernel
theorem dLW_law_335 : decode code 335 = .ok (.iload 4, 2) := by decide +kernel
