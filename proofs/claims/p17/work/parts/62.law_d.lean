theorem dLW_law_331 : decode code 331 = .ok (.iload 4, 2) := by decide +kernel
theorem dLW_law_333 : decode code 333 = .ok (.iconst 1, 1) := by decide +kernel
theorem dLW_law_334 : decode code 334 = .ok (.iadd, 1) := by decide +kernel
theorem dLW_law_335 : decode code 335 = .ok (.iaload, 1) := by decide +kernel
theorem dLW_law_336 : decode code 336 = .ok (.aload_n 0, 1) := by decide +kernel
theorem dLW_law_337 : decode code 337 = .ok (.iload 4, 2) := by decide +kernel
theorem dLW_law_339 : decode code 339 = .ok (.iconst 2, 1) := by decide +kernel
theorem dLW_law_340 : decode code 340 = .ok (.iadd, 1) := by decide +kernel
theorem dLW_law_341 : decode code 341 = .ok (.iaload, 1) := by decide +kernel
theorem dLW_law_342 : decode code 342 = .ok (.aload_n 0, 1) := by decide +kernel
theorem dLW_law_343 : decode code 343 = .ok (.iload 4, 2) := by decide +kernel
theorem dLW_law_345 : decode code 345 = .ok (.iconst 3, 1) := by decide +kernel
theorem dLW_law_346 : decode code 346 = .ok (.iadd, 1) := by decide +kernel
theorem dLW_law_347 : decode code 347 = .ok (.iaload, 1) := by decide +kernel
theorem dLW_law_348 : decode code 348 = .ok (.invokevirtual 74, 3) := by decide +kernel
theorem dLW_law_351 : decode code 351 = .ok (.goto 390, 3) := by decide +kernel
theorem dLW_law_354 : decode code 354 = .ok (.aload_n 1, 1) := by decide +kernel
theorem dLW_law_355 : decode code 355 = .ok (.aload_n 0, 1) := by decide +kernel
theorem dLW_law_356 : decode code 356 = .ok (.iload 4, 2) := by decide +kernel
theorem dLW_law_358 : decode code 358 = .ok (.iconst 1, 1) := by decide +kernel
theorem dLW_law_359 : decode code 359 = .ok (.iadd, 1) := by decide +kernel
theorem dLW_law_360 : decode code 360 = .ok (.iaload, 1) := by decide +kernel
theorem dLW_law_361 : decode code 361 = .ok (.invokestatic 75, 3) := by decide +kernel
theorem dLW_law_364 : decode code 364 = .ok (.istore 5, 2) := by decide +kernel
theorem dLW_law_366 : decode code 366 = .ok (.aload_n 2, 1) := by decide +kernel
theorem dLW_law_367 : decode code 367 = .ok (.aload_n 0, 1) := by decide +kernel
theorem dLW_law_368 : decode code 368 = .ok (.iload 4, 2) := by decide +kernel
theorem dLW_law_370 : decode code 370 = .ok (.iconst 1, 1) := by decide +kernel
theorem dLW_law_371 : decode code 371 = .ok (.iadd, 1) := by decide +kernel
theorem dLW_law_372 : decode code 372 = .ok (.iaload, 1) := by decide +kernel
theorem dLW_law_373 : decode code 373 = .ok (.invokevirtual 78, 3) := by decide +kernel
theorem dLW_law_376 : decode code 376 = .ok (.goto 365, 3) := by decide +kernel
theorem dLW_law_379 : decode code 379 = .ok (.aload_n 1, 1) := by decide +kernel
theorem dLW_law_380 : decode code 380 = .ok (.aload_n 0, 1) := by decide +kernel
theorem dLW_law_381 : decode code 381 = .ok (.iload 4, 2) := by decide +kernel
theorem dLW_law_383 : decode code 383 = .ok (.iconst 1, 1) := by decide +kernel
theorem dLW_law_384 : decode code 384 = .ok (.iadd, 1) := by decide +kernel
theorem dLW_law_385 : decode code 385 = .ok (.iaload, 1) := by decide +kernel
theorem dLW_law_386 : decode code 386 = .ok (.aload_n 0, 1) := by decide +kernel
theorem dLW_law_387 : decode code 387 = .ok (.iload 4, 2) := by decide +kernel
theorem dLW_law_389 : decode code 389 = .ok (.iconst 2, 1) := by decide +kernel
theorem dLW_law_390 : decode code 390 = .ok (.iadd, 1) := by decide +kernel
theorem dLW_law_391 : decode code 391 = .ok (.iaload, 1) := by decide +kernel
theorem dLW_law_392 : decode code 392 = .ok (.aload_n 0, 1) := by decide +kernel
theorem dLW_law_393 : decode code 393 = .ok (.iload 4, 2) := by decide +kernel
theorem dLW_law_395 : decode code 395 = .ok (.iconst 3, 1) := by decide +kernel
theorem dLW_law_396 : decode code 396 = .ok (.iadd, 1) := by decide +kernel
theorem dLW_law_397 : decode code 397 = .ok (.iaload, 1) := by decide +kernel
theorem dLW_law_398 : decode code 398 = .ok (.aload_n 0, 1) := by decide +kernel
theorem dLW_law_399 : decode code 399 = .ok (.iload 4, 2) := by decide +kernel
theorem dLW_law_401 : decode code 401 = .ok (.iconst 4, 1) := by decide +kernel
theorem dLW_law_402 : decode code 402 = .ok (.iadd, 1) := by decide +kernel
theorem dLW_law_403 : decode code 403 = .ok (.iaload, 1) := by decide +kernel
theorem dLW_law_404 : decode code 404 = .ok (.aload_n 3, 1) := by decide +kernel
theorem dLW_law_405 : decode code 405 = .ok (.invokestatic 79, 3) := by decide +kernel
theorem dLW_law_408 : decode code 408 = .ok (.istore 5, 2) := by decide +kernel
theorem dLW_law_410 : decode code 410 = .ok (.aload_n 2, 1) := by decide +kernel
theorem dLW_law_411 : decode code 411 = .ok (.aload_n 0, 1) := by decide +kernel
theorem dLW_law_412 : decode code 412 = .ok (.iload 4, 2) := by decide +kernel
theorem dLW_law_414 : decode code 414 = .ok (.iconst 1, 1) := by decide +kernel
