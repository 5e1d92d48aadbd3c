theorem dLW_law_339 : decode code 339 = .ok (.iconst 0, 1) := by decide +kernel
theorem dLW_law_340 : decode code 340 = .ok (.ireturn, 1) := by decide +kernel
theorem dLW_law_341 : decode code 341 = .ok (.iload 5, 2) := by decide +kernel
theorem dLW_law_343 : decode code 343 = .ok (.ifCond .ne 15, 3) := by decide +kernel
theorem dLW_law_346 : decode code 346 = .ok (.aload_n 3, 1) := by decide +kernel
theorem dLW_law_347 : decode code 347 = .ok (.iconst 0, 1) := by decide +kernel
theorem dLW_law_348 : decode code 348 = .ok (.laload, 1) := by decide +kernel
theorem dLW_law_349 : decode code 349 = .ok (.iload 6, 2) := by decide +kernel
theorem dLW_law_351 : decode code 351 = .ok (.i2l, 1) := by decide +kernel
theorem dLW_law_352 : decode code 352 = .ok (.lcmp, 1) := by decide +kernel
theorem dLW_law_353 : decode code 353 = .ok (.ifCond .eq 5, 3) := by decide +kernel
theorem dLW_law_356 : decode code 356 = .ok (.iconst 0, 1) := by decide +kernel
theorem dLW_law_357 : decode code 357 = .ok (.ireturn, 1) := by decide +kernel
theorem dLW_law_358 : decode code 358 = .ok (.goto 573, 3) := by decide +kernel
theorem dLW_law_361 : decode code 361 = .ok (.aload_n 1, 1) := by decide +kernel
theorem dLW_law_362 : decode code 362 = .ok (.aload_n 0, 1) := by decide +kernel
theorem dLW_law_363 : decode code 363 = .ok (.iload 4, 2) := by decide +kernel
theorem dLW_law_365 : decode code 365 = .ok (.iconst 1, 1) := by decide +kernel
theorem dLW_law_366 : decode code 366 = .ok (.iadd, 1) := by decide +kernel
theorem dLW_law_367 : decode code 367 = .ok (.iaload, 1) := by decide +kernel
theorem dLW_law_368 : decode code 368 = .ok (.aload_n 0, 1) := by decide +kernel
theorem dLW_law_369 : decode code 369 = .ok (.iload 4, 2) := by decide +kernel
theorem dLW_law_371 : decode code 371 = .ok (.iconst 2, 1) := by decide +kernel
theorem dLW_law_372 : decode code 372 = .ok (.iadd, 1) := by decide +kernel
theorem dLW_law_373 : decode code 373 = .ok (.iaload, 1) := by decide +kernel
theorem dLW_law_374 : decode code 374 = .ok (.aload_n 0, 1) := by decide +kernel
theorem dLW_law_375 : decode code 375 = .ok (.iload 4, 2) := by decide +kernel
theorem dLW_law_377 : decode code 377 = .ok (.iconst 3, 1) := by decide +kernel
theorem dLW_law_378 : decode code 378 = .ok (.iadd, 1) := by decide +kernel
theorem dLW_law_379 : decode code 379 = .ok (.iaload, 1) := by decide +kernel
theorem dLW_law_380 : decode code 380 = .ok (.invokestatic 74, 3) := by decide +kernel
theorem dLW_law_383 : decode code 383 = .ok (.istore 5, 2) := by decide +kernel
theorem dLW_law_385 : decode code 385 = .ok (.aload_n 2, 1) := by decide +kernel
theorem dLW_law_386 : decode code 386 = .ok (.aload_n 0, 1) := by decide +kernel
theorem dLW_law_387 : decode code 387 = .ok (.iload 4, 2) := by decide +kernel
theorem dLW_law_389 : decode code 389 = .ok (.iconst 1, 1) := by decide +kernel
theorem dLW_law_390 : decode code 390 = .ok (.iadd, 1) := by decide +kernel
theorem dLW_law_391 : decode code 391 = .ok (.iaload, 1) := by decide +kernel
theorem dLW_law_392 : decode code 392 = .ok (.aload_n 0, 1) := by decide +kernel
theorem dLW_law_393 : decode code 393 = .ok (.iload 4, 2) := by decide +kernel
theorem dLW_law_395 : decode code 395 = .ok (.iconst 2, 1) := by decide +kernel
theorem dLW_law_396 : decode code 396 = .ok (.iadd, 1) := by decide +kernel
theorem dLW_law_397 : decode code 397 = .ok (.iaload, 1) := by decide +kernel
theorem dLW_law_398 : decode code 398 = .ok (.aload_n 0, 1) := by decide +kernel
theorem dLW_law_399 : decode code 399 = .ok (.iload 4, 2) := by decide +kernel
theorem dLW_law_401 : decode code 401 = .ok (.iconst 3, 1) := by decide +kernel
theorem dLW_law_402 : decode code 402 = .ok (.iadd, 1) := by decide +kernel
theorem dLW_law_403 : decode code 403 = .ok (.iaload, 1) := by decide +kernel
theorem dLW_law_404 : decode code 404 = .ok (.invokevirtual 77, 3) := by decide +kernel
theorem dLW_law_407 : decode code 407 = .ok (.aload_n 2, 1) := by decide +kernel
theorem dLW_law_408 : decode code 408 = .ok (.invokevirtual 68, 3) := by decide +kernel
theorem dLW_law_411 : decode code 411 = .ok (.iload 5, 2) := by decide +kernel
theorem dLW_law_413 : decode code 413 = .ok (.if_icmp .eq 5, 3) := by decide +kernel
theorem dLW_law_416 : decode code 416 = .ok (.iconst 0, 1) := by decide +kernel
theorem dLW_law_417 : decode code 417 = .ok (.ireturn, 1) := by decide +kernel
theorem dLW_law_418 : decode code 418 = .ok (.goto 513, 3) := by decide +kernel
theorem dLW_law_421 : decode code 421 = .ok (.aload_n 1, 1) := by decide +kernel
theorem dLW_law_422 : decode code 422 = .ok (.aload_n 0, 1) := by decide +kernel
theorem dLW_law_423 : decode code 423 = .ok (.iload 4, 2) := by decide +kernel
theorem dLW_law_425 : decode code 425 = .ok (.iconst 1, 1) := by decide +kernel
