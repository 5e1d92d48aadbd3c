theorem dLW_law_337 : decode code 337 = .ok (.iconst 1, 1) := by decide +kernel
theorem dLW_law_338 : decode code 338 = .ok (.iadd, 1) := by decide +kernel
theorem dLW_law_339 : decode code 339 = .ok (.iaload, 1) := by decide +kernel
theorem dLW_law_340 : decode code 340 = .ok (.aload_n 0, 1) := by decide +kernel
theorem dLW_law_341 : decode code 341 = .ok (.iload 4, 2) := by decide +kernel
theorem dLW_law_343 : decode code 343 = .ok (.iconst 2, 1) := by decide +kernel
theorem dLW_law_344 : decode code 344 = .ok (.iadd, 1) := by decide +kernel
theorem dLW_law_345 : decode code 345 = .ok (.iaload, 1) := by decide +kernel
theorem dLW_law_346 : decode code 346 = .ok (.aload_n 0, 1) := by decide +kernel
theorem dLW_law_347 : decode code 347 = .ok (.iload 4, 2) := by decide +kernel
theorem dLW_law_349 : decode code 349 = .ok (.iconst 3, 1) := by decide +kernel
theorem dLW_law_350 : decode code 350 = .ok (.iadd, 1) := by decide +kernel
theorem dLW_law_351 : decode code 351 = .ok (.iaload, 1) := by decide +kernel
theorem dLW_law_352 : decode code 352 = .ok (.invokestatic 74, 3) := by decide +kernel
theorem dLW_law_355 : decode code 355 = .ok (.istore 5, 2) := by decide +kernel
theorem dLW_law_357 : decode code 357 = .ok (.aload_n 2, 1) := by decide +kernel
theorem dLW_law_358 : decode code 358 = .ok (.aload_n 0, 1) := by decide +kernel
theorem dLW_law_359 : decode code 359 = .ok (.iload 4, 2) := by decide +kernel
theorem dLW_law_361 : decode code 361 = .ok (.iconst 1, 1) := by decide +kernel
theorem dLW_law_362 : decode code 362 = .ok (.iadd, 1) := by decide +kernel
theorem dLW_law_363 : decode code 363 = .ok (.iaload, 1) := by decide +kernel
theorem dLW_law_364 : decode code 364 = .ok (.aload_n 0, 1) := by decide +kernel
theorem dLW_law_365 : decode code 365 = .ok (.iload 4, 2) := by decide +kernel
theorem dLW_law_367 : decode code 367 = .ok (.iconst 2, 1) := by decide +kernel
theorem dLW_law_368 : decode code 368 = .ok (.iadd, 1) := by decide +kernel
theorem dLW_law_369 : decode code 369 = .ok (.iaload, 1) := by decide +kernel
theorem dLW_law_370 : decode code 370 = .ok (.aload_n 0, 1) := by decide +kernel
theorem dLW_law_371 : decode code 371 = .ok (.iload 4, 2) := by decide +kernel
theorem dLW_law_373 : decode code 373 = .ok (.iconst 3, 1) := by decide +kernel
theorem dLW_law_374 : decode code 374 = .ok (.iadd, 1) := by decide +kernel
theorem dLW_law_375 : decode code 375 = .ok (.iaload, 1) := by decide +kernel
theorem dLW_law_376 : decode code 376 = .ok (.invokevirtual 77, 3) := by decide +kernel
theorem dLW_law_379 : decode code 379 = .ok (.goto 362, 3) := by decide +kernel
theorem dLW_law_382 : decode code 382 = .ok (.aload_n 1, 1) := by decide +kernel
theorem dLW_law_383 : decode code 383 = .ok (.aload_n 0, 1) := by decide +kernel
theorem dLW_law_384 : decode code 384 = .ok (.iload 4, 2) := by decide +kernel
theorem dLW_law_386 : decode code 386 = .ok (.iconst 1, 1) := by decide +kernel
theorem dLW_law_387 : decode code 387 = .ok (.iadd, 1) := by decide +kernel
theorem dLW_law_388 : decode code 388 = .ok (.iaload, 1) := by decide +kernel
theorem dLW_law_389 : decode code 389 = .ok (.invokestatic 78, 3) := by decide +kernel
theorem dLW_law_392 : decode code 392 = .ok (.istore 5, 2) := by decide +kernel
theorem dLW_law_394 : decode code 394 = .ok (.aload_n 2, 1) := by decide +kernel
theorem dLW_law_395 : decode code 395 = .ok (.aload_n 0, 1) := by decide +kernel
theorem dLW_law_396 : decode code 396 = .ok (.iload 4, 2) := by decide +kernel
theorem dLW_law_398 : decode code 398 = .ok (.iconst 1, 1) := by decide +kernel
theorem dLW_law_399 : decode code 399 = .ok (.iadd, 1) := by decide +kernel
theorem dLW_law_400 : decode code 400 = .ok (.iaload, 1) := by decide +kernel
theorem dLW_law_401 : decode code 401 = .ok (.invokevirtual 81, 3) := by decide +kernel
theorem dLW_law_404 : decode code 404 = .ok (.goto 337, 3) := by decide +kernel
theorem dLW_law_407 : decode code 407 = .ok (.aload_n 1, 1) := by decide +kernel
theorem dLW_law_408 : decode code 408 = .ok (.aload_n 0, 1) := by decide +kernel
theorem dLW_law_409 : decode code 409 = .ok (.iload 4, 2) := by decide +kernel
theorem dLW_law_411 : decode code 411 = .ok (.iconst 1, 1) := by decide +kernel
theorem dLW_law_412 : decode code 412 = .ok (.iadd, 1) := by decide +kernel
theorem dLW_law_413 : decode code 413 = .ok (.iaload, 1) := by decide +kernel
theorem dLW_law_414 : decode code 414 = .ok (.aload_n 0, 1) := by decide +kernel
theorem dLW_law_415 : decode code 415 = .ok (.iload 4, 2) := by decide +kernel
theorem dLW_law_417 : decode code 417 = .ok (.iconst 2, 1) := by decide +kernel
theorem dLW_law_418 : decode code 418 = .ok (.iadd, 1) := by decide +kernel
theorem dLW_law_419 : decode code 419 = .ok (.iaload, 1) := by decide +kernel
