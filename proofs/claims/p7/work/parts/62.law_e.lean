theorem dLW_law_415 : decode code 415 = .ok (.iadd, 1) := by decide +kernel
theorem dLW_law_416 : decode code 416 = .ok (.iaload, 1) := by decide +kernel
theorem dLW_law_417 : decode code 417 = .ok (.aload_n 0, 1) := by decide +kernel
theorem dLW_law_418 : decode code 418 = .ok (.iload 4, 2) := by decide +kernel
theorem dLW_law_420 : decode code 420 = .ok (.iconst 2, 1) := by decide +kernel
theorem dLW_law_421 : decode code 421 = .ok (.iadd, 1) := by decide +kernel
theorem dLW_law_422 : decode code 422 = .ok (.iaload, 1) := by decide +kernel
theorem dLW_law_423 : decode code 423 = .ok (.aload_n 0, 1) := by decide +kernel
theorem dLW_law_424 : decode code 424 = .ok (.iload 4, 2) := by decide +kernel
theorem dLW_law_426 : decode code 426 = .ok (.iconst 3, 1) := by decide +kernel
theorem dLW_law_427 : decode code 427 = .ok (.iadd, 1) := by decide +kernel
theorem dLW_law_428 : decode code 428 = .ok (.iaload, 1) := by decide +kernel
theorem dLW_law_429 : decode code 429 = .ok (.aload_n 0, 1) := by decide +kernel
theorem dLW_law_430 : decode code 430 = .ok (.iload 4, 2) := by decide +kernel
theorem dLW_law_432 : decode code 432 = .ok (.iconst 4, 1) := by decide +kernel
theorem dLW_law_433 : decode code 433 = .ok (.iadd, 1) := by decide +kernel
theorem dLW_law_434 : decode code 434 = .ok (.iaload, 1) := by decide +kernel
theorem dLW_law_435 : decode code 435 = .ok (.invokevirtual 82, 3) := by decide +kernel
theorem dLW_law_438 : decode code 438 = .ok (.istore 6, 2) := by decide +kernel
theorem dLW_law_440 : decode code 440 = .ok (.aload_n 2, 1) := by decide +kernel
theorem dLW_law_441 : decode code 441 = .ok (.invokevirtual 83, 3) := by decide +kernel
theorem dLW_law_444 : decode code 444 = .ok (.iload 5, 2) := by decide +kernel
theorem dLW_law_446 : decode code 446 = .ok (.if_icmp .eq 5, 3) := by decide +kernel
theorem dLW_law_449 : decode code 449 = .ok (.iconst 0, 1) := by decide +kernel
theorem dLW_law_450 : decode code 450 = .ok (.ireturn, 1) := by decide +kernel
theorem dLW_law_451 : decode code 451 = .ok (.iload 5, 2) := by decide +kernel
theorem dLW_law_453 : decode code 453 = .ok (.ifCond .ne 15, 3) := by decide +kernel
theorem dLW_law_456 : decode code 456 = .ok (.aload_n 3, 1) := by decide +kernel
theorem dLW_law_457 : decode code 457 = .ok (.iconst 0, 1) := by decide +kernel
theorem dLW_law_458 : decode code 458 = .ok (.laload, 1) := by decide +kernel
theorem dLW_law_459 : decode code 459 = .ok (.iload 6, 2) := by decide +kernel
theorem dLW_law_461 : decode code 461 = .ok (.i2l, 1) := by decide +kernel
theorem dLW_law_462 : decode code 462 = .ok (.lcmp, 1) := by decide +kernel
theorem dLW_law_463 : decode code 463 = .ok (.ifCond .eq 5, 3) := by decide +kernel
theorem dLW_law_466 : decode code 466 = .ok (.iconst 0, 1) := by decide +kernel
theorem dLW_law_467 : decode code 467 = .ok (.ireturn, 1) := by decide +kernel
theorem dLW_law_468 : decode code 468 = .ok (.goto 273, 3) := by decide +kernel
theorem dLW_law_471 : decode code 471 = .ok (.aload_n 1, 1) := by decide +kernel
theorem dLW_law_472 : decode code 472 = .ok (.invokevirtual 86, 3) := by decide +kernel
theorem dLW_law_475 : decode code 475 = .ok (.pop, 1) := by decide +kernel
theorem dLW_law_476 : decode code 476 = .ok (.aload_n 2, 1) := by decide +kernel
theorem dLW_law_477 : decode code 477 = .ok (.invokevirtual 89, 3) := by decide +kernel
theorem dLW_law_480 : decode code 480 = .ok (.pop, 1) := by decide +kernel
theorem dLW_law_481 : decode code 481 = .ok (.goto 260, 3) := by decide +kernel
theorem dLW_law_484 : decode code 484 = .ok (.aload_n 1, 1) := by decide +kernel
theorem dLW_law_485 : decode code 485 = .ok (.invokevirtual 90, 3) := by decide +kernel
theorem dLW_law_488 : decode code 488 = .ok (.pop, 1) := by decide +kernel
theorem dLW_law_489 : decode code 489 = .ok (.aload_n 2, 1) := by decide +kernel
theorem dLW_law_490 : decode code 490 = .ok (.invokevirtual 93, 3) := by decide +kernel
theorem dLW_law_493 : decode code 493 = .ok (.pop, 1) := by decide +kernel
theorem dLW_law_494 : decode code 494 = .ok (.goto 247, 3) := by decide +kernel
theorem dLW_law_497 : decode code 497 = .ok (.aload_n 1, 1) := by decide +kernel
theorem dLW_law_498 : decode code 498 = .ok (.aload_n 0, 1) := by decide +kernel
theorem dLW_law_499 : decode code 499 = .ok (.iload 4, 2) := by decide +kernel
theorem dLW_law_501 : decode code 501 = .ok (.iconst 1, 1) := by decide +kernel
theorem dLW_law_502 : decode code 502 = .ok (.iadd, 1) := by decide +kernel
theorem dLW_law_503 : decode code 503 = .ok (.iaload, 1) := by decide +kernel
theorem dLW_law_504 : decode code 504 = .ok (.aload_n 0, 1) := by decide +kernel
theorem dLW_law_505 : decode code 505 = .ok (.iload 4, 2) := by decide +kernel
theorem dLW_law_507 : decode code 507 = .ok (.iconst 2, 1) := by decide +kernel
