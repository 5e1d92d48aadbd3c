theorem dLW_law_416 : decode code 416 = .ok (.invokestatic 82, 3) := by decide +kernel
theorem dLW_law_419 : decode code 419 = .ok (.istore 5, 2) := by decide +kernel
theorem dLW_law_421 : decode code 421 = .ok (.aload_n 2, 1) := by decide +kernel
theorem dLW_law_422 : decode code 422 = .ok (.aload_n 0, 1) := by decide +kernel
theorem dLW_law_423 : decode code 423 = .ok (.iload 4, 2) := by decide +kernel
theorem dLW_law_425 : decode code 425 = .ok (.iconst 1, 1) := by decide +kernel
theorem dLW_law_426 : decode code 426 = .ok (.iadd, 1) := by decide +kernel
theorem dLW_law_427 : decode code 427 = .ok (.iaload, 1) := by decide +kernel
theorem dLW_law_428 : decode code 428 = .ok (.aload_n 0, 1) := by decide +kernel
theorem dLW_law_429 : decode code 429 = .ok (.iload 4, 2) := by decide +kernel
theorem dLW_law_431 : decode code 431 = .ok (.iconst 2, 1) := by decide +kernel
theorem dLW_law_432 : decode code 432 = .ok (.iadd, 1) := by decide +kernel
theorem dLW_law_433 : decode code 433 = .ok (.iaload, 1) := by decide +kernel
theorem dLW_law_434 : decode code 434 = .ok (.aload_n 0, 1) := by decide +kernel
theorem dLW_law_435 : decode code 435 = .ok (.iload 4, 2) := by decide +kernel
theorem dLW_law_437 : decode code 437 = .ok (.iconst 3, 1) := by decide +kernel
theorem dLW_law_438 : decode code 438 = .ok (.iadd, 1) := by decide +kernel
theorem dLW_law_439 : decode code 439 = .ok (.iaload, 1) := by decide +kernel
theorem dLW_law_440 : decode code 440 = .ok (.aload_n 0, 1) := by decide +kernel
theorem dLW_law_441 : decode code 441 = .ok (.iload 4, 2) := by decide +kernel
theorem dLW_law_443 : decode code 443 = .ok (.iconst 4, 1) := by decide +kernel
theorem dLW_law_444 : decode code 444 = .ok (.iadd, 1) := by decide +kernel
theorem dLW_law_445 : decode code 445 = .ok (.iaload, 1) := by decide +kernel
theorem dLW_law_446 : decode code 446 = .ok (.invokevirtual 85, 3) := by decide +kernel
theorem dLW_law_449 : decode code 449 = .ok (.istore 6, 2) := by decide +kernel
theorem dLW_law_451 : decode code 451 = .ok (.goto 273, 3) := by decide +kernel
theorem dLW_law_454 : decode code 454 = .ok (.aload_n 1, 1) := by decide +kernel
theorem dLW_law_455 : decode code 455 = .ok (.invokevirtual 86, 3) := by decide +kernel
theorem dLW_law_458 : decode code 458 = .ok (.pop, 1) := by decide +kernel
theorem dLW_law_459 : decode code 459 = .ok (.aload_n 2, 1) := by decide +kernel
theorem dLW_law_460 : decode code 460 = .ok (.invokevirtual 89, 3) := by decide +kernel
theorem dLW_law_463 : decode code 463 = .ok (.pop, 1) := by decide +kernel
theorem dLW_law_464 : decode code 464 = .ok (.goto 260, 3) := by decide +kernel
theorem dLW_law_467 : decode code 467 = .ok (.aload_n 1, 1) := by decide +kernel
theorem dLW_law_468 : decode code 468 = .ok (.invokevirtual 90, 3) := by decide +kernel
theorem dLW_law_471 : decode code 471 = .ok (.pop, 1) := by decide +kernel
theorem dLW_law_472 : decode code 472 = .ok (.aload_n 2, 1) := by decide +kernel
theorem dLW_law_473 : decode code 473 = .ok (.invokevirtual 93, 3) := by decide +kernel
theorem dLW_law_476 : decode code 476 = .ok (.pop, 1) := by decide +kernel
theorem dLW_law_477 : decode code 477 = .ok (.goto 247, 3) := by decide +kernel
theorem dLW_law_480 : decode code 480 = .ok (.aload_n 1, 1) := by decide +kernel
theorem dLW_law_481 : decode code 481 = .ok (.aload_n 0, 1) := by decide +kernel
theorem dLW_law_482 : decode code 482 = .ok (.iload 4, 2) := by decide +kernel
theorem dLW_law_484 : decode code 484 = .ok (.iconst 1, 1) := by decide +kernel
theorem dLW_law_485 : decode code 485 = .ok (.iadd, 1) := by decide +kernel
theorem dLW_law_486 : decode code 486 = .ok (.iaload, 1) := by decide +kernel
theorem dLW_law_487 : decode code 487 = .ok (.aload_n 0, 1) := by decide +kernel
theorem dLW_law_488 : decode code 488 = .ok (.iload 4, 2) := by decide +kernel
theorem dLW_law_490 : decode code 490 = .ok (.iconst 2, 1) := by decide +kernel
theorem dLW_law_491 : decode code 491 = .ok (.iadd, 1) := by decide +kernel
theorem dLW_law_492 : decode code 492 = .ok (.iaload, 1) := by decide +kernel
theorem dLW_law_493 : decode code 493 = .ok (.aload_n 3, 1) := by decide +kernel
theorem dLW_law_494 : decode code 494 = .ok (.invokestatic 94, 3) := by decide +kernel
theorem dLW_law_497 : decode code 497 = .ok (.istore 5, 2) := by decide +kernel
theorem dLW_law_499 : decode code 499 = .ok (.aload_n 2, 1) := by decide +kernel
theorem dLW_law_500 : decode code 500 = .ok (.aload_n 0, 1) := by decide +kernel
theorem dLW_law_501 : decode code 501 = .ok (.iload 4, 2) := by decide +kernel
theorem dLW_law_503 : decode code 503 = .ok (.iconst 1, 1) := by decide +kernel
theorem dLW_law_504 : decode code 504 = .ok (.iadd, 1) := by decide +kernel
theorem dLW_law_505 : decode code 505 = .ok (.iaload, 1) := by decide +kernel
