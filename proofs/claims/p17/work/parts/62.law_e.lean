theorem dLW_law_415 : decode code 415 = .ok (.iadd, 1) := by decide +kernel
theorem dLW_law_416 : decode code 416 = .ok (.iaload, 1) := by decide +kernel
theorem dLW_law_417 : decode code 417 = .ok (.aload_n 0, 1) := by decide +kernel
theorem dLW_law_418 : decode code 418 = .ok (.iload 4, 2) := by decide +kernel
theorem dLW_law_420 : decode code 420 = .ok (.iconst 2, 1) := by decide +kernel
theorem dLW_law_421 : decode code 421 = .ok (.iadd, 1) := by decide +kernel
theorem dLW_law_422 : decode code 422 = .ok (.iaload, 1) := by decide +kernel
theorem dLW_law_423 : decode code 423 = .ok (.aload_n 0, 1) := by decide +kernel
theorem dLW_law_424 : decode code 424 = .ok (.iload 4, 2) := by decide +kernel
theorem dLW_law_426 : decode code 426 = .ok (.iconst 3, 1) := by decide +kernel
theorem dLW_law_427 : decode code 427 = .ok (.iadd, 1) := by decide +kernel
theorem dLW_law_428 : decode code 428 = .ok (.iaload, 1) := by decide +kernel
theorem dLW_law_429 : decode code 429 = .ok (.aload_n 0, 1) := by decide +kernel
theorem dLW_law_430 : decode code 430 = .ok (.iload 4, 2) := by decide +kernel
theorem dLW_law_432 : decode code 432 = .ok (.iconst 4, 1) := by decide +kernel
theorem dLW_law_433 : decode code 433 = .ok (.iadd, 1) := by decide +kernel
theorem dLW_law_434 : decode code 434 = .ok (.iaload, 1) := by decide +kernel
theorem dLW_law_435 : decode code 435 = .ok (.invokevirtual 82, 3) := by decide +kernel
theorem dLW_law_438 : decode code 438 = .ok (.istore 6, 2) := by decide +kernel
theorem dLW_law_440 : decode code 440 = .ok (.goto 301, 3) := by decide +kernel
theorem dLW_law_443 : decode code 443 = .ok (.aload_n 1, 1) := by decide +kernel
theorem dLW_law_444 : decode code 444 = .ok (.invokevirtual 83, 3) := by decide +kernel
theorem dLW_law_447 : decode code 447 = .ok (.pop, 1) := by decide +kernel
theorem dLW_law_448 : decode code 448 = .ok (.aload_n 2, 1) := by decide +kernel
theorem dLW_law_449 : decode code 449 = .ok (.invokevirtual 86, 3) := by decide +kernel
theorem dLW_law_452 : decode code 452 = .ok (.pop, 1) := by decide +kernel
theorem dLW_law_453 : decode code 453 = .ok (.goto 288, 3) := by decide +kernel
theorem dLW_law_456 : decode code 456 = .ok (.aload_n 1, 1) := by decide +kernel
theorem dLW_law_457 : decode code 457 = .ok (.invokevirtual 87, 3) := by decide +kernel
theorem dLW_law_460 : decode code 460 = .ok (.pop, 1) := by decide +kernel
theorem dLW_law_461 : decode code 461 = .ok (.aload_n 2, 1) := by decide +kernel
theorem dLW_law_462 : decode code 462 = .ok (.invokevirtual 90, 3) := by decide +kernel
theorem dLW_law_465 : decode code 465 = .ok (.pop, 1) := by decide +kernel
theorem dLW_law_466 : decode code 466 = .ok (.goto 275, 3) := by decide +kernel
theorem dLW_law_469 : decode code 469 = .ok (.aload_n 1, 1) := by decide +kernel
theorem dLW_law_470 : decode code 470 = .ok (.aload_n 0, 1) := by decide +kernel
theorem dLW_law_471 : decode code 471 = .ok (.iload 4, 2) := by decide +kernel
theorem dLW_law_473 : decode code 473 = .ok (.iconst 1, 1) := by decide +kernel
theorem dLW_law_474 : decode code 474 = .ok (.iadd, 1) := by decide +kernel
theorem dLW_law_475 : decode code 475 = .ok (.iaload, 1) := by decide +kernel
theorem dLW_law_476 : decode code 476 = .ok (.aload_n 0, 1) := by decide +kernel
theorem dLW_law_477 : decode code 477 = .ok (.iload 4, 2) := by decide +kernel
theorem dLW_law_479 : decode code 479 = .ok (.iconst 2, 1) := by decide +kernel
theorem dLW_law_480 : decode code 480 = .ok (.iadd, 1) := by decide +kernel
theorem dLW_law_481 : decode code 481 = .ok (.iaload, 1) := by decide +kernel
theorem dLW_law_482 : decode code 482 = .ok (.aload_n 3, 1) := by decide +kernel
theorem dLW_law_483 : decode code 483 = .ok (.invokestatic 91, 3) := by decide +kernel
theorem dLW_law_486 : decode code 486 = .ok (.istore 5, 2) := by decide +kernel
theorem dLW_law_488 : decode code 488 = .ok (.aload_n 2, 1) := by decide +kernel
theorem dLW_law_489 : decode code 489 = .ok (.aload_n 0, 1) := by decide +kernel
theorem dLW_law_490 : decode code 490 = .ok (.iload 4, 2) := by decide +kernel
theorem dLW_law_492 : decode code 492 = .ok (.iconst 1, 1) := by decide +kernel
theorem dLW_law_493 : decode code 493 = .ok (.iadd, 1) := by decide +kernel
theorem dLW_law_494 : decode code 494 = .ok (.iaload, 1) := by decide +kernel
theorem dLW_law_495 : decode code 495 = .ok (.aload_n 0, 1) := by decide +kernel
theorem dLW_law_496 : decode code 496 = .ok (.iload 4, 2) := by decide +kernel
theorem dLW_law_498 : decode code 498 = .ok (.iconst 2, 1) := by decide +kernel
theorem dLW_law_499 : decode code 499 = .ok (.iadd, 1) := by decide +kernel
theorem dLW_law_500 : decode code 500 = .ok (.iaload, 1) := by decide +kernel
theorem dLW_law_501 : decode code 501 = .ok (.invokevirtual 94, 3) := by decide +kernel
