theorem dLW_law_426 : decode code 426 = .ok (.iadd, 1) := by decide +kernel
theorem dLW_law_427 : decode code 427 = .ok (.iaload, 1) := by decide +kernel
theorem dLW_law_428 : decode code 428 = .ok (.invokestatic 78, 3) := by decide +kernel
theorem dLW_law_431 : decode code 431 = .ok (.istore 5, 2) := by decide +kernel
theorem dLW_law_433 : decode code 433 = .ok (.aload_n 2, 1) := by decide +kernel
theorem dLW_law_434 : decode code 434 = .ok (.aload_n 0, 1) := by decide +kernel
theorem dLW_law_435 : decode code 435 = .ok (.iload 4, 2) := by decide +kernel
theorem dLW_law_437 : decode code 437 = .ok (.iconst 1, 1) := by decide +kernel
theorem dLW_law_438 : decode code 438 = .ok (.iadd, 1) := by decide +kernel
theorem dLW_law_439 : decode code 439 = .ok (.iaload, 1) := by decide +kernel
theorem dLW_law_440 : decode code 440 = .ok (.invokevirtual 81, 3) := by decide +kernel
theorem dLW_law_443 : decode code 443 = .ok (.aload_n 2, 1) := by decide +kernel
theorem dLW_law_444 : decode code 444 = .ok (.invokevirtual 68, 3) := by decide +kernel
theorem dLW_law_447 : decode code 447 = .ok (.iload 5, 2) := by decide +kernel
theorem dLW_law_449 : decode code 449 = .ok (.if_icmp .eq 5, 3) := by decide +kernel
theorem dLW_law_452 : decode code 452 = .ok (.iconst 0, 1) := by decide +kernel
theorem dLW_law_453 : decode code 453 = .ok (.ireturn, 1) := by decide +kernel
theorem dLW_law_454 : decode code 454 = .ok (.goto 477, 3) := by decide +kernel
theorem dLW_law_457 : decode code 457 = .ok (.aload_n 1, 1) := by decide +kernel
theorem dLW_law_458 : decode code 458 = .ok (.aload_n 0, 1) := by decide +kernel
theorem dLW_law_459 : decode code 459 = .ok (.iload 4, 2) := by decide +kernel
theorem dLW_law_461 : decode code 461 = .ok (.iconst 1, 1) := by decide +kernel
theorem dLW_law_462 : decode code 462 = .ok (.iadd, 1) := by decide +kernel
theorem dLW_law_463 : decode code 463 = .ok (.iaload, 1) := by decide +kernel
theorem dLW_law_464 : decode code 464 = .ok (.aload_n 0, 1) := by decide +kernel
theorem dLW_law_465 : decode code 465 = .ok (.iload 4, 2) := by decide +kernel
theorem dLW_law_467 : decode code 467 = .ok (.iconst 2, 1) := by decide +kernel
theorem dLW_law_468 : decode code 468 = .ok (.iadd, 1) := by decide +kernel
theorem dLW_law_469 : decode code 469 = .ok (.iaload, 1) := by decide +kernel
theorem dLW_law_470 : decode code 470 = .ok (.aload_n 0, 1) := by decide +kernel
theorem dLW_law_471 : decode code 471 = .ok (.iload 4, 2) := by decide +kernel
theorem dLW_law_473 : decode code 473 = .ok (.iconst 3, 1) := by decide +kernel
theorem dLW_law_474 : decode code 474 = .ok (.iadd, 1) := by decide +kernel
theorem dLW_law_475 : decode code 475 = .ok (.iaload, 1) := by decide +kernel
theorem dLW_law_476 : decode code 476 = .ok (.aload_n 0, 1) := by decide +kernel
theorem dLW_law_477 : decode code 477 = .ok (.iload 4, 2) := by decide +kernel
theorem dLW_law_479 : decode code 479 = .ok (.iconst 4, 1) := by decide +kernel
theorem dLW_law_480 : decode code 480 = .ok (.iadd, 1) := by decide +kernel
theorem dLW_law_481 : decode code 481 = .ok (.iaload, 1) := by decide +kernel
theorem dLW_law_482 : decode code 482 = .ok (.aload_n 3, 1) := by decide +kernel
theorem dLW_law_483 : decode code 483 = .ok (.invokestatic 82, 3) := by decide +kernel
theorem dLW_law_486 : decode code 486 = .ok (.istore 5, 2) := by decide +kernel
theorem dLW_law_488 : decode code 488 = .ok (.aload_n 2, 1) := by decide +kernel
theorem dLW_law_489 : decode code 489 = .ok (.aload_n 0, 1) := by decide +kernel
theorem dLW_law_490 : decode code 490 = .ok (.iload 4, 2) := by decide +kernel
theorem dLW_law_492 : decode code 492 = .ok (.iconst 1, 1) := by decide +kernel
theorem dLW_law_493 : decode code 493 = .ok (.iadd, 1) := by decide +kernel
theorem dLW_law_494 : decode code 494 = .ok (.iaload, 1) := by decide +kernel
theorem dLW_law_495 : decode code 495 = .ok (.aload_n 0, 1) := by decide +kernel
theorem dLW_law_496 : decode code 496 = .ok (.iload 4, 2) := by decide +kernel
theorem dLW_law_498 : decode code 498 = .ok (.iconst 2, 1) := by decide +kernel
theorem dLW_law_499 : decode code 499 = .ok (.iadd, 1) := by decide +kernel
theorem dLW_law_500 : decode code 500 = .ok (.iaload, 1) := by decide +kernel
theorem dLW_law_501 : decode code 501 = .ok (.aload_n 0, 1) := by decide +kernel
theorem dLW_law_502 : decode code 502 = .ok (.iload 4, 2) := by decide +kernel
theorem dLW_law_504 : decode code 504 = .ok (.iconst 3, 1) := by decide +kernel
theorem dLW_law_505 : decode code 505 = .ok (.iadd, 1) := by decide +kernel
theorem dLW_law_506 : decode code 506 = .ok (.iaload, 1) := by decide +kernel
theorem dLW_law_507 : decode code 507 = .ok (.aload_n 0, 1) := by decide +kernel
theorem dLW_law_508 : decode code 508 = .ok (.iload 4, 2) := by decide +kernel
