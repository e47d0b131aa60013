theorem d_Law_law_450 : decode code 450 = .ok (.iadd, 1) := by decide +kernel
theorem d_Law_law_451 : decode code 451 = .ok (.iaload, 1) := by decide +kernel
theorem d_Law_law_452 : decode code 452 = .ok (.invokevirtual 66, 3) := by decide +kernel
theorem d_Law_law_455 : decode code 455 = .ok (.if_icmp .eq 81, 3) := by decide +kernel
theorem d_Law_law_458 : decode code 458 = .ok (.iconst 0, 1) := by decide +kernel
theorem d_Law_law_459 : decode code 459 = .ok (.ireturn, 1) := by decide +kernel
theorem d_Law_law_460 : decode code 460 = .ok (.aload_n 1, 1) := by decide +kernel
theorem d_Law_law_461 : decode code 461 = .ok (.aload_n 0, 1) := by decide +kernel
theorem d_Law_law_462 : decode code 462 = .ok (.iload_n 3, 1) := by decide +kernel
theorem d_Law_law_463 : decode code 463 = .ok (.iconst 1, 1) := by decide +kernel
theorem d_Law_law_464 : decode code 464 = .ok (.iadd, 1) := by decide +kernel
theorem d_Law_law_465 : decode code 465 = .ok (.iaload, 1) := by decide +kernel
theorem d_Law_law_466 : decode code 466 = .ok (.aload_n 0, 1) := by decide +kernel
theorem d_Law_law_467 : decode code 467 = .ok (.iload_n 3, 1) := by decide +kernel
theorem d_Law_law_468 : decode code 468 = .ok (.iconst 2, 1) := by decide +kernel
theorem d_Law_law_469 : decode code 469 = .ok (.iadd, 1) := by decide +kernel
theorem d_Law_law_470 : decode code 470 = .ok (.iaload, 1) := by decide +kernel
theorem d_Law_law_471 : decode code 471 = .ok (.aload_n 0, 1) := by decide +kernel
theorem d_Law_law_472 : decode code 472 = .ok (.iload_n 3, 1) := by decide +kernel
theorem d_Law_law_473 : decode code 473 = .ok (.iconst 3, 1) := by decide +kernel
theorem d_Law_law_474 : decode code 474 = .ok (.iadd, 1) := by decide +kernel
theorem d_Law_law_475 : decode code 475 = .ok (.iaload, 1) := by decide +kernel
theorem d_Law_law_476 : decode code 476 = .ok (.invokevirtual 67, 3) := by decide +kernel
theorem d_Law_law_479 : decode code 479 = .ok (.aload_n 2, 1) := by decide +kernel
theorem d_Law_law_480 : decode code 480 = .ok (.aload_n 0, 1) := by decide +kernel
theorem d_Law_law_481 : decode code 481 = .ok (.iload_n 3, 1) := by decide +kernel
theorem d_Law_law_482 : decode code 482 = .ok (.iconst 1, 1) := by decide +kernel
theorem d_Law_law_483 : decode code 483 = .ok (.iadd, 1) := by decide +kernel
theorem d_Law_law_484 : decode code 484 = .ok (.iaload, 1) := by decide +kernel
theorem d_Law_law_485 : decode code 485 = .ok (.aload_n 0, 1) := by decide +kernel
theorem d_Law_law_486 : decode code 486 = .ok (.iload_n 3, 1) := by decide +kernel
theorem d_Law_law_487 : decode code 487 = .ok (.iconst 2, 1) := by decide +kernel
theorem d_Law_law_488 : decode code 488 = .ok (.iadd, 1) := by decide +kernel
theorem d_Law_law_489 : decode code 489 = .ok (.iaload, 1) := by decide +kernel
theorem d_Law_law_490 : decode code 490 = .ok (.aload_n 0, 1) := by decide +kernel
theorem d_Law_law_491 : decode code 491 = .ok (.iload_n 3, 1) := by decide +kernel
theorem d_Law_law_492 : decode code 492 = .ok (.iconst 3, 1) := by decide +kernel
theorem d_Law_law_493 : decode code 493 = .ok (.iadd, 1) := by decide +kernel
theorem d_Law_law_494 : decode code 494 = .ok (.iaload, 1) := by decide +kernel
theorem d_Law_law_495 : decode code 495 = .ok (.invokevirtual 70, 3) := by decide +kernel
theorem d_Law_law_498 : decode code 498 = .ok (.if_icmp .eq 38, 3) := by decide +kernel
theorem d_Law_law_501 : decode code 501 = .ok (.iconst 0, 1) := by decide +kernel
theorem d_Law_law_502 : decode code 502 = .ok (.ireturn, 1) := by decide +kernel
theorem d_Law_law_503 : decode code 503 = .ok (.aload_n 1, 1) := by decide +kernel
theorem d_Law_law_504 : decode code 504 = .ok (.aload_n 0, 1) := by decide +kernel
theorem d_Law_law_505 : decode code 505 = .ok (.iload_n 3, 1) := by decide +kernel
theorem d_Law_law_506 : decode code 506 = .ok (.iconst 1, 1) := by decide +kernel
theorem d_Law_law_507 : decode code 507 = .ok (.iadd, 1) := by decide +kernel
theorem d_Law_law_508 : decode code 508 = .ok (.iaload, 1) := by decide +kernel
theorem d_Law_law_509 : decode code 509 = .ok (.aload_n 0, 1) := by decide +kernel
theorem d_Law_law_510 : decode code 510 = .ok (.iload_n 3, 1) := by decide +kernel
theorem d_Law_law_511 : decode code 511 = .ok (.iconst 2, 1) := by decide +kernel
theorem d_Law_law_512 : decode code 512 = .ok (.iadd, 1) := by decide +kernel
theorem d_Law_law_513 : decode code 513 = .ok (.iaload, 1) := by decide +kernel
theorem d_Law_law_514 : decode code 514 = .ok (.invokevirtual 71, 3) := by decide +kernel
theorem d_Law_law_517 : decode code 517 = .ok (.aload_n 2, 1) := by decide +kernel
theorem d_Law_law_518 : decode code 518 = .ok (.aload_n 0, 1) := by decide +kernel
theorem d_Law_law_519 : decode code 519 = .ok (.iload_n 3, 1) := by decide +kernel
theorem d_Law_law_520 : decode code 520 = .ok (.iconst 1, 1) := by decide +kernel
theorem d_Law_law_521 : decode code 521 = .ok (.iadd, 1) := by decide +kernel
