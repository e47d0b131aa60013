theorem d_Law_law_366 : decode code 366 = .ok (.iload_n 3, 1) := by decide +kernel
theorem d_Law_law_367 : decode code 367 = .ok (.iconst 4, 1) := by decide +kernel
theorem d_Law_law_368 : decode code 368 = .ok (.iadd, 1) := by decide +kernel
theorem d_Law_law_369 : decode code 369 = .ok (.iaload, 1) := by decide +kernel
theorem d_Law_law_370 : decode code 370 = .ok (.invokevirtual 49, 3) := by decide +kernel
theorem d_Law_law_373 : decode code 373 = .ok (.if_icmp .eq 163, 3) := by decide +kernel
theorem d_Law_law_376 : decode code 376 = .ok (.iconst 0, 1) := by decide +kernel
theorem d_Law_law_377 : decode code 377 = .ok (.ireturn, 1) := by decide +kernel
theorem d_Law_law_378 : decode code 378 = .ok (.aload_n 1, 1) := by decide +kernel
theorem d_Law_law_379 : decode code 379 = .ok (.invokevirtual 50, 3) := by decide +kernel
theorem d_Law_law_382 : decode code 382 = .ok (.aload_n 2, 1) := by decide +kernel
theorem d_Law_law_383 : decode code 383 = .ok (.invokevirtual 53, 3) := by decide +kernel
theorem d_Law_law_386 : decode code 386 = .ok (.if_icmp .eq 150, 3) := by decide +kernel
theorem d_Law_law_389 : decode code 389 = .ok (.iconst 0, 1) := by decide +kernel
theorem d_Law_law_390 : decode code 390 = .ok (.ireturn, 1) := by decide +kernel
theorem d_Law_law_391 : decode code 391 = .ok (.aload_n 1, 1) := by decide +kernel
theorem d_Law_law_392 : decode code 392 = .ok (.invokevirtual 54, 3) := by decide +kernel
theorem d_Law_law_395 : decode code 395 = .ok (.aload_n 2, 1) := by decide +kernel
theorem d_Law_law_396 : decode code 396 = .ok (.invokevirtual 57, 3) := by decide +kernel
theorem d_Law_law_399 : decode code 399 = .ok (.if_icmp .eq 137, 3) := by decide +kernel
theorem d_Law_law_402 : decode code 402 = .ok (.iconst 0, 1) := by decide +kernel
theorem d_Law_law_403 : decode code 403 = .ok (.ireturn, 1) := by decide +kernel
theorem d_Law_law_404 : decode code 404 = .ok (.aload_n 1, 1) := by decide +kernel
theorem d_Law_law_405 : decode code 405 = .ok (.aload_n 0, 1) := by decide +kernel
theorem d_Law_law_406 : decode code 406 = .ok (.iload_n 3, 1) := by decide +kernel
theorem d_Law_law_407 : decode code 407 = .ok (.iconst 1, 1) := by decide +kernel
theorem d_Law_law_408 : decode code 408 = .ok (.iadd, 1) := by decide +kernel
theorem d_Law_law_409 : decode code 409 = .ok (.iaload, 1) := by decide +kernel
theorem d_Law_law_410 : decode code 410 = .ok (.aload_n 0, 1) := by decide +kernel
theorem d_Law_law_411 : decode code 411 = .ok (.iload_n 3, 1) := by decide +kernel
theorem d_Law_law_412 : decode code 412 = .ok (.iconst 2, 1) := by decide +kernel
theorem d_Law_law_413 : decode code 413 = .ok (.iadd, 1) := by decide +kernel
theorem d_Law_law_414 : decode code 414 = .ok (.iaload, 1) := by decide +kernel
theorem d_Law_law_415 : decode code 415 = .ok (.invokevirtual 58, 3) := by decide +kernel
theorem d_Law_law_418 : decode code 418 = .ok (.aload_n 2, 1) := by decide +kernel
theorem d_Law_law_419 : decode code 419 = .ok (.aload_n 0, 1) := by decide +kernel
theorem d_Law_law_420 : decode code 420 = .ok (.iload_n 3, 1) := by decide +kernel
theorem d_Law_law_421 : decode code 421 = .ok (.iconst 1, 1) := by decide +kernel
theorem d_Law_law_422 : decode code 422 = .ok (.iadd, 1) := by decide +kernel
theorem d_Law_law_423 : decode code 423 = .ok (.iaload, 1) := by decide +kernel
theorem d_Law_law_424 : decode code 424 = .ok (.aload_n 0, 1) := by decide +kernel
theorem d_Law_law_425 : decode code 425 = .ok (.iload_n 3, 1) := by decide +kernel
theorem d_Law_law_426 : decode code 426 = .ok (.iconst 2, 1) := by decide +kernel
theorem d_Law_law_427 : decode code 427 = .ok (.iadd, 1) := by decide +kernel
theorem d_Law_law_428 : decode code 428 = .ok (.iaload, 1) := by decide +kernel
theorem d_Law_law_429 : decode code 429 = .ok (.invokevirtual 61, 3) := by decide +kernel
theorem d_Law_law_432 : decode code 432 = .ok (.if_icmp .eq 104, 3) := by decide +kernel
theorem d_Law_law_435 : decode code 435 = .ok (.iconst 0, 1) := by decide +kernel
theorem d_Law_law_436 : decode code 436 = .ok (.ireturn, 1) := by decide +kernel
theorem d_Law_law_437 : decode code 437 = .ok (.aload_n 1, 1) := by decide +kernel
theorem d_Law_law_438 : decode code 438 = .ok (.aload_n 0, 1) := by decide +kernel
theorem d_Law_law_439 : decode code 439 = .ok (.iload_n 3, 1) := by decide +kernel
theorem d_Law_law_440 : decode code 440 = .ok (.iconst 1, 1) := by decide +kernel
theorem d_Law_law_441 : decode code 441 = .ok (.iadd, 1) := by decide +kernel
theorem d_Law_law_442 : decode code 442 = .ok (.iaload, 1) := by decide +kernel
theorem d_Law_law_443 : decode code 443 = .ok (.invokevirtual 62, 3) := by decide +kernel
theorem d_Law_law_446 : decode code 446 = .ok (.aload_n 2, 1) := by decide +kernel
theorem d_Law_law_447 : decode code 447 = .ok (.aload_n 0, 1) := by decide +kernel
theorem d_Law_law_448 : decode code 448 = .ok (.iload_n 3, 1) := by decide +kernel
theorem d_Law_law_449 : decode code 449 = .ok (.iconst 1, 1) := by decide +kernel
