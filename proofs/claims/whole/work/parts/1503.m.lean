theorem dX10_countryLine_380 : decode cX10_countryLine 380 = .ok (.invokevirtual 145, 3) := by decide +kernel
theorem dX10_countryLine_383 : decode cX10_countryLine 383 = .ok (.lload_n 1, 1) := by decide +kernel
theorem dX10_countryLine_384 : decode cX10_countryLine 384 = .ok (.ldc2_w 195, 3) := by decide +kernel
theorem dX10_countryLine_387 : decode cX10_countryLine 387 = .ok (.lcmp, 1) := by decide +kernel
theorem dX10_countryLine_388 : decode cX10_countryLine 388 = .ok (.ifCond .ne 57, 3) := by decide +kernel
theorem dX10_countryLine_391 : decode cX10_countryLine 391 = .ok (.aload_n 0, 1) := by decide +kernel
theorem dX10_countryLine_392 : decode cX10_countryLine 392 = .ok (.iconst 0, 1) := by decide +kernel
theorem dX10_countryLine_393 : decode cX10_countryLine 393 = .ok (.iconst (-1), 1) := by decide +kernel
theorem dX10_countryLine_394 : decode cX10_countryLine 394 = .ok (.invokevirtual 185, 3) := by decide +kernel
theorem dX10_countryLine_397 : decode cX10_countryLine 397 = .ok (.ifCond .eq 46, 3) := by decide +kernel
theorem dX10_countryLine_400 : decode cX10_countryLine 400 = .ok (.aload_n 0, 1) := by decide +kernel
theorem dX10_countryLine_401 : decode cX10_countryLine 401 = .ok (.iconst 1, 1) := by decide +kernel
theorem dX10_countryLine_402 : decode cX10_countryLine 402 = .ok (.aload_n 0, 1) := by decide +kernel
theorem dX10_countryLine_403 : decode cX10_countryLine 403 = .ok (.getfield 41, 3) := by decide +kernel
theorem dX10_countryLine_406 : decode cX10_countryLine 406 = .ok (.iconst 0, 1) := by decide +kernel
theorem dX10_countryLine_407 : decode cX10_countryLine 407 = .ok (.iaload, 1) := by decide +kernel
theorem dX10_countryLine_408 : decode cX10_countryLine 408 = .ok (.invokevirtual 185, 3) := by decide +kernel
theorem dX10_countryLine_411 : decode cX10_countryLine 411 = .ok (.ifCond .eq 32, 3) := by decide +kernel
theorem dX10_countryLine_414 : decode cX10_countryLine 414 = .ok (.aload_n 0, 1) := by decide +kernel
theorem dX10_countryLine_415 : decode cX10_countryLine 415 = .ok (.bipush 30, 2) := by decide +kernel
theorem dX10_countryLine_417 : decode cX10_countryLine 417 = .ok (.aload_n 0, 1) := by decide +kernel
theorem dX10_countryLine_418 : decode cX10_countryLine 418 = .ok (.getfield 41, 3) := by decide +kernel
theorem dX10_countryLine_421 : decode cX10_countryLine 421 = .ok (.iconst 0, 1) := by decide +kernel
theorem dX10_countryLine_422 : decode cX10_countryLine 422 = .ok (.iaload, 1) := by decide +kernel
theorem dX10_countryLine_423 : decode cX10_countryLine 423 = .ok (.bipush 7, 2) := by decide +kernel
theorem dX10_countryLine_425 : decode cX10_countryLine 425 = .ok (.iand, 1) := by decide +kernel
theorem dX10_countryLine_426 : decode cX10_countryLine 426 = .ok (.iadd, 1) := by decide +kernel
theorem dX10_countryLine_427 : decode cX10_countryLine 427 = .ok (.aload_n 0, 1) := by decide +kernel
theorem dX10_countryLine_428 : decode cX10_countryLine 428 = .ok (.getfield 41, 3) := by decide +kernel
theorem dX10_countryLine_431 : decode cX10_countryLine 431 = .ok (.iconst 1, 1) := by decide +kernel
theorem dX10_countryLine_432 : decode cX10_countryLine 432 = .ok (.iaload, 1) := by decide +kernel
theorem dX10_countryLine_433 : decode cX10_countryLine 433 = .ok (.invokevirtual 203, 3) := by decide +kernel
theorem dX10_countryLine_436 : decode cX10_countryLine 436 = .ok (.ifCond .eq 7, 3) := by decide +kernel
theorem dX10_countryLine_439 : decode cX10_countryLine 439 = .ok (.iconst 1, 1) := by decide +kernel
theorem dX10_countryLine_440 : decode cX10_countryLine 440 = .ok (.goto 4, 3) := by decide +kernel
theorem dX10_countryLine_443 : decode cX10_countryLine 443 = .ok (.iconst 0, 1) := by decide +kernel
theorem dX10_countryLine_444 : decode cX10_countryLine 444 = .ok (.ireturn, 1) := by decide +kernel
theorem dX10_countryLine_445 : decode cX10_countryLine 445 = .ok (.lload_n 1, 1) := by decide +kernel
theorem dX10_countryLine_446 : decode cX10_countryLine 446 = .ok (.ldc2_w 197, 3) := by decide +kernel
theorem dX10_countryLine_449 : decode cX10_countryLine 449 = .ok (.lcmp, 1) := by decide +kernel
theorem dX10_countryLine_450 : decode cX10_countryLine 450 = .ok (.ifCond .ne 34, 3) := by decide +kernel
theorem dX10_countryLine_453 : decode cX10_countryLine 453 = .ok (.aload_n 0, 1) := by decide +kernel
theorem dX10_countryLine_454 : decode cX10_countryLine 454 = .ok (.iconst 0, 1) := by decide +kernel
theorem dX10_countryLine_455 : decode cX10_countryLine 455 = .ok (.iconst 0, 1) := by decide +kernel
theorem dX10_countryLine_456 : decode cX10_countryLine 456 = .ok (.bipush 9, 2) := by decide +kernel
theorem dX10_countryLine_458 : decode cX10_countryLine 458 = .ok (.invokevirtual 159, 3) := by decide +kernel
theorem dX10_countryLine_461 : decode cX10_countryLine 461 = .ok (.ifCond .eq 21, 3) := by decide +kernel
theorem dX10_countryLine_464 : decode cX10_countryLine 464 = .ok (.aload_n 0, 1) := by decide +kernel
theorem dX10_countryLine_465 : decode cX10_countryLine 465 = .ok (.iconst 5, 1) := by decide +kernel
theorem dX10_countryLine_466 : decode cX10_countryLine 466 = .ok (.aload_n 0, 1) := by decide +kernel
theorem dX10_countryLine_467 : decode cX10_countryLine 467 = .ok (.getfield 41, 3) := by decide +kernel
theorem dX10_countryLine_470 : decode cX10_countryLine 470 = .ok (.iconst 0, 1) := by decide +kernel
theorem dX10_countryLine_471 : decode cX10_countryLine 471 = .ok (.iaload, 1) := by decide +kernel
theorem dX10_countryLine_472 : decode cX10_countryLine 472 = .ok (.invokevirtual 203, 3) := by decide +kernel
theorem dX10_countryLine_475 : decode cX10_countryLine 475 = .ok (.ifCond .eq 7, 3) := by decide +kernel
theorem dX10_countryLine_478 : decode cX10_countryLine 478 = .ok (.iconst 1, 1) := by decide +kernel
theorem dX10_countryLine_479 : decode cX10_countryLine 479 = .ok (.goto 4, 3) := by decide +kernel
theorem dX10_countryLine_482 : decode cX10_countryLine 482 = .ok (.iconst 0, 1) := by decide +kernel
theorem dX10_countryLine_483 : decode cX10_countryLine 483 = .ok (.ireturn, 1) := by decide +kernel
theorem dX10_countryLine_484 : decode cX10_countryLine 484 = .ok (.lload_n 1, 1) := by decide +kernel
theorem dX10_countryLine_485 : decode cX10_countryLine 485 = .ok (.ldc2_w 199, 3) := by decide +kernel
theorem dX10_countryLine_488 : decode cX10_countryLine 488 = .ok (.lcmp, 1) := by decide +kernel
theorem dX10_countryLine_489 : decode cX10_countryLine 489 = .ok (.ifCond .ne 71, 3) := by decide +kernel
theorem dX10_countryLine_492 : decode cX10_countryLine 492 = .ok (.aload_n 0, 1) := by decide +kernel
theorem dX10_countryLine_493 : decode cX10_countryLine 493 = .ok (.iconst 0, 1) := by decide +kernel
theorem dX10_countryLine_494 : decode cX10_countryLine 494 = .ok (.invokevirtual 188, 3) := by decide +kernel
theorem dX10_countryLine_497 : decode cX10_countryLine 497 = .ok (.ifCond .eq 61, 3) := by decide +kernel
theorem dX10_countryLine_500 : decode cX10_countryLine 500 = .ok (.aload_n 0, 1) := by decide +kernel
theorem dX10_countryLine_501 : decode cX10_countryLine 501 = .ok (.iconst 1, 1) := by decide +kernel
theorem dX10_countryLine_502 : decode cX10_countryLine 502 = .ok (.invokevirtual 192, 3) := by decide +kernel
theorem dX10_countryLine_505 : decode cX10_countryLine 505 = .ok (.ifCond .eq 53, 3) := by decide +kernel
theorem dX10_countryLine_508 : decode cX10_countryLine 508 = .ok (.aload_n 0, 1) := by decide +kernel
theorem dX10_countryLine_509 : decode cX10_countryLine 509 = .ok (.iconst 2, 1) := by decide +kernel
theorem dX10_countryLine_510 : decode cX10_countryLine 510 = .ok (.iconst 0, 1) := by decide +kernel
theorem dX10_countryLine_511 : decode cX10_countryLine 511 = .ok (.bipush 9, 2) := by decide +kernel
theorem dX10_countryLine_513 : decode cX10_countryLine 513 = .ok (.invokevirtual 159, 3) := by decide +kernel
theorem dX10_countryLine_516 : decode cX10_countryLine 516 = .ok (.ifCond .eq 42, 3) := by decide +kernel
theorem dX10_countryLine_519 : decode cX10_countryLine 519 = .ok (.aload_n 0, 1) := by decide +kernel
theorem dX10_countryLine_520 : decode cX10_countryLine 520 = .ok (.bipush 78, 2) := by decide +kernel
theorem dX10_countryLine_522 : decode cX10_countryLine 522 = .ok (.iconst 4, 1) := by decide +kernel
theorem dX10_countryLine_523 : decode cX10_countryLine 523 = .ok (.aload_n 0, 1) := by decide +kernel
theorem dX10_countryLine_524 : decode cX10_countryLine 524 = .ok (.getfield 41, 3) := by decide +kernel
theorem dX10_countryLine_527 : decode cX10_countryLine 527 = .ok (.iconst 0, 1) := by decide +kernel
theorem dX10_countryLine_528 : decode cX10_countryLine 528 = .ok (.iaload, 1) := by decide +kernel
theorem dX10_countryLine_529 : decode cX10_countryLine 529 = .ok (.iconst 3, 1) := by decide +kernel
theorem dX10_countryLine_530 : decode cX10_countryLine 530 = .ok (.iand, 1) := by decide +kernel
theorem dX10_countryLine_531 : decode cX10_countryLine 531 = .ok (.imul, 1) := by decide +kernel
theorem dX10_countryLine_532 : decode cX10_countryLine 532 = .ok (.iadd, 1) := by decide +kernel
theorem dX10_countryLine_533 : decode cX10_countryLine 533 = .ok (.aload_n 0, 1) := by decide +kernel
theorem dX10_countryLine_534 : decode cX10_countryLine 534 = .ok (.getfield 41, 3) := by decide +kernel
theorem dX10_countryLine_537 : decode cX10_countryLine 537 = .ok (.iconst 1, 1) := by decide +kernel
theorem dX10_countryLine_538 : decode cX10_countryLine 538 = .ok (.iaload, 1) := by decide +kernel
theorem dX10_countryLine_539 : decode cX10_countryLine 539 = .ok (.iconst 3, 1) := by decide +kernel
theorem dX10_countryLine_540 : decode cX10_countryLine 540 = .ok (.iand, 1) := by decide +kernel
theorem dX10_countryLine_541 : decode cX10_countryLine 541 = .ok (.iadd, 1) := by decide +kernel
