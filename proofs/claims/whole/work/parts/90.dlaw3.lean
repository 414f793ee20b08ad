/-! ===== the law: its instructions, 3 ===== -/
theorem dLaw_387 : decode code 387 = .ok (.iaload, 1) := by decide +kernel
theorem dLaw_388 : decode code 388 = .ok (.invokevirtual 84, 3) := by decide +kernel
theorem dLaw_391 : decode code 391 = .ok (.istore 6, 2) := by decide +kernel
theorem dLaw_393 : decode code 393 = .ok (.aload_n 2, 1) := by decide +kernel
theorem dLaw_394 : decode code 394 = .ok (.invokevirtual 69, 3) := by decide +kernel
theorem dLaw_397 : decode code 397 = .ok (.iload 5, 2) := by decide +kernel
theorem dLaw_399 : decode code 399 = .ok (.if_icmp .eq 5, 3) := by decide +kernel
theorem dLaw_402 : decode code 402 = .ok (.iconst 0, 1) := by decide +kernel
theorem dLaw_403 : decode code 403 = .ok (.ireturn, 1) := by decide +kernel
theorem dLaw_404 : decode code 404 = .ok (.iload 5, 2) := by decide +kernel
theorem dLaw_406 : decode code 406 = .ok (.ifCond .ne 15, 3) := by decide +kernel
theorem dLaw_409 : decode code 409 = .ok (.aload_n 3, 1) := by decide +kernel
theorem dLaw_410 : decode code 410 = .ok (.iconst 0, 1) := by decide +kernel
theorem dLaw_411 : decode code 411 = .ok (.laload, 1) := by decide +kernel
theorem dLaw_412 : decode code 412 = .ok (.iload 6, 2) := by decide +kernel
theorem dLaw_414 : decode code 414 = .ok (.i2l, 1) := by decide +kernel
theorem dLaw_415 : decode code 415 = .ok (.lcmp, 1) := by decide +kernel
theorem dLaw_416 : decode code 416 = .ok (.ifCond .eq 5, 3) := by decide +kernel
theorem dLaw_419 : decode code 419 = .ok (.iconst 0, 1) := by decide +kernel
theorem dLaw_420 : decode code 420 = .ok (.ireturn, 1) := by decide +kernel
theorem dLaw_421 : decode code 421 = .ok (.goto 449, 3) := by decide +kernel
theorem dLaw_424 : decode code 424 = .ok (.aload_n 1, 1) := by decide +kernel
theorem dLaw_425 : decode code 425 = .ok (.aload_n 0, 1) := by decide +kernel
theorem dLaw_426 : decode code 426 = .ok (.iload 4, 2) := by decide +kernel
theorem dLaw_428 : decode code 428 = .ok (.iconst 1, 1) := by decide +kernel
theorem dLaw_429 : decode code 429 = .ok (.iadd, 1) := by decide +kernel
theorem dLaw_430 : decode code 430 = .ok (.iaload, 1) := by decide +kernel
theorem dLaw_431 : decode code 431 = .ok (.aload_n 3, 1) := by decide +kernel
theorem dLaw_432 : decode code 432 = .ok (.invokestatic 85, 3) := by decide +kernel
theorem dLaw_435 : decode code 435 = .ok (.istore 5, 2) := by decide +kernel
theorem dLaw_437 : decode code 437 = .ok (.aload_n 2, 1) := by decide +kernel
theorem dLaw_438 : decode code 438 = .ok (.aload_n 0, 1) := by decide +kernel
theorem dLaw_439 : decode code 439 = .ok (.iload 4, 2) := by decide +kernel
theorem dLaw_441 : decode code 441 = .ok (.iconst 1, 1) := by decide +kernel
theorem dLaw_442 : decode code 442 = .ok (.iadd, 1) := by decide +kernel
theorem dLaw_443 : decode code 443 = .ok (.iaload, 1) := by decide +kernel
theorem dLaw_444 : decode code 444 = .ok (.invokevirtual 87, 3) := by decide +kernel
theorem dLaw_447 : decode code 447 = .ok (.lstore 6, 2) := by decide +kernel
theorem dLaw_449 : decode code 449 = .ok (.aload_n 2, 1) := by decide +kernel
theorem dLaw_450 : decode code 450 = .ok (.invokevirtual 69, 3) := by decide +kernel
theorem dLaw_453 : decode code 453 = .ok (.iload 5, 2) := by decide +kernel
theorem dLaw_455 : decode code 455 = .ok (.if_icmp .eq 5, 3) := by decide +kernel
theorem dLaw_458 : decode code 458 = .ok (.iconst 0, 1) := by decide +kernel
theorem dLaw_459 : decode code 459 = .ok (.ireturn, 1) := by decide +kernel
theorem dLaw_460 : decode code 460 = .ok (.iload 5, 2) := by decide +kernel
theorem dLaw_462 : decode code 462 = .ok (.ifCond .ne 14, 3) := by decide +kernel
theorem dLaw_465 : decode code 465 = .ok (.aload_n 3, 1) := by decide +kernel
theorem dLaw_466 : decode code 466 = .ok (.iconst 0, 1) := by decide +kernel
theorem dLaw_467 : decode code 467 = .ok (.laload, 1) := by decide +kernel
theorem dLaw_468 : decode code 468 = .ok (.lload 6, 2) := by decide +kernel
theorem dLaw_470 : decode code 470 = .ok (.lcmp, 1) := by decide +kernel
theorem dLaw_471 : decode code 471 = .ok (.ifCond .eq 5, 3) := by decide +kernel
theorem dLaw_474 : decode code 474 = .ok (.iconst 0, 1) := by decide +kernel
theorem dLaw_475 : decode code 475 = .ok (.ireturn, 1) := by decide +kernel
theorem dLaw_476 : decode code 476 = .ok (.goto 394, 3) := by decide +kernel
theorem dLaw_479 : decode code 479 = .ok (.aload_n 1, 1) := by decide +kernel
theorem dLaw_480 : decode code 480 = .ok (.aload_n 0, 1) := by decide +kernel
theorem dLaw_481 : decode code 481 = .ok (.iload 4, 2) := by decide +kernel
theorem dLaw_483 : decode code 483 = .ok (.iconst 1, 1) := by decide +kernel
theorem dLaw_484 : decode code 484 = .ok (.iadd, 1) := by decide +kernel
theorem dLaw_485 : decode code 485 = .ok (.iaload, 1) := by decide +kernel
theorem dLaw_486 : decode code 486 = .ok (.aload_n 3, 1) := by decide +kernel
theorem dLaw_487 : decode code 487 = .ok (.invokestatic 88, 3) := by decide +kernel
theorem dLaw_490 : decode code 490 = .ok (.istore 5, 2) := by decide +kernel
theorem dLaw_492 : decode code 492 = .ok (.aload_n 2, 1) := by decide +kernel
theorem dLaw_493 : decode code 493 = .ok (.aload_n 0, 1) := by decide +kernel
theorem dLaw_494 : decode code 494 = .ok (.iload 4, 2) := by decide +kernel
theorem dLaw_496 : decode code 496 = .ok (.iconst 1, 1) := by decide +kernel
theorem dLaw_497 : decode code 497 = .ok (.iadd, 1) := by decide +kernel
theorem dLaw_498 : decode code 498 = .ok (.iaload, 1) := by decide +kernel
theorem dLaw_499 : decode code 499 = .ok (.invokevirtual 90, 3) := by decide +kernel
theorem dLaw_502 : decode code 502 = .ok (.istore 6, 2) := by decide +kernel
theorem dLaw_504 : decode code 504 = .ok (.aload_n 2, 1) := by decide +kernel
theorem dLaw_505 : decode code 505 = .ok (.invokevirtual 69, 3) := by decide +kernel
theorem dLaw_508 : decode code 508 = .ok (.iload 5, 2) := by decide +kernel
theorem dLaw_510 : decode code 510 = .ok (.if_icmp .eq 5, 3) := by decide +kernel
theorem dLaw_513 : decode code 513 = .ok (.iconst 0, 1) := by decide +kernel
theorem dLaw_514 : decode code 514 = .ok (.ireturn, 1) := by decide +kernel
theorem dLaw_515 : decode code 515 = .ok (.iload 5, 2) := by decide +kernel
theorem dLaw_517 : decode code 517 = .ok (.ifCond .ne 15, 3) := by decide +kernel
theorem dLaw_520 : decode code 520 = .ok (.aload_n 3, 1) := by decide +kernel
theorem dLaw_521 : decode code 521 = .ok (.iconst 0, 1) := by decide +kernel
theorem dLaw_522 : decode code 522 = .ok (.laload, 1) := by decide +kernel
theorem dLaw_523 : decode code 523 = .ok (.iload 6, 2) := by decide +kernel
theorem dLaw_525 : decode code 525 = .ok (.i2l, 1) := by decide +kernel
theorem dLaw_526 : decode code 526 = .ok (.lcmp, 1) := by decide +kernel
theorem dLaw_527 : decode code 527 = .ok (.ifCond .eq 5, 3) := by decide +kernel
theorem dLaw_530 : decode code 530 = .ok (.iconst 0, 1) := by decide +kernel
theorem dLaw_531 : decode code 531 = .ok (.ireturn, 1) := by decide +kernel
theorem dLaw_532 : decode code 532 = .ok (.goto 338, 3) := by decide +kernel
theorem dLaw_535 : decode code 535 = .ok (.aload_n 1, 1) := by decide +kernel
theorem dLaw_536 : decode code 536 = .ok (.aload_n 0, 1) := by decide +kernel
theorem dLaw_537 : decode code 537 = .ok (.iload 4, 2) := by decide +kernel
theorem dLaw_539 : decode code 539 = .ok (.iconst 1, 1) := by decide +kernel
theorem dLaw_540 : decode code 540 = .ok (.iadd, 1) := by decide +kernel
theorem dLaw_541 : decode code 541 = .ok (.iaload, 1) := by decide +kernel
theorem dLaw_542 : decode code 542 = .ok (.aload_n 0, 1) := by decide +kernel
theorem dLaw_543 : decode code 543 = .ok (.iload 4, 2) := by decide +kernel
theorem dLaw_545 : decode code 545 = .ok (.iconst 2, 1) := by decide +kernel
theorem dLaw_546 : decode code 546 = .ok (.iadd, 1) := by decide +kernel
theorem dLaw_547 : decode code 547 = .ok (.iaload, 1) := by decide +kernel
theorem dLaw_548 : decode code 548 = .ok (.aload_n 3, 1) := by decide +kernel
theorem dLaw_549 : decode code 549 = .ok (.invokestatic 91, 3) := by decide +kernel
theorem dLaw_552 : decode code 552 = .ok (.istore 5, 2) := by decide +kernel
theorem dLaw_554 : decode code 554 = .ok (.aload_n 2, 1) := by decide +kernel
theorem dLaw_555 : decode code 555 = .ok (.aload_n 0, 1) := by decide +kernel
theorem dLaw_556 : decode code 556 = .ok (.iload 4, 2) := by decide +kernel
theorem dLaw_558 : decode code 558 = .ok (.iconst 1, 1) := by decide +kernel
theorem dLaw_559 : decode code 559 = .ok (.iadd, 1) := by decide +kernel
theorem dLaw_560 : decode code 560 = .ok (.iaload, 1) := by decide +kernel
