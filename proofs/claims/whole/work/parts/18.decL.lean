theorem d_L_418 : decode code 418 = .ok (.aload_n 2, 1) := by decide +kernel
theorem d_L_419 : decode code 419 = .ok (.aload_n 0, 1) := by decide +kernel
theorem d_L_420 : decode code 420 = .ok (.iload_n 3, 1) := by decide +kernel
theorem d_L_421 : decode code 421 = .ok (.iconst 1, 1) := by decide +kernel
theorem d_L_422 : decode code 422 = .ok (.iadd, 1) := by decide +kernel
theorem d_L_423 : decode code 423 = .ok (.iaload, 1) := by decide +kernel
theorem d_L_424 : decode code 424 = .ok (.invokevirtual 73, 3) := by decide +kernel
theorem d_L_427 : decode code 427 = .ok (.if_icmp .eq 117, 3) := by decide +kernel
theorem d_L_430 : decode code 430 = .ok (.iconst 0, 1) := by decide +kernel
theorem d_L_431 : decode code 431 = .ok (.ireturn, 1) := by decide +kernel
theorem d_L_432 : decode code 432 = .ok (.aload_n 1, 1) := by decide +kernel
theorem d_L_433 : decode code 433 = .ok (.aload_n 0, 1) := by decide +kernel
theorem d_L_434 : decode code 434 = .ok (.iload_n 3, 1) := by decide +kernel
theorem d_L_435 : decode code 435 = .ok (.iconst 1, 1) := by decide +kernel
theorem d_L_436 : decode code 436 = .ok (.iadd, 1) := by decide +kernel
theorem d_L_437 : decode code 437 = .ok (.iaload, 1) := by decide +kernel
theorem d_L_438 : decode code 438 = .ok (.invokevirtual 74, 3) := by decide +kernel
theorem d_L_441 : decode code 441 = .ok (.aload_n 2, 1) := by decide +kernel
theorem d_L_442 : decode code 442 = .ok (.aload_n 0, 1) := by decide +kernel
theorem d_L_443 : decode code 443 = .ok (.iload_n 3, 1) := by decide +kernel
theorem d_L_444 : decode code 444 = .ok (.iconst 1, 1) := by decide +kernel
theorem d_L_445 : decode code 445 = .ok (.iadd, 1) := by decide +kernel
theorem d_L_446 : decode code 446 = .ok (.iaload, 1) := by decide +kernel
theorem d_L_447 : decode code 447 = .ok (.invokevirtual 77, 3) := by decide +kernel
theorem d_L_450 : decode code 450 = .ok (.if_icmp .eq 94, 3) := by decide +kernel
theorem d_L_453 : decode code 453 = .ok (.iconst 0, 1) := by decide +kernel
theorem d_L_454 : decode code 454 = .ok (.ireturn, 1) := by decide +kernel
theorem d_L_455 : decode code 455 = .ok (.aload_n 1, 1) := by decide +kernel
theorem d_L_456 : decode code 456 = .ok (.aload_n 0, 1) := by decide +kernel
theorem d_L_457 : decode code 457 = .ok (.iload_n 3, 1) := by decide +kernel
theorem d_L_458 : decode code 458 = .ok (.iconst 1, 1) := by decide +kernel
theorem d_L_459 : decode code 459 = .ok (.iadd, 1) := by decide +kernel
theorem d_L_460 : decode code 460 = .ok (.iaload, 1) := by decide +kernel
theorem d_L_461 : decode code 461 = .ok (.aload_n 0, 1) := by decide +kernel
theorem d_L_462 : decode code 462 = .ok (.iload_n 3, 1) := by decide +kernel
theorem d_L_463 : decode code 463 = .ok (.iconst 2, 1) := by decide +kernel
theorem d_L_464 : decode code 464 = .ok (.iadd, 1) := by decide +kernel
theorem d_L_465 : decode code 465 = .ok (.iaload, 1) := by decide +kernel
theorem d_L_466 : decode code 466 = .ok (.invokevirtual 78, 3) := by decide +kernel
theorem d_L_469 : decode code 469 = .ok (.aload_n 2, 1) := by decide +kernel
theorem d_L_470 : decode code 470 = .ok (.aload_n 0, 1) := by decide +kernel
theorem d_L_471 : decode code 471 = .ok (.iload_n 3, 1) := by decide +kernel
theorem d_L_472 : decode code 472 = .ok (.iconst 1, 1) := by decide +kernel
theorem d_L_473 : decode code 473 = .ok (.iadd, 1) := by decide +kernel
theorem d_L_474 : decode code 474 = .ok (.iaload, 1) := by decide +kernel
theorem d_L_475 : decode code 475 = .ok (.aload_n 0, 1) := by decide +kernel
theorem d_L_476 : decode code 476 = .ok (.iload_n 3, 1) := by decide +kernel
theorem d_L_477 : decode code 477 = .ok (.iconst 2, 1) := by decide +kernel
theorem d_L_478 : decode code 478 = .ok (.iadd, 1) := by decide +kernel
theorem d_L_479 : decode code 479 = .ok (.iaload, 1) := by decide +kernel
theorem d_L_480 : decode code 480 = .ok (.invokevirtual 82, 3) := by decide +kernel
theorem d_L_483 : decode code 483 = .ok (.if_icmp .eq 61, 3) := by decide +kernel
theorem d_L_486 : decode code 486 = .ok (.iconst 0, 1) := by decide +kernel
theorem d_L_487 : decode code 487 = .ok (.ireturn, 1) := by decide +kernel
theorem d_L_488 : decode code 488 = .ok (.aload_n 1, 1) := by decide +kernel
theorem d_L_489 : decode code 489 = .ok (.aload_n 0, 1) := by decide +kernel
theorem d_L_490 : decode code 490 = .ok (.iload_n 3, 1) := by decide +kernel
theorem d_L_491 : decode code 491 = .ok (.iconst 1, 1) := by decide +kernel
theorem d_L_492 : decode code 492 = .ok (.iadd, 1) := by decide +kernel
theorem d_L_493 : decode code 493 = .ok (.iaload, 1) := by decide +kernel
theorem d_L_494 : decode code 494 = .ok (.aload_n 0, 1) := by decide +kernel
theorem d_L_495 : decode code 495 = .ok (.iload_n 3, 1) := by decide +kernel
theorem d_L_496 : decode code 496 = .ok (.iconst 2, 1) := by decide +kernel
theorem d_L_497 : decode code 497 = .ok (.iadd, 1) := by decide +kernel
theorem d_L_498 : decode code 498 = .ok (.iaload, 1) := by decide +kernel
theorem d_L_499 : decode code 499 = .ok (.invokevirtual 83, 3) := by decide +kernel
theorem d_L_502 : decode code 502 = .ok (.aload_n 2, 1) := by decide +kernel
theorem d_L_503 : decode code 503 = .ok (.aload_n 0, 1) := by decide +kernel
theorem d_L_504 : decode code 504 = .ok (.iload_n 3, 1) := by decide +kernel
theorem d_L_505 : decode code 505 = .ok (.iconst 1, 1) := by decide +kernel
theorem d_L_506 : decode code 506 = .ok (.iadd, 1) := by decide +kernel
theorem d_L_507 : decode code 507 = .ok (.iaload, 1) := by decide +kernel
theorem d_L_508 : decode code 508 = .ok (.aload_n 0, 1) := by decide +kernel
theorem d_L_509 : decode code 509 = .ok (.iload_n 3, 1) := by decide +kernel
theorem d_L_510 : decode code 510 = .ok (.iconst 2, 1) := by decide +kernel
theorem d_L_511 : decode code 511 = .ok (.iadd, 1) := by decide +kernel
theorem d_L_512 : decode code 512 = .ok (.iaload, 1) := by decide +kernel
theorem d_L_513 : decode code 513 = .ok (.invokevirtual 86, 3) := by decide +kernel
theorem d_L_516 : decode code 516 = .ok (.if_icmp .eq 28, 3) := by decide +kernel
theorem d_L_519 : decode code 519 = .ok (.iconst 0, 1) := by decide +kernel
theorem d_L_520 : decode code 520 = .ok (.ireturn, 1) := by decide +kernel
theorem d_L_521 : decode code 521 = .ok (.aload_n 1, 1) := by decide +kernel
theorem d_L_522 : decode code 522 = .ok (.aload_n 0, 1) := by decide +kernel
theorem d_L_523 : decode code 523 = .ok (.iload_n 3, 1) := by decide +kernel
theorem d_L_524 : decode code 524 = .ok (.iconst 1, 1) := by decide +kernel
theorem d_L_525 : decode code 525 = .ok (.iadd, 1) := by decide +kernel
theorem d_L_526 : decode code 526 = .ok (.iaload, 1) := by decide +kernel
theorem d_L_527 : decode code 527 = .ok (.invokevirtual 87, 3) := by decide +kernel
theorem d_L_530 : decode code 530 = .ok (.aload_n 2, 1) := by decide +kernel
theorem d_L_531 : decode code 531 = .ok (.aload_n 0, 1) := by decide +kernel
theorem d_L_532 : decode code 532 = .ok (.iload_n 3, 1) := by decide +kernel
theorem d_L_533 : decode code 533 = .ok (.iconst 1, 1) := by decide +kernel
theorem d_L_534 : decode code 534 = .ok (.iadd, 1) := by decide +kernel
theorem d_L_535 : decode code 535 = .ok (.iaload, 1) := by decide +kernel
theorem d_L_536 : decode code 536 = .ok (.invokevirtual 90, 3) := by decide +kernel
theorem d_L_539 : decode code 539 = .ok (.if_icmp .eq 5, 3) := by decide +kernel
theorem d_L_542 : decode code 542 = .ok (.iconst 0, 1) := by decide +kernel
theorem d_L_543 : decode code 543 = .ok (.ireturn, 1) := by decide +kernel
theorem d_L_544 : decode code 544 = .ok (.iinc 3 4, 3) := by decide +kernel
theorem d_L_547 : decode code 547 = .ok (.goto (-529), 3) := by decide +kernel
theorem d_L_550 : decode code 550 = .ok (.iconst 1, 1) := by decide +kernel
theorem d_L_551 : decode code 551 = .ok (.ireturn, 1) := by decide +kernel
