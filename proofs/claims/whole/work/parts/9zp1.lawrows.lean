/-! the law: decode rows (written by wip/whole/gen_law1.py) -/
theorem zd_L_375 : decode code 375 = .ok (.invokevirtual 51, 3) := by decide +kernel
theorem zd_L_378 : decode code 378 = .ok (.if_icmp .eq 645, 3) := by decide +kernel
theorem zd_L_381 : decode code 381 = .ok (.iconst 0, 1) := by decide +kernel
theorem zd_L_382 : decode code 382 = .ok (.ireturn, 1) := by decide +kernel
theorem zd_L_383 : decode code 383 = .ok (.aload_n 1, 1) := by decide +kernel
theorem zd_L_384 : decode code 384 = .ok (.aload_n 0, 1) := by decide +kernel
theorem zd_L_385 : decode code 385 = .ok (.iload_n 3, 1) := by decide +kernel
theorem zd_L_386 : decode code 386 = .ok (.iconst 1, 1) := by decide +kernel
theorem zd_L_387 : decode code 387 = .ok (.iadd, 1) := by decide +kernel
theorem zd_L_388 : decode code 388 = .ok (.iaload, 1) := by decide +kernel
theorem zd_L_389 : decode code 389 = .ok (.aload_n 0, 1) := by decide +kernel
theorem zd_L_390 : decode code 390 = .ok (.iload_n 3, 1) := by decide +kernel
theorem zd_L_391 : decode code 391 = .ok (.iconst 2, 1) := by decide +kernel
theorem zd_L_392 : decode code 392 = .ok (.iadd, 1) := by decide +kernel
theorem zd_L_393 : decode code 393 = .ok (.iaload, 1) := by decide +kernel
theorem zd_L_394 : decode code 394 = .ok (.invokevirtual 52, 3) := by decide +kernel
theorem zd_L_397 : decode code 397 = .ok (.aload_n 2, 1) := by decide +kernel
theorem zd_L_398 : decode code 398 = .ok (.aload_n 0, 1) := by decide +kernel
theorem zd_L_399 : decode code 399 = .ok (.iload_n 3, 1) := by decide +kernel
theorem zd_L_400 : decode code 400 = .ok (.iconst 1, 1) := by decide +kernel
theorem zd_L_401 : decode code 401 = .ok (.iadd, 1) := by decide +kernel
theorem zd_L_402 : decode code 402 = .ok (.iaload, 1) := by decide +kernel
theorem zd_L_403 : decode code 403 = .ok (.aload_n 0, 1) := by decide +kernel
theorem zd_L_404 : decode code 404 = .ok (.iload_n 3, 1) := by decide +kernel
theorem zd_L_405 : decode code 405 = .ok (.iconst 2, 1) := by decide +kernel
theorem zd_L_406 : decode code 406 = .ok (.iadd, 1) := by decide +kernel
theorem zd_L_407 : decode code 407 = .ok (.iaload, 1) := by decide +kernel
theorem zd_L_408 : decode code 408 = .ok (.invokevirtual 55, 3) := by decide +kernel
theorem zd_L_411 : decode code 411 = .ok (.if_icmp .eq 612, 3) := by decide +kernel
theorem zd_L_414 : decode code 414 = .ok (.iconst 0, 1) := by decide +kernel
theorem zd_L_415 : decode code 415 = .ok (.ireturn, 1) := by decide +kernel
theorem zd_L_416 : decode code 416 = .ok (.aload_n 1, 1) := by decide +kernel
theorem zd_L_417 : decode code 417 = .ok (.aload_n 0, 1) := by decide +kernel
theorem zd_L_418 : decode code 418 = .ok (.iload_n 3, 1) := by decide +kernel
theorem zd_L_419 : decode code 419 = .ok (.iconst 1, 1) := by decide +kernel
theorem zd_L_420 : decode code 420 = .ok (.iadd, 1) := by decide +kernel
theorem zd_L_421 : decode code 421 = .ok (.iaload, 1) := by decide +kernel
theorem zd_L_422 : decode code 422 = .ok (.aload_n 0, 1) := by decide +kernel
theorem zd_L_423 : decode code 423 = .ok (.iload_n 3, 1) := by decide +kernel
theorem zd_L_424 : decode code 424 = .ok (.iconst 2, 1) := by decide +kernel
theorem zd_L_425 : decode code 425 = .ok (.iadd, 1) := by decide +kernel
theorem zd_L_426 : decode code 426 = .ok (.iaload, 1) := by decide +kernel
theorem zd_L_427 : decode code 427 = .ok (.invokevirtual 56, 3) := by decide +kernel
theorem zd_L_430 : decode code 430 = .ok (.aload_n 2, 1) := by decide +kernel
theorem zd_L_431 : decode code 431 = .ok (.aload_n 0, 1) := by decide +kernel
theorem zd_L_432 : decode code 432 = .ok (.iload_n 3, 1) := by decide +kernel
theorem zd_L_433 : decode code 433 = .ok (.iconst 1, 1) := by decide +kernel
theorem zd_L_434 : decode code 434 = .ok (.iadd, 1) := by decide +kernel
theorem zd_L_435 : decode code 435 = .ok (.iaload, 1) := by decide +kernel
theorem zd_L_436 : decode code 436 = .ok (.aload_n 0, 1) := by decide +kernel
theorem zd_L_437 : decode code 437 = .ok (.iload_n 3, 1) := by decide +kernel
theorem zd_L_438 : decode code 438 = .ok (.iconst 2, 1) := by decide +kernel
theorem zd_L_439 : decode code 439 = .ok (.iadd, 1) := by decide +kernel
theorem zd_L_440 : decode code 440 = .ok (.iaload, 1) := by decide +kernel
theorem zd_L_441 : decode code 441 = .ok (.invokevirtual 59, 3) := by decide +kernel
theorem zd_L_444 : decode code 444 = .ok (.if_icmp .eq 579, 3) := by decide +kernel
theorem zd_L_447 : decode code 447 = .ok (.iconst 0, 1) := by decide +kernel
theorem zd_L_448 : decode code 448 = .ok (.ireturn, 1) := by decide +kernel
theorem zd_L_449 : decode code 449 = .ok (.aload_n 1, 1) := by decide +kernel
theorem zd_L_450 : decode code 450 = .ok (.aload_n 0, 1) := by decide +kernel
theorem zd_L_451 : decode code 451 = .ok (.iload_n 3, 1) := by decide +kernel
theorem zd_L_452 : decode code 452 = .ok (.iconst 1, 1) := by decide +kernel
theorem zd_L_453 : decode code 453 = .ok (.iadd, 1) := by decide +kernel
theorem zd_L_454 : decode code 454 = .ok (.iaload, 1) := by decide +kernel
theorem zd_L_455 : decode code 455 = .ok (.invokevirtual 60, 3) := by decide +kernel
theorem zd_L_458 : decode code 458 = .ok (.aload_n 2, 1) := by decide +kernel
theorem zd_L_459 : decode code 459 = .ok (.aload_n 0, 1) := by decide +kernel
theorem zd_L_460 : decode code 460 = .ok (.iload_n 3, 1) := by decide +kernel
theorem zd_L_461 : decode code 461 = .ok (.iconst 1, 1) := by decide +kernel
theorem zd_L_462 : decode code 462 = .ok (.iadd, 1) := by decide +kernel
theorem zd_L_463 : decode code 463 = .ok (.iaload, 1) := by decide +kernel
theorem zd_L_464 : decode code 464 = .ok (.invokevirtual 63, 3) := by decide +kernel
theorem zd_L_467 : decode code 467 = .ok (.if_icmp .eq 556, 3) := by decide +kernel
theorem zd_L_470 : decode code 470 = .ok (.iconst 0, 1) := by decide +kernel
theorem zd_L_471 : decode code 471 = .ok (.ireturn, 1) := by decide +kernel
theorem zd_L_472 : decode code 472 = .ok (.aload_n 1, 1) := by decide +kernel
theorem zd_L_473 : decode code 473 = .ok (.aload_n 0, 1) := by decide +kernel
theorem zd_L_474 : decode code 474 = .ok (.iload_n 3, 1) := by decide +kernel
theorem zd_L_475 : decode code 475 = .ok (.iconst 1, 1) := by decide +kernel
theorem zd_L_476 : decode code 476 = .ok (.iadd, 1) := by decide +kernel
theorem zd_L_477 : decode code 477 = .ok (.iaload, 1) := by decide +kernel
theorem zd_L_478 : decode code 478 = .ok (.aload_n 0, 1) := by decide +kernel
theorem zd_L_479 : decode code 479 = .ok (.iload_n 3, 1) := by decide +kernel
theorem zd_L_480 : decode code 480 = .ok (.iconst 2, 1) := by decide +kernel
theorem zd_L_481 : decode code 481 = .ok (.iadd, 1) := by decide +kernel
theorem zd_L_482 : decode code 482 = .ok (.iaload, 1) := by decide +kernel
theorem zd_L_483 : decode code 483 = .ok (.aload_n 0, 1) := by decide +kernel
theorem zd_L_484 : decode code 484 = .ok (.iload_n 3, 1) := by decide +kernel
theorem zd_L_485 : decode code 485 = .ok (.iconst 3, 1) := by decide +kernel
theorem zd_L_486 : decode code 486 = .ok (.iadd, 1) := by decide +kernel
theorem zd_L_487 : decode code 487 = .ok (.iaload, 1) := by decide +kernel
theorem zd_L_488 : decode code 488 = .ok (.invokevirtual 64, 3) := by decide +kernel
theorem zd_L_491 : decode code 491 = .ok (.aload_n 2, 1) := by decide +kernel
theorem zd_L_492 : decode code 492 = .ok (.aload_n 0, 1) := by decide +kernel
theorem zd_L_493 : decode code 493 = .ok (.iload_n 3, 1) := by decide +kernel
theorem zd_L_494 : decode code 494 = .ok (.iconst 1, 1) := by decide +kernel
theorem zd_L_495 : decode code 495 = .ok (.iadd, 1) := by decide +kernel
theorem zd_L_496 : decode code 496 = .ok (.iaload, 1) := by decide +kernel
theorem zd_L_497 : decode code 497 = .ok (.aload_n 0, 1) := by decide +kernel
theorem zd_L_498 : decode code 498 = .ok (.iload_n 3, 1) := by decide +kernel
theorem zd_L_499 : decode code 499 = .ok (.iconst 2, 1) := by decide +kernel
theorem zd_L_500 : decode code 500 = .ok (.iadd, 1) := by decide +kernel
theorem zd_L_501 : decode code 501 = .ok (.iaload, 1) := by decide +kernel
theorem zd_L_502 : decode code 502 = .ok (.aload_n 0, 1) := by decide +kernel
theorem zd_L_503 : decode code 503 = .ok (.iload_n 3, 1) := by decide +kernel
theorem zd_L_504 : decode code 504 = .ok (.iconst 3, 1) := by decide +kernel
theorem zd_L_505 : decode code 505 = .ok (.iadd, 1) := by decide +kernel
theorem zd_L_506 : decode code 506 = .ok (.iaload, 1) := by decide +kernel
theorem zd_L_507 : decode code 507 = .ok (.invokevirtual 68, 3) := by decide +kernel
theorem zd_L_510 : decode code 510 = .ok (.if_icmp .eq 513, 3) := by decide +kernel
theorem zd_L_513 : decode code 513 = .ok (.iconst 0, 1) := by decide +kernel
theorem zd_L_514 : decode code 514 = .ok (.ireturn, 1) := by decide +kernel
theorem zd_L_515 : decode code 515 = .ok (.aload_n 1, 1) := by decide +kernel
theorem zd_L_516 : decode code 516 = .ok (.aload_n 0, 1) := by decide +kernel
theorem zd_L_517 : decode code 517 = .ok (.iload_n 3, 1) := by decide +kernel
theorem zd_L_518 : decode code 518 = .ok (.iconst 1, 1) := by decide +kernel
theorem zd_L_519 : decode code 519 = .ok (.iadd, 1) := by decide +kernel
theorem zd_L_520 : decode code 520 = .ok (.iaload, 1) := by decide +kernel
theorem zd_L_521 : decode code 521 = .ok (.aload_n 0, 1) := by decide +kernel
theorem zd_L_522 : decode code 522 = .ok (.iload_n 3, 1) := by decide +kernel
theorem zd_L_523 : decode code 523 = .ok (.iconst 2, 1) := by decide +kernel
theorem zd_L_524 : decode code 524 = .ok (.iadd, 1) := by decide +kernel
theorem zd_L_525 : decode code 525 = .ok (.iaload, 1) := by decide +kernel
theorem zd_L_526 : decode code 526 = .ok (.aload_n 0, 1) := by decide +kernel
theorem zd_L_527 : decode code 527 = .ok (.iload_n 3, 1) := by decide +kernel
theorem zd_L_528 : decode code 528 = .ok (.iconst 3, 1) := by decide +kernel
theorem zd_L_529 : decode code 529 = .ok (.iadd, 1) := by decide +kernel
theorem zd_L_530 : decode code 530 = .ok (.iaload, 1) := by decide +kernel
theorem zd_L_531 : decode code 531 = .ok (.invokevirtual 69, 3) := by decide +kernel
theorem zd_L_534 : decode code 534 = .ok (.aload_n 2, 1) := by decide +kernel
theorem zd_L_535 : decode code 535 = .ok (.aload_n 0, 1) := by decide +kernel
theorem zd_L_536 : decode code 536 = .ok (.iload_n 3, 1) := by decide +kernel
theorem zd_L_537 : decode code 537 = .ok (.iconst 1, 1) := by decide +kernel
theorem zd_L_538 : decode code 538 = .ok (.iadd, 1) := by decide +kernel
theorem zd_L_539 : decode code 539 = .ok (.iaload, 1) := by decide +kernel
theorem zd_L_540 : decode code 540 = .ok (.aload_n 0, 1) := by decide +kernel
theorem zd_L_541 : decode code 541 = .ok (.iload_n 3, 1) := by decide +kernel
theorem zd_L_542 : decode code 542 = .ok (.iconst 2, 1) := by decide +kernel
theorem zd_L_543 : decode code 543 = .ok (.iadd, 1) := by decide +kernel
theorem zd_L_544 : decode code 544 = .ok (.iaload, 1) := by decide +kernel
theorem zd_L_545 : decode code 545 = .ok (.aload_n 0, 1) := by decide +kernel
theorem zd_L_546 : decode code 546 = .ok (.iload_n 3, 1) := by decide +kernel
theorem zd_L_547 : decode code 547 = .ok (.iconst 3, 1) := by decide +kernel
theorem zd_L_548 : decode code 548 = .ok (.iadd, 1) := by decide +kernel
theorem zd_L_549 : decode code 549 = .ok (.iaload, 1) := by decide +kernel
theorem zd_L_550 : decode code 550 = .ok (.invokevirtual 72, 3) := by decide +kernel
theorem zd_L_553 : decode code 553 = .ok (.if_icmp .eq 470, 3) := by decide +kernel
theorem zd_L_556 : decode code 556 = .ok (.iconst 0, 1) := by decide +kernel
theorem zd_L_557 : decode code 557 = .ok (.ireturn, 1) := by decide +kernel
theorem zd_L_558 : decode code 558 = .ok (.aload_n 1, 1) := by decide +kernel
theorem zd_L_559 : decode code 559 = .ok (.aload_n 0, 1) := by decide +kernel
theorem zd_L_560 : decode code 560 = .ok (.iload_n 3, 1) := by decide +kernel
theorem zd_L_561 : decode code 561 = .ok (.iconst 1, 1) := by decide +kernel
theorem zd_L_562 : decode code 562 = .ok (.iadd, 1) := by decide +kernel
theorem zd_L_563 : decode code 563 = .ok (.iaload, 1) := by decide +kernel
theorem zd_L_564 : decode code 564 = .ok (.invokevirtual 73, 3) := by decide +kernel
theorem zd_L_567 : decode code 567 = .ok (.aload_n 2, 1) := by decide +kernel
theorem zd_L_568 : decode code 568 = .ok (.aload_n 0, 1) := by decide +kernel
theorem zd_L_569 : decode code 569 = .ok (.iload_n 3, 1) := by decide +kernel
theorem zd_L_570 : decode code 570 = .ok (.iconst 1, 1) := by decide +kernel
theorem zd_L_571 : decode code 571 = .ok (.iadd, 1) := by decide +kernel
theorem zd_L_572 : decode code 572 = .ok (.iaload, 1) := by decide +kernel
theorem zd_L_573 : decode code 573 = .ok (.invokevirtual 76, 3) := by decide +kernel
theorem zd_L_576 : decode code 576 = .ok (.if_icmp .eq 447, 3) := by decide +kernel
theorem zd_L_579 : decode code 579 = .ok (.iconst 0, 1) := by decide +kernel
theorem zd_L_580 : decode code 580 = .ok (.ireturn, 1) := by decide +kernel
theorem zd_L_581 : decode code 581 = .ok (.aload_n 1, 1) := by decide +kernel
theorem zd_L_582 : decode code 582 = .ok (.aload_n 0, 1) := by decide +kernel
theorem zd_L_583 : decode code 583 = .ok (.iload_n 3, 1) := by decide +kernel
theorem zd_L_584 : decode code 584 = .ok (.iconst 1, 1) := by decide +kernel
theorem zd_L_585 : decode code 585 = .ok (.iadd, 1) := by decide +kernel
