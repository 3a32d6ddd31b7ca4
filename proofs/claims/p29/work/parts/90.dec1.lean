theorem dl_370 : decode code 370 = .ok (.goto 952, 3) := by decide +kernel
theorem dl_373 : decode code 373 = .ok (.aload_n 1, 1) := by decide +kernel
theorem dl_374 : decode code 374 = .ok (.aload_n 0, 1) := by decide +kernel
theorem dl_375 : decode code 375 = .ok (.iload_n 3, 1) := by decide +kernel
theorem dl_376 : decode code 376 = .ok (.iconst 1, 1) := by decide +kernel
theorem dl_377 : decode code 377 = .ok (.iadd, 1) := by decide +kernel
theorem dl_378 : decode code 378 = .ok (.iaload, 1) := by decide +kernel
theorem dl_379 : decode code 379 = .ok (.invokevirtual 45, 3) := by decide +kernel
theorem dl_382 : decode code 382 = .ok (.pop, 1) := by decide +kernel
theorem dl_383 : decode code 383 = .ok (.aload_n 2, 1) := by decide +kernel
theorem dl_384 : decode code 384 = .ok (.aload_n 0, 1) := by decide +kernel
theorem dl_385 : decode code 385 = .ok (.iload_n 3, 1) := by decide +kernel
theorem dl_386 : decode code 386 = .ok (.iconst 1, 1) := by decide +kernel
theorem dl_387 : decode code 387 = .ok (.iadd, 1) := by decide +kernel
theorem dl_388 : decode code 388 = .ok (.iaload, 1) := by decide +kernel
theorem dl_389 : decode code 389 = .ok (.invokevirtual 48, 3) := by decide +kernel
theorem dl_392 : decode code 392 = .ok (.pop, 1) := by decide +kernel
theorem dl_393 : decode code 393 = .ok (.goto 929, 3) := by decide +kernel
theorem dl_396 : decode code 396 = .ok (.aload_n 1, 1) := by decide +kernel
theorem dl_397 : decode code 397 = .ok (.aload_n 0, 1) := by decide +kernel
theorem dl_398 : decode code 398 = .ok (.iload_n 3, 1) := by decide +kernel
theorem dl_399 : decode code 399 = .ok (.iconst 1, 1) := by decide +kernel
theorem dl_400 : decode code 400 = .ok (.iadd, 1) := by decide +kernel
theorem dl_401 : decode code 401 = .ok (.iaload, 1) := by decide +kernel
theorem dl_402 : decode code 402 = .ok (.invokevirtual 49, 3) := by decide +kernel
theorem dl_405 : decode code 405 = .ok (.pop, 1) := by decide +kernel
theorem dl_406 : decode code 406 = .ok (.aload_n 2, 1) := by decide +kernel
theorem dl_407 : decode code 407 = .ok (.aload_n 0, 1) := by decide +kernel
theorem dl_408 : decode code 408 = .ok (.iload_n 3, 1) := by decide +kernel
theorem dl_409 : decode code 409 = .ok (.iconst 1, 1) := by decide +kernel
theorem dl_410 : decode code 410 = .ok (.iadd, 1) := by decide +kernel
theorem dl_411 : decode code 411 = .ok (.iaload, 1) := by decide +kernel
theorem dl_412 : decode code 412 = .ok (.invokevirtual 52, 3) := by decide +kernel
theorem dl_415 : decode code 415 = .ok (.pop, 1) := by decide +kernel
theorem dl_416 : decode code 416 = .ok (.goto 906, 3) := by decide +kernel
theorem dl_419 : decode code 419 = .ok (.aload_n 1, 1) := by decide +kernel
theorem dl_420 : decode code 420 = .ok (.aload_n 0, 1) := by decide +kernel
theorem dl_421 : decode code 421 = .ok (.iload_n 3, 1) := by decide +kernel
theorem dl_422 : decode code 422 = .ok (.iconst 1, 1) := by decide +kernel
theorem dl_423 : decode code 423 = .ok (.iadd, 1) := by decide +kernel
theorem dl_424 : decode code 424 = .ok (.iaload, 1) := by decide +kernel
theorem dl_425 : decode code 425 = .ok (.invokevirtual 53, 3) := by decide +kernel
theorem dl_428 : decode code 428 = .ok (.pop, 1) := by decide +kernel
theorem dl_429 : decode code 429 = .ok (.aload_n 2, 1) := by decide +kernel
theorem dl_430 : decode code 430 = .ok (.aload_n 0, 1) := by decide +kernel
theorem dl_431 : decode code 431 = .ok (.iload_n 3, 1) := by decide +kernel
theorem dl_432 : decode code 432 = .ok (.iconst 1, 1) := by decide +kernel
theorem dl_433 : decode code 433 = .ok (.iadd, 1) := by decide +kernel
theorem dl_434 : decode code 434 = .ok (.iaload, 1) := by decide +kernel
theorem dl_435 : decode code 435 = .ok (.invokevirtual 56, 3) := by decide +kernel
theorem dl_438 : decode code 438 = .ok (.pop, 1) := by decide +kernel
theorem dl_439 : decode code 439 = .ok (.goto 883, 3) := by decide +kernel
theorem dl_442 : decode code 442 = .ok (.aload_n 1, 1) := by decide +kernel
theorem dl_443 : decode code 443 = .ok (.invokevirtual 57, 3) := by decide +kernel
theorem dl_446 : decode code 446 = .ok (.pop, 1) := by decide +kernel
theorem dl_447 : decode code 447 = .ok (.aload_n 2, 1) := by decide +kernel
theorem dl_448 : decode code 448 = .ok (.invokevirtual 60, 3) := by decide +kernel
theorem dl_451 : decode code 451 = .ok (.pop, 1) := by decide +kernel
theorem dl_452 : decode code 452 = .ok (.goto 870, 3) := by decide +kernel
theorem dl_455 : decode code 455 = .ok (.aload_n 1, 1) := by decide +kernel
theorem dl_456 : decode code 456 = .ok (.aload_n 0, 1) := by decide +kernel
theorem dl_457 : decode code 457 = .ok (.iload_n 3, 1) := by decide +kernel
theorem dl_458 : decode code 458 = .ok (.iconst 1, 1) := by decide +kernel
theorem dl_459 : decode code 459 = .ok (.iadd, 1) := by decide +kernel
theorem dl_460 : decode code 460 = .ok (.iaload, 1) := by decide +kernel
theorem dl_461 : decode code 461 = .ok (.aload_n 0, 1) := by decide +kernel
theorem dl_462 : decode code 462 = .ok (.iload_n 3, 1) := by decide +kernel
theorem dl_463 : decode code 463 = .ok (.iconst 2, 1) := by decide +kernel
theorem dl_464 : decode code 464 = .ok (.iadd, 1) := by decide +kernel
theorem dl_465 : decode code 465 = .ok (.iaload, 1) := by decide +kernel
theorem dl_466 : decode code 466 = .ok (.invokevirtual 61, 3) := by decide +kernel
theorem dl_469 : decode code 469 = .ok (.pop, 1) := by decide +kernel
theorem dl_470 : decode code 470 = .ok (.aload_n 2, 1) := by decide +kernel
theorem dl_471 : decode code 471 = .ok (.aload_n 0, 1) := by decide +kernel
theorem dl_472 : decode code 472 = .ok (.iload_n 3, 1) := by decide +kernel
theorem dl_473 : decode code 473 = .ok (.iconst 1, 1) := by decide +kernel
theorem dl_474 : decode code 474 = .ok (.iadd, 1) := by decide +kernel
theorem dl_475 : decode code 475 = .ok (.iaload, 1) := by decide +kernel
theorem dl_476 : decode code 476 = .ok (.aload_n 0, 1) := by decide +kernel
theorem dl_477 : decode code 477 = .ok (.iload_n 3, 1) := by decide +kernel
theorem dl_478 : decode code 478 = .ok (.iconst 2, 1) := by decide +kernel
theorem dl_479 : decode code 479 = .ok (.iadd, 1) := by decide +kernel
theorem dl_480 : decode code 480 = .ok (.iaload, 1) := by decide +kernel
theorem dl_481 : decode code 481 = .ok (.invokevirtual 64, 3) := by decide +kernel
theorem dl_484 : decode code 484 = .ok (.pop, 1) := by decide +kernel
theorem dl_485 : decode code 485 = .ok (.goto 837, 3) := by decide +kernel
theorem dl_488 : decode code 488 = .ok (.aload_n 1, 1) := by decide +kernel
theorem dl_489 : decode code 489 = .ok (.aload_n 0, 1) := by decide +kernel
theorem dl_490 : decode code 490 = .ok (.iload_n 3, 1) := by decide +kernel
theorem dl_491 : decode code 491 = .ok (.iconst 1, 1) := by decide +kernel
theorem dl_492 : decode code 492 = .ok (.iadd, 1) := by decide +kernel
theorem dl_493 : decode code 493 = .ok (.iaload, 1) := by decide +kernel
theorem dl_494 : decode code 494 = .ok (.invokevirtual 65, 3) := by decide +kernel
theorem dl_497 : decode code 497 = .ok (.pop, 1) := by decide +kernel
theorem dl_498 : decode code 498 = .ok (.aload_n 2, 1) := by decide +kernel
theorem dl_499 : decode code 499 = .ok (.aload_n 0, 1) := by decide +kernel
theorem dl_500 : decode code 500 = .ok (.iload_n 3, 1) := by decide +kernel
theorem dl_501 : decode code 501 = .ok (.iconst 1, 1) := by decide +kernel
theorem dl_502 : decode code 502 = .ok (.iadd, 1) := by decide +kernel
theorem dl_503 : decode code 503 = .ok (.iaload, 1) := by decide +kernel
theorem dl_504 : decode code 504 = .ok (.invokevirtual 68, 3) := by decide +kernel
theorem dl_507 : decode code 507 = .ok (.pop, 1) := by decide +kernel
theorem dl_508 : decode code 508 = .ok (.goto 814, 3) := by decide +kernel
theorem dl_511 : decode code 511 = .ok (.aload_n 1, 1) := by decide +kernel
theorem dl_512 : decode code 512 = .ok (.aload_n 0, 1) := by decide +kernel
theorem dl_513 : decode code 513 = .ok (.iload_n 3, 1) := by decide +kernel
theorem dl_514 : decode code 514 = .ok (.iconst 1, 1) := by decide +kernel
theorem dl_515 : decode code 515 = .ok (.iadd, 1) := by decide +kernel
theorem dl_516 : decode code 516 = .ok (.iaload, 1) := by decide +kernel
theorem dl_517 : decode code 517 = .ok (.invokevirtual 69, 3) := by decide +kernel
theorem dl_520 : decode code 520 = .ok (.pop, 1) := by decide +kernel
theorem dl_521 : decode code 521 = .ok (.aload_n 2, 1) := by decide +kernel
theorem dl_522 : decode code 522 = .ok (.aload_n 0, 1) := by decide +kernel
theorem dl_523 : decode code 523 = .ok (.iload_n 3, 1) := by decide +kernel
theorem dl_524 : decode code 524 = .ok (.iconst 1, 1) := by decide +kernel
theorem dl_525 : decode code 525 = .ok (.iadd, 1) := by decide +kernel
theorem dl_526 : decode code 526 = .ok (.iaload, 1) := by decide +kernel
theorem dl_527 : decode code 527 = .ok (.invokevirtual 72, 3) := by decide +kernel
theorem dl_530 : decode code 530 = .ok (.pop, 1) := by decide +kernel
theorem dl_531 : decode code 531 = .ok (.goto 791, 3) := by decide +kernel
theorem dl_534 : decode code 534 = .ok (.aload_n 1, 1) := by decide +kernel
theorem dl_535 : decode code 535 = .ok (.invokevirtual 73, 3) := by decide +kernel
theorem dl_538 : decode code 538 = .ok (.pop, 1) := by decide +kernel
theorem dl_539 : decode code 539 = .ok (.aload_n 2, 1) := by decide +kernel
theorem dl_540 : decode code 540 = .ok (.invokevirtual 76, 3) := by decide +kernel
theorem dl_543 : decode code 543 = .ok (.pop, 1) := by decide +kernel
theorem dl_544 : decode code 544 = .ok (.goto 778, 3) := by decide +kernel
theorem dl_547 : decode code 547 = .ok (.aload_n 1, 1) := by decide +kernel
theorem dl_548 : decode code 548 = .ok (.aload_n 0, 1) := by decide +kernel
theorem dl_549 : decode code 549 = .ok (.iload_n 3, 1) := by decide +kernel
theorem dl_550 : decode code 550 = .ok (.iconst 1, 1) := by decide +kernel
theorem dl_551 : decode code 551 = .ok (.iadd, 1) := by decide +kernel
theorem dl_552 : decode code 552 = .ok (.iaload, 1) := by decide +kernel
theorem dl_553 : decode code 553 = .ok (.invokevirtual 77, 3) := by decide +kernel
theorem dl_556 : decode code 556 = .ok (.pop, 1) := by decide +kernel
theorem dl_557 : decode code 557 = .ok (.aload_n 2, 1) := by decide +kernel
theorem dl_558 : decode code 558 = .ok (.aload_n 0, 1) := by decide +kernel
theorem dl_559 : decode code 559 = .ok (.iload_n 3, 1) := by decide +kernel
theorem dl_560 : decode code 560 = .ok (.iconst 1, 1) := by decide +kernel
theorem dl_561 : decode code 561 = .ok (.iadd, 1) := by decide +kernel
theorem dl_562 : decode code 562 = .ok (.iaload, 1) := by decide +kernel
theorem dl_563 : decode code 563 = .ok (.invokevirtual 80, 3) := by decide +kernel
theorem dl_566 : decode code 566 = .ok (.pop, 1) := by decide +kernel
theorem dl_567 : decode code 567 = .ok (.goto 755, 3) := by decide +kernel
theorem dl_570 : decode code 570 = .ok (.aload_n 1, 1) := by decide +kernel
theorem dl_571 : decode code 571 = .ok (.aload_n 0, 1) := by decide +kernel
theorem dl_572 : decode code 572 = .ok (.iload_n 3, 1) := by decide +kernel
theorem dl_573 : decode code 573 = .ok (.iconst 1, 1) := by decide +kernel
theorem dl_574 : decode code 574 = .ok (.iadd, 1) := by decide +kernel
theorem dl_575 : decode code 575 = .ok (.iaload, 1) := by decide +kernel
theorem dl_576 : decode code 576 = .ok (.invokevirtual 81, 3) := by decide +kernel
theorem dl_579 : decode code 579 = .ok (.pop, 1) := by decide +kernel
theorem dl_580 : decode code 580 = .ok (.aload_n 2, 1) := by decide +kernel
theorem dl_581 : decode code 581 = .ok (.aload_n 0, 1) := by decide +kernel
theorem dl_582 : decode code 582 = .ok (.iload_n 3, 1) := by decide +kernel
theorem dl_583 : decode code 583 = .ok (.iconst 1, 1) := by decide +kernel
theorem dl_584 : decode code 584 = .ok (.iadd, 1) := by decide +kernel
theorem dl_585 : decode code 585 = .ok (.iaload, 1) := by decide +kernel
theorem dl_586 : decode code 586 = .ok (.invokevirtual 84, 3) := by decide +kernel
theorem dl_589 : decode code 589 = .ok (.pop, 1) := by decide +kernel
