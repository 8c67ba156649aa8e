theorem mj_dL_390 : decode mj_law.2.1 390 = .ok (.iadd, 1) := by decide +kernel
theorem mj_dL_391 : decode mj_law.2.1 391 = .ok (.iaload, 1) := by decide +kernel
theorem mj_dL_392 : decode mj_law.2.1 392 = .ok (.invokevirtual 51, 3) := by decide +kernel
theorem mj_dL_395 : decode mj_law.2.1 395 = .ok (.pop, 1) := by decide +kernel
theorem mj_dL_396 : decode mj_law.2.1 396 = .ok (.goto 685, 3) := by decide +kernel
theorem mj_dL_399 : decode mj_law.2.1 399 = .ok (.aload_n 1, 1) := by decide +kernel
theorem mj_dL_400 : decode mj_law.2.1 400 = .ok (.invokevirtual 52, 3) := by decide +kernel
theorem mj_dL_403 : decode mj_law.2.1 403 = .ok (.pop, 1) := by decide +kernel
theorem mj_dL_404 : decode mj_law.2.1 404 = .ok (.aload_n 2, 1) := by decide +kernel
theorem mj_dL_405 : decode mj_law.2.1 405 = .ok (.invokevirtual 55, 3) := by decide +kernel
theorem mj_dL_408 : decode mj_law.2.1 408 = .ok (.pop, 1) := by decide +kernel
theorem mj_dL_409 : decode mj_law.2.1 409 = .ok (.goto 672, 3) := by decide +kernel
theorem mj_dL_412 : decode mj_law.2.1 412 = .ok (.aload_n 1, 1) := by decide +kernel
theorem mj_dL_413 : decode mj_law.2.1 413 = .ok (.aload_n 0, 1) := by decide +kernel
theorem mj_dL_414 : decode mj_law.2.1 414 = .ok (.iload_n 3, 1) := by decide +kernel
theorem mj_dL_415 : decode mj_law.2.1 415 = .ok (.iconst 1, 1) := by decide +kernel
theorem mj_dL_416 : decode mj_law.2.1 416 = .ok (.iadd, 1) := by decide +kernel
theorem mj_dL_417 : decode mj_law.2.1 417 = .ok (.iaload, 1) := by decide +kernel
theorem mj_dL_418 : decode mj_law.2.1 418 = .ok (.invokevirtual 56, 3) := by decide +kernel
theorem mj_dL_421 : decode mj_law.2.1 421 = .ok (.pop, 1) := by decide +kernel
theorem mj_dL_422 : decode mj_law.2.1 422 = .ok (.aload_n 2, 1) := by decide +kernel
theorem mj_dL_423 : decode mj_law.2.1 423 = .ok (.aload_n 0, 1) := by decide +kernel
theorem mj_dL_424 : decode mj_law.2.1 424 = .ok (.iload_n 3, 1) := by decide +kernel
theorem mj_dL_425 : decode mj_law.2.1 425 = .ok (.iconst 1, 1) := by decide +kernel
theorem mj_dL_426 : decode mj_law.2.1 426 = .ok (.iadd, 1) := by decide +kernel
theorem mj_dL_427 : decode mj_law.2.1 427 = .ok (.iaload, 1) := by decide +kernel
theorem mj_dL_428 : decode mj_law.2.1 428 = .ok (.invokevirtual 59, 3) := by decide +kernel
theorem mj_dL_431 : decode mj_law.2.1 431 = .ok (.pop, 1) := by decide +kernel
theorem mj_dL_432 : decode mj_law.2.1 432 = .ok (.goto 649, 3) := by decide +kernel
theorem mj_dL_435 : decode mj_law.2.1 435 = .ok (.aload_n 1, 1) := by decide +kernel
theorem mj_dL_436 : decode mj_law.2.1 436 = .ok (.aload_n 0, 1) := by decide +kernel
theorem mj_dL_437 : decode mj_law.2.1 437 = .ok (.iload_n 3, 1) := by decide +kernel
theorem mj_dL_438 : decode mj_law.2.1 438 = .ok (.iconst 1, 1) := by decide +kernel
theorem mj_dL_439 : decode mj_law.2.1 439 = .ok (.iadd, 1) := by decide +kernel
theorem mj_dL_440 : decode mj_law.2.1 440 = .ok (.iaload, 1) := by decide +kernel
theorem mj_dL_441 : decode mj_law.2.1 441 = .ok (.aload_n 0, 1) := by decide +kernel
theorem mj_dL_442 : decode mj_law.2.1 442 = .ok (.iload_n 3, 1) := by decide +kernel
theorem mj_dL_443 : decode mj_law.2.1 443 = .ok (.iconst 2, 1) := by decide +kernel
theorem mj_dL_444 : decode mj_law.2.1 444 = .ok (.iadd, 1) := by decide +kernel
theorem mj_dL_445 : decode mj_law.2.1 445 = .ok (.iaload, 1) := by decide +kernel
theorem mj_dL_446 : decode mj_law.2.1 446 = .ok (.invokevirtual 60, 3) := by decide +kernel
theorem mj_dL_449 : decode mj_law.2.1 449 = .ok (.pop, 1) := by decide +kernel
theorem mj_dL_450 : decode mj_law.2.1 450 = .ok (.aload_n 2, 1) := by decide +kernel
theorem mj_dL_451 : decode mj_law.2.1 451 = .ok (.aload_n 0, 1) := by decide +kernel
theorem mj_dL_452 : decode mj_law.2.1 452 = .ok (.iload_n 3, 1) := by decide +kernel
theorem mj_dL_453 : decode mj_law.2.1 453 = .ok (.iconst 1, 1) := by decide +kernel
theorem mj_dL_454 : decode mj_law.2.1 454 = .ok (.iadd, 1) := by decide +kernel
theorem mj_dL_455 : decode mj_law.2.1 455 = .ok (.iaload, 1) := by decide +kernel
theorem mj_dL_456 : decode mj_law.2.1 456 = .ok (.aload_n 0, 1) := by decide +kernel
theorem mj_dL_457 : decode mj_law.2.1 457 = .ok (.iload_n 3, 1) := by decide +kernel
theorem mj_dL_458 : decode mj_law.2.1 458 = .ok (.iconst 2, 1) := by decide +kernel
theorem mj_dL_459 : decode mj_law.2.1 459 = .ok (.iadd, 1) := by decide +kernel
theorem mj_dL_460 : decode mj_law.2.1 460 = .ok (.iaload, 1) := by decide +kernel
theorem mj_dL_461 : decode mj_law.2.1 461 = .ok (.invokevirtual 63, 3) := by decide +kernel
theorem mj_dL_464 : decode mj_law.2.1 464 = .ok (.pop, 1) := by decide +kernel
theorem mj_dL_465 : decode mj_law.2.1 465 = .ok (.goto 616, 3) := by decide +kernel
theorem mj_dL_468 : decode mj_law.2.1 468 = .ok (.aload_n 1, 1) := by decide +kernel
theorem mj_dL_469 : decode mj_law.2.1 469 = .ok (.aload_n 0, 1) := by decide +kernel
theorem mj_dL_470 : decode mj_law.2.1 470 = .ok (.iload_n 3, 1) := by decide +kernel
theorem mj_dL_471 : decode mj_law.2.1 471 = .ok (.iconst 1, 1) := by decide +kernel
theorem mj_dL_472 : decode mj_law.2.1 472 = .ok (.iadd, 1) := by decide +kernel
theorem mj_dL_473 : decode mj_law.2.1 473 = .ok (.iaload, 1) := by decide +kernel
theorem mj_dL_474 : decode mj_law.2.1 474 = .ok (.aload_n 0, 1) := by decide +kernel
theorem mj_dL_475 : decode mj_law.2.1 475 = .ok (.iload_n 3, 1) := by decide +kernel
theorem mj_dL_476 : decode mj_law.2.1 476 = .ok (.iconst 2, 1) := by decide +kernel
theorem mj_dL_477 : decode mj_law.2.1 477 = .ok (.iadd, 1) := by decide +kernel
theorem mj_dL_478 : decode mj_law.2.1 478 = .ok (.iaload, 1) := by decide +kernel
theorem mj_dL_479 : decode mj_law.2.1 479 = .ok (.aload_n 0, 1) := by decide +kernel
theorem mj_dL_480 : decode mj_law.2.1 480 = .ok (.iload_n 3, 1) := by decide +kernel
theorem mj_dL_481 : decode mj_law.2.1 481 = .ok (.iconst 3, 1) := by decide +kernel
theorem mj_dL_482 : decode mj_law.2.1 482 = .ok (.iadd, 1) := by decide +kernel
theorem mj_dL_483 : decode mj_law.2.1 483 = .ok (.iaload, 1) := by decide +kernel
theorem mj_dL_484 : decode mj_law.2.1 484 = .ok (.aload_n 0, 1) := by decide +kernel
theorem mj_dL_485 : decode mj_law.2.1 485 = .ok (.iload_n 3, 1) := by decide +kernel
theorem mj_dL_486 : decode mj_law.2.1 486 = .ok (.iconst 4, 1) := by decide +kernel
theorem mj_dL_487 : decode mj_law.2.1 487 = .ok (.iadd, 1) := by decide +kernel
theorem mj_dL_488 : decode mj_law.2.1 488 = .ok (.iaload, 1) := by decide +kernel
theorem mj_dL_489 : decode mj_law.2.1 489 = .ok (.invokevirtual 64, 3) := by decide +kernel
theorem mj_dL_492 : decode mj_law.2.1 492 = .ok (.pop, 1) := by decide +kernel
theorem mj_dL_493 : decode mj_law.2.1 493 = .ok (.aload_n 2, 1) := by decide +kernel
theorem mj_dL_494 : decode mj_law.2.1 494 = .ok (.aload_n 0, 1) := by decide +kernel
theorem mj_dL_495 : decode mj_law.2.1 495 = .ok (.iload_n 3, 1) := by decide +kernel
theorem mj_dL_496 : decode mj_law.2.1 496 = .ok (.iconst 1, 1) := by decide +kernel
theorem mj_dL_497 : decode mj_law.2.1 497 = .ok (.iadd, 1) := by decide +kernel
theorem mj_dL_498 : decode mj_law.2.1 498 = .ok (.iaload, 1) := by decide +kernel
theorem mj_dL_499 : decode mj_law.2.1 499 = .ok (.aload_n 0, 1) := by decide +kernel
theorem mj_dL_500 : decode mj_law.2.1 500 = .ok (.iload_n 3, 1) := by decide +kernel
theorem mj_dL_501 : decode mj_law.2.1 501 = .ok (.iconst 2, 1) := by decide +kernel
theorem mj_dL_502 : decode mj_law.2.1 502 = .ok (.iadd, 1) := by decide +kernel
theorem mj_dL_503 : decode mj_law.2.1 503 = .ok (.iaload, 1) := by decide +kernel
theorem mj_dL_504 : decode mj_law.2.1 504 = .ok (.aload_n 0, 1) := by decide +kernel
theorem mj_dL_505 : decode mj_law.2.1 505 = .ok (.iload_n 3, 1) := by decide +kernel
theorem mj_dL_506 : decode mj_law.2.1 506 = .ok (.iconst 3, 1) := by decide +kernel
theorem mj_dL_507 : decode mj_law.2.1 507 = .ok (.iadd, 1) := by decide +kernel
theorem mj_dL_508 : decode mj_law.2.1 508 = .ok (.iaload, 1) := by decide +kernel
theorem mj_dL_509 : decode mj_law.2.1 509 = .ok (.aload_n 0, 1) := by decide +kernel
theorem mj_dL_510 : decode mj_law.2.1 510 = .ok (.iload_n 3, 1) := by decide +kernel
theorem mj_dL_511 : decode mj_law.2.1 511 = .ok (.iconst 4, 1) := by decide +kernel
theorem mj_dL_512 : decode mj_law.2.1 512 = .ok (.iadd, 1) := by decide +kernel
theorem mj_dL_513 : decode mj_law.2.1 513 = .ok (.iaload, 1) := by decide +kernel
theorem mj_dL_514 : decode mj_law.2.1 514 = .ok (.invokevirtual 68, 3) := by decide +kernel
theorem mj_dL_517 : decode mj_law.2.1 517 = .ok (.pop, 1) := by decide +kernel
theorem mj_dL_518 : decode mj_law.2.1 518 = .ok (.goto 563, 3) := by decide +kernel
theorem mj_dL_521 : decode mj_law.2.1 521 = .ok (.aload_n 1, 1) := by decide +kernel
theorem mj_dL_522 : decode mj_law.2.1 522 = .ok (.aload_n 0, 1) := by decide +kernel
theorem mj_dL_523 : decode mj_law.2.1 523 = .ok (.iload_n 3, 1) := by decide +kernel
theorem mj_dL_524 : decode mj_law.2.1 524 = .ok (.iconst 1, 1) := by decide +kernel
theorem mj_dL_525 : decode mj_law.2.1 525 = .ok (.iadd, 1) := by decide +kernel
theorem mj_dL_526 : decode mj_law.2.1 526 = .ok (.iaload, 1) := by decide +kernel
theorem mj_dL_527 : decode mj_law.2.1 527 = .ok (.aload_n 0, 1) := by decide +kernel
theorem mj_dL_528 : decode mj_law.2.1 528 = .ok (.iload_n 3, 1) := by decide +kernel
theorem mj_dL_529 : decode mj_law.2.1 529 = .ok (.iconst 2, 1) := by decide +kernel
theorem mj_dL_530 : decode mj_law.2.1 530 = .ok (.iadd, 1) := by decide +kernel
theorem mj_dL_531 : decode mj_law.2.1 531 = .ok (.iaload, 1) := by decide +kernel
theorem mj_dL_532 : decode mj_law.2.1 532 = .ok (.aload_n 0, 1) := by decide +kernel
theorem mj_dL_533 : decode mj_law.2.1 533 = .ok (.iload_n 3, 1) := by decide +kernel
theorem mj_dL_534 : decode mj_law.2.1 534 = .ok (.iconst 3, 1) := by decide +kernel
theorem mj_dL_535 : decode mj_law.2.1 535 = .ok (.iadd, 1) := by decide +kernel
theorem mj_dL_536 : decode mj_law.2.1 536 = .ok (.iaload, 1) := by decide +kernel
theorem mj_dL_537 : decode mj_law.2.1 537 = .ok (.invokevirtual 69, 3) := by decide +kernel
theorem mj_dL_540 : decode mj_law.2.1 540 = .ok (.pop, 1) := by decide +kernel
theorem mj_dL_541 : decode mj_law.2.1 541 = .ok (.aload_n 2, 1) := by decide +kernel
theorem mj_dL_542 : decode mj_law.2.1 542 = .ok (.aload_n 0, 1) := by decide +kernel
theorem mj_dL_543 : decode mj_law.2.1 543 = .ok (.iload_n 3, 1) := by decide +kernel
theorem mj_dL_544 : decode mj_law.2.1 544 = .ok (.iconst 1, 1) := by decide +kernel
theorem mj_dL_545 : decode mj_law.2.1 545 = .ok (.iadd, 1) := by decide +kernel
theorem mj_dL_546 : decode mj_law.2.1 546 = .ok (.iaload, 1) := by decide +kernel
theorem mj_dL_547 : decode mj_law.2.1 547 = .ok (.aload_n 0, 1) := by decide +kernel
theorem mj_dL_548 : decode mj_law.2.1 548 = .ok (.iload_n 3, 1) := by decide +kernel
theorem mj_dL_549 : decode mj_law.2.1 549 = .ok (.iconst 2, 1) := by decide +kernel
theorem mj_dL_550 : decode mj_law.2.1 550 = .ok (.iadd, 1) := by decide +kernel
theorem mj_dL_551 : decode mj_law.2.1 551 = .ok (.iaload, 1) := by decide +kernel
theorem mj_dL_552 : decode mj_law.2.1 552 = .ok (.aload_n 0, 1) := by decide +kernel
theorem mj_dL_553 : decode mj_law.2.1 553 = .ok (.iload_n 3, 1) := by decide +kernel
theorem mj_dL_554 : decode mj_law.2.1 554 = .ok (.iconst 3, 1) := by decide +kernel
theorem mj_dL_555 : decode mj_law.2.1 555 = .ok (.iadd, 1) := by decide +kernel
theorem mj_dL_556 : decode mj_law.2.1 556 = .ok (.iaload, 1) := by decide +kernel
theorem mj_dL_557 : decode mj_law.2.1 557 = .ok (.invokevirtual 73, 3) := by decide +kernel
theorem mj_dL_560 : decode mj_law.2.1 560 = .ok (.pop, 1) := by decide +kernel
theorem mj_dL_561 : decode mj_law.2.1 561 = .ok (.goto 520, 3) := by decide +kernel
theorem mj_dL_564 : decode mj_law.2.1 564 = .ok (.aload_n 1, 1) := by decide +kernel
theorem mj_dL_565 : decode mj_law.2.1 565 = .ok (.aload_n 0, 1) := by decide +kernel
theorem mj_dL_566 : decode mj_law.2.1 566 = .ok (.iload_n 3, 1) := by decide +kernel
theorem mj_dL_567 : decode mj_law.2.1 567 = .ok (.iconst 1, 1) := by decide +kernel
theorem mj_dL_568 : decode mj_law.2.1 568 = .ok (.iadd, 1) := by decide +kernel
theorem mj_dL_569 : decode mj_law.2.1 569 = .ok (.iaload, 1) := by decide +kernel
theorem mj_dL_570 : decode mj_law.2.1 570 = .ok (.invokevirtual 74, 3) := by decide +kernel
theorem mj_dL_573 : decode mj_law.2.1 573 = .ok (.pop, 1) := by decide +kernel
theorem mj_dL_574 : decode mj_law.2.1 574 = .ok (.aload_n 2, 1) := by decide +kernel
theorem mj_dL_575 : decode mj_law.2.1 575 = .ok (.aload_n 0, 1) := by decide +kernel
theorem mj_dL_576 : decode mj_law.2.1 576 = .ok (.iload_n 3, 1) := by decide +kernel
theorem mj_dL_577 : decode mj_law.2.1 577 = .ok (.iconst 1, 1) := by decide +kernel
theorem mj_dL_578 : decode mj_law.2.1 578 = .ok (.iadd, 1) := by decide +kernel
theorem mj_dL_579 : decode mj_law.2.1 579 = .ok (.iaload, 1) := by decide +kernel
theorem mj_dL_580 : decode mj_law.2.1 580 = .ok (.invokevirtual 77, 3) := by decide +kernel
theorem mj_dL_583 : decode mj_law.2.1 583 = .ok (.pop, 1) := by decide +kernel
theorem mj_dL_584 : decode mj_law.2.1 584 = .ok (.goto 497, 3) := by decide +kernel
theorem mj_dL_587 : decode mj_law.2.1 587 = .ok (.aload_n 1, 1) := by decide +kernel
theorem mj_dL_588 : decode mj_law.2.1 588 = .ok (.aload_n 0, 1) := by decide +kernel
theorem mj_dL_589 : decode mj_law.2.1 589 = .ok (.iload_n 3, 1) := by decide +kernel
theorem mj_dL_590 : decode mj_law.2.1 590 = .ok (.iconst 1, 1) := by decide +kernel
theorem mj_dL_591 : decode mj_law.2.1 591 = .ok (.iadd, 1) := by decide +kernel
theorem mj_dL_592 : decode mj_law.2.1 592 = .ok (.iaload, 1) := by decide +kernel
theorem mj_dL_593 : decode mj_law.2.1 593 = .ok (.invokevirtual 78, 3) := by decide +kernel
theorem mj_dL_596 : decode mj_law.2.1 596 = .ok (.pop, 1) := by decide +kernel
theorem mj_dL_597 : decode mj_law.2.1 597 = .ok (.aload_n 2, 1) := by decide +kernel
theorem mj_dL_598 : decode mj_law.2.1 598 = .ok (.aload_n 0, 1) := by decide +kernel
theorem mj_dL_599 : decode mj_law.2.1 599 = .ok (.iload_n 3, 1) := by decide +kernel
theorem mj_dL_600 : decode mj_law.2.1 600 = .ok (.iconst 1, 1) := by decide +kernel
theorem mj_dL_601 : decode mj_law.2.1 601 = .ok (.iadd, 1) := by decide +kernel
theorem mj_dL_602 : decode mj_law.2.1 602 = .ok (.iaload, 1) := by decide +kernel
theorem mj_dL_603 : decode mj_law.2.1 603 = .ok (.invokevirtual 81, 3) := by decide +kernel
theorem mj_dL_606 : decode mj_law.2.1 606 = .ok (.pop, 1) := by decide +kernel
theorem mj_dL_607 : decode mj_law.2.1 607 = .ok (.goto 474, 3) := by decide +kernel
theorem mj_dL_610 : decode mj_law.2.1 610 = .ok (.aload_n 1, 1) := by decide +kernel
theorem mj_dL_611 : decode mj_law.2.1 611 = .ok (.aload_n 0, 1) := by decide +kernel
theorem mj_dL_612 : decode mj_law.2.1 612 = .ok (.iload_n 3, 1) := by decide +kernel
theorem mj_dL_613 : decode mj_law.2.1 613 = .ok (.iconst 1, 1) := by decide +kernel
theorem mj_dL_614 : decode mj_law.2.1 614 = .ok (.iadd, 1) := by decide +kernel
theorem mj_dL_615 : decode mj_law.2.1 615 = .ok (.iaload, 1) := by decide +kernel
theorem mj_dL_616 : decode mj_law.2.1 616 = .ok (.aload_n 0, 1) := by decide +kernel
theorem mj_dL_617 : decode mj_law.2.1 617 = .ok (.iload_n 3, 1) := by decide +kernel
theorem mj_dL_618 : decode mj_law.2.1 618 = .ok (.iconst 2, 1) := by decide +kernel
theorem mj_dL_619 : decode mj_law.2.1 619 = .ok (.iadd, 1) := by decide +kernel
theorem mj_dL_620 : decode mj_law.2.1 620 = .ok (.iaload, 1) := by decide +kernel
theorem mj_dL_621 : decode mj_law.2.1 621 = .ok (.aload_n 0, 1) := by decide +kernel
theorem mj_dL_622 : decode mj_law.2.1 622 = .ok (.iload_n 3, 1) := by decide +kernel
theorem mj_dL_623 : decode mj_law.2.1 623 = .ok (.iconst 3, 1) := by decide +kernel
theorem mj_dL_624 : decode mj_law.2.1 624 = .ok (.iadd, 1) := by decide +kernel
theorem mj_dL_625 : decode mj_law.2.1 625 = .ok (.iaload, 1) := by decide +kernel
