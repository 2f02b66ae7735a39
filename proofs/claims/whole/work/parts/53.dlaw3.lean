theorem d_L_law_463 : decode code 463 = .ok (.iconst 0, 1) := by decide +kernel
theorem d_L_law_464 : decode code 464 = .ok (.laload, 1) := by decide +kernel
theorem d_L_law_465 : decode code 465 = .ok (.iload 6, 2) := by decide +kernel
theorem d_L_law_467 : decode code 467 = .ok (.i2l, 1) := by decide +kernel
theorem d_L_law_468 : decode code 468 = .ok (.lcmp, 1) := by decide +kernel
theorem d_L_law_469 : decode code 469 = .ok (.ifCond .eq 5, 3) := by decide +kernel
theorem d_L_law_472 : decode code 472 = .ok (.iconst 0, 1) := by decide +kernel
theorem d_L_law_473 : decode code 473 = .ok (.ireturn, 1) := by decide +kernel
theorem d_L_law_474 : decode code 474 = .ok (.goto 167, 3) := by decide +kernel
theorem d_L_law_477 : decode code 477 = .ok (.aload_n 1, 1) := by decide +kernel
theorem d_L_law_478 : decode code 478 = .ok (.aload_n 0, 1) := by decide +kernel
theorem d_L_law_479 : decode code 479 = .ok (.iload 4, 2) := by decide +kernel
theorem d_L_law_481 : decode code 481 = .ok (.iconst 1, 1) := by decide +kernel
theorem d_L_law_482 : decode code 482 = .ok (.iadd, 1) := by decide +kernel
theorem d_L_law_483 : decode code 483 = .ok (.iaload, 1) := by decide +kernel
theorem d_L_law_484 : decode code 484 = .ok (.aload_n 0, 1) := by decide +kernel
theorem d_L_law_485 : decode code 485 = .ok (.iload 4, 2) := by decide +kernel
theorem d_L_law_487 : decode code 487 = .ok (.iconst 2, 1) := by decide +kernel
theorem d_L_law_488 : decode code 488 = .ok (.iadd, 1) := by decide +kernel
theorem d_L_law_489 : decode code 489 = .ok (.iaload, 1) := by decide +kernel
theorem d_L_law_490 : decode code 490 = .ok (.aload_n 0, 1) := by decide +kernel
theorem d_L_law_491 : decode code 491 = .ok (.iload 4, 2) := by decide +kernel
theorem d_L_law_493 : decode code 493 = .ok (.iconst 3, 1) := by decide +kernel
theorem d_L_law_494 : decode code 494 = .ok (.iadd, 1) := by decide +kernel
theorem d_L_law_495 : decode code 495 = .ok (.iaload, 1) := by decide +kernel
theorem d_L_law_496 : decode code 496 = .ok (.invokestatic 85, 3) := by decide +kernel
theorem d_L_law_499 : decode code 499 = .ok (.istore 5, 2) := by decide +kernel
theorem d_L_law_501 : decode code 501 = .ok (.aload_n 2, 1) := by decide +kernel
theorem d_L_law_502 : decode code 502 = .ok (.aload_n 0, 1) := by decide +kernel
theorem d_L_law_503 : decode code 503 = .ok (.iload 4, 2) := by decide +kernel
theorem d_L_law_505 : decode code 505 = .ok (.iconst 1, 1) := by decide +kernel
theorem d_L_law_506 : decode code 506 = .ok (.iadd, 1) := by decide +kernel
theorem d_L_law_507 : decode code 507 = .ok (.iaload, 1) := by decide +kernel
theorem d_L_law_508 : decode code 508 = .ok (.aload_n 0, 1) := by decide +kernel
theorem d_L_law_509 : decode code 509 = .ok (.iload 4, 2) := by decide +kernel
theorem d_L_law_511 : decode code 511 = .ok (.iconst 2, 1) := by decide +kernel
theorem d_L_law_512 : decode code 512 = .ok (.iadd, 1) := by decide +kernel
theorem d_L_law_513 : decode code 513 = .ok (.iaload, 1) := by decide +kernel
theorem d_L_law_514 : decode code 514 = .ok (.aload_n 0, 1) := by decide +kernel
theorem d_L_law_515 : decode code 515 = .ok (.iload 4, 2) := by decide +kernel
theorem d_L_law_517 : decode code 517 = .ok (.iconst 3, 1) := by decide +kernel
theorem d_L_law_518 : decode code 518 = .ok (.iadd, 1) := by decide +kernel
theorem d_L_law_519 : decode code 519 = .ok (.iaload, 1) := by decide +kernel
theorem d_L_law_520 : decode code 520 = .ok (.invokevirtual 88, 3) := by decide +kernel
theorem d_L_law_523 : decode code 523 = .ok (.aload_n 2, 1) := by decide +kernel
theorem d_L_law_524 : decode code 524 = .ok (.invokevirtual 54, 3) := by decide +kernel
theorem d_L_law_527 : decode code 527 = .ok (.iload 5, 2) := by decide +kernel
theorem d_L_law_529 : decode code 529 = .ok (.if_icmp .eq 5, 3) := by decide +kernel
theorem d_L_law_532 : decode code 532 = .ok (.iconst 0, 1) := by decide +kernel
theorem d_L_law_533 : decode code 533 = .ok (.ireturn, 1) := by decide +kernel
theorem d_L_law_534 : decode code 534 = .ok (.goto 107, 3) := by decide +kernel
theorem d_L_law_537 : decode code 537 = .ok (.aload_n 1, 1) := by decide +kernel
theorem d_L_law_538 : decode code 538 = .ok (.aload_n 0, 1) := by decide +kernel
theorem d_L_law_539 : decode code 539 = .ok (.iload 4, 2) := by decide +kernel
theorem d_L_law_541 : decode code 541 = .ok (.iconst 1, 1) := by decide +kernel
theorem d_L_law_542 : decode code 542 = .ok (.iadd, 1) := by decide +kernel
theorem d_L_law_543 : decode code 543 = .ok (.iaload, 1) := by decide +kernel
theorem d_L_law_544 : decode code 544 = .ok (.invokestatic 89, 3) := by decide +kernel
theorem d_L_law_547 : decode code 547 = .ok (.istore 5, 2) := by decide +kernel
theorem d_L_law_549 : decode code 549 = .ok (.aload_n 2, 1) := by decide +kernel
theorem d_L_law_550 : decode code 550 = .ok (.aload_n 0, 1) := by decide +kernel
theorem d_L_law_551 : decode code 551 = .ok (.iload 4, 2) := by decide +kernel
theorem d_L_law_553 : decode code 553 = .ok (.iconst 1, 1) := by decide +kernel
theorem d_L_law_554 : decode code 554 = .ok (.iadd, 1) := by decide +kernel
theorem d_L_law_555 : decode code 555 = .ok (.iaload, 1) := by decide +kernel
theorem d_L_law_556 : decode code 556 = .ok (.invokevirtual 92, 3) := by decide +kernel
theorem d_L_law_559 : decode code 559 = .ok (.aload_n 2, 1) := by decide +kernel
theorem d_L_law_560 : decode code 560 = .ok (.invokevirtual 54, 3) := by decide +kernel
theorem d_L_law_563 : decode code 563 = .ok (.iload 5, 2) := by decide +kernel
theorem d_L_law_565 : decode code 565 = .ok (.if_icmp .eq 5, 3) := by decide +kernel
theorem d_L_law_568 : decode code 568 = .ok (.iconst 0, 1) := by decide +kernel
theorem d_L_law_569 : decode code 569 = .ok (.ireturn, 1) := by decide +kernel
theorem d_L_law_570 : decode code 570 = .ok (.goto 71, 3) := by decide +kernel
theorem d_L_law_573 : decode code 573 = .ok (.aload_n 1, 1) := by decide +kernel
theorem d_L_law_574 : decode code 574 = .ok (.aload_n 0, 1) := by decide +kernel
theorem d_L_law_575 : decode code 575 = .ok (.iload 4, 2) := by decide +kernel
theorem d_L_law_577 : decode code 577 = .ok (.iconst 1, 1) := by decide +kernel
theorem d_L_law_578 : decode code 578 = .ok (.iadd, 1) := by decide +kernel
theorem d_L_law_579 : decode code 579 = .ok (.iaload, 1) := by decide +kernel
theorem d_L_law_580 : decode code 580 = .ok (.aload_n 0, 1) := by decide +kernel
theorem d_L_law_581 : decode code 581 = .ok (.iload 4, 2) := by decide +kernel
theorem d_L_law_583 : decode code 583 = .ok (.iconst 2, 1) := by decide +kernel
theorem d_L_law_584 : decode code 584 = .ok (.iadd, 1) := by decide +kernel
theorem d_L_law_585 : decode code 585 = .ok (.iaload, 1) := by decide +kernel
theorem d_L_law_586 : decode code 586 = .ok (.aload_n 3, 1) := by decide +kernel
theorem d_L_law_587 : decode code 587 = .ok (.invokestatic 93, 3) := by decide +kernel
theorem d_L_law_590 : decode code 590 = .ok (.istore 5, 2) := by decide +kernel
theorem d_L_law_592 : decode code 592 = .ok (.aload_n 2, 1) := by decide +kernel
theorem d_L_law_593 : decode code 593 = .ok (.aload_n 0, 1) := by decide +kernel
theorem d_L_law_594 : decode code 594 = .ok (.iload 4, 2) := by decide +kernel
theorem d_L_law_596 : decode code 596 = .ok (.iconst 1, 1) := by decide +kernel
theorem d_L_law_597 : decode code 597 = .ok (.iadd, 1) := by decide +kernel
theorem d_L_law_598 : decode code 598 = .ok (.iaload, 1) := by decide +kernel
theorem d_L_law_599 : decode code 599 = .ok (.aload_n 0, 1) := by decide +kernel
theorem d_L_law_600 : decode code 600 = .ok (.iload 4, 2) := by decide +kernel
theorem d_L_law_602 : decode code 602 = .ok (.iconst 2, 1) := by decide +kernel
theorem d_L_law_603 : decode code 603 = .ok (.iadd, 1) := by decide +kernel
theorem d_L_law_604 : decode code 604 = .ok (.iaload, 1) := by decide +kernel
theorem d_L_law_605 : decode code 605 = .ok (.invokevirtual 95, 3) := by decide +kernel
theorem d_L_law_608 : decode code 608 = .ok (.istore 6, 2) := by decide +kernel
theorem d_L_law_610 : decode code 610 = .ok (.aload_n 2, 1) := by decide +kernel
theorem d_L_law_611 : decode code 611 = .ok (.invokevirtual 54, 3) := by decide +kernel
theorem d_L_law_614 : decode code 614 = .ok (.iload 5, 2) := by decide +kernel
theorem d_L_law_616 : decode code 616 = .ok (.if_icmp .eq 5, 3) := by decide +kernel
theorem d_L_law_619 : decode code 619 = .ok (.iconst 0, 1) := by decide +kernel
theorem d_L_law_620 : decode code 620 = .ok (.ireturn, 1) := by decide +kernel
theorem d_L_law_621 : decode code 621 = .ok (.iload 5, 2) := by decide +kernel
theorem d_L_law_623 : decode code 623 = .ok (.ifCond .ne 15, 3) := by decide +kernel
theorem d_L_law_626 : decode code 626 = .ok (.aload_n 3, 1) := by decide +kernel
theorem d_L_law_627 : decode code 627 = .ok (.iconst 0, 1) := by decide +kernel
theorem d_L_law_628 : decode code 628 = .ok (.laload, 1) := by decide +kernel
theorem d_L_law_629 : decode code 629 = .ok (.iload 6, 2) := by decide +kernel
theorem d_L_law_631 : decode code 631 = .ok (.i2l, 1) := by decide +kernel
theorem d_L_law_632 : decode code 632 = .ok (.lcmp, 1) := by decide +kernel
theorem d_L_law_633 : decode code 633 = .ok (.ifCond .eq 5, 3) := by decide +kernel
theorem d_L_law_636 : decode code 636 = .ok (.iconst 0, 1) := by decide +kernel
theorem d_L_law_637 : decode code 637 = .ok (.ireturn, 1) := by decide +kernel
theorem d_L_law_638 : decode code 638 = .ok (.goto 3, 3) := by decide +kernel
theorem d_L_law_641 : decode code 641 = .ok (.iinc 4 6, 3) := by decide +kernel
theorem d_L_law_644 : decode code 644 = .ok (.goto (-621), 3) := by decide +kernel
theorem d_L_law_647 : decode code 647 = .ok (.iconst 1, 1) := by decide +kernel
theorem d_L_law_648 : decode code 648 = .ok (.ireturn, 1) := by decide +kernel
