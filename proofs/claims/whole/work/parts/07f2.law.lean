theorem zd_L_law_472 : decode zb_L_law 472 = .ok (.iload_n 3, 1) := by decide +kernel
theorem zd_L_law_473 : decode zb_L_law 473 = .ok (.iconst 1, 1) := by decide +kernel
theorem zd_L_law_474 : decode zb_L_law 474 = .ok (.iadd, 1) := by decide +kernel
theorem zd_L_law_475 : decode zb_L_law 475 = .ok (.iaload, 1) := by decide +kernel
theorem zd_L_law_476 : decode zb_L_law 476 = .ok (.aload_n 0, 1) := by decide +kernel
theorem zd_L_law_477 : decode zb_L_law 477 = .ok (.iload_n 3, 1) := by decide +kernel
theorem zd_L_law_478 : decode zb_L_law 478 = .ok (.iconst 2, 1) := by decide +kernel
theorem zd_L_law_479 : decode zb_L_law 479 = .ok (.iadd, 1) := by decide +kernel
theorem zd_L_law_480 : decode zb_L_law 480 = .ok (.iaload, 1) := by decide +kernel
theorem zd_L_law_481 : decode zb_L_law 481 = .ok (.invokevirtual 70, 3) := by decide +kernel
theorem zd_L_law_484 : decode zb_L_law 484 = .ok (.if_icmp .eq 153, 3) := by decide +kernel
theorem zd_L_law_487 : decode zb_L_law 487 = .ok (.iconst 0, 1) := by decide +kernel
theorem zd_L_law_488 : decode zb_L_law 488 = .ok (.ireturn, 1) := by decide +kernel
theorem zd_L_law_489 : decode zb_L_law 489 = .ok (.aload_n 1, 1) := by decide +kernel
theorem zd_L_law_490 : decode zb_L_law 490 = .ok (.aload_n 0, 1) := by decide +kernel
theorem zd_L_law_491 : decode zb_L_law 491 = .ok (.iload_n 3, 1) := by decide +kernel
theorem zd_L_law_492 : decode zb_L_law 492 = .ok (.iconst 1, 1) := by decide +kernel
theorem zd_L_law_493 : decode zb_L_law 493 = .ok (.iadd, 1) := by decide +kernel
theorem zd_L_law_494 : decode zb_L_law 494 = .ok (.iaload, 1) := by decide +kernel
theorem zd_L_law_495 : decode zb_L_law 495 = .ok (.aload_n 0, 1) := by decide +kernel
theorem zd_L_law_496 : decode zb_L_law 496 = .ok (.iload_n 3, 1) := by decide +kernel
theorem zd_L_law_497 : decode zb_L_law 497 = .ok (.iconst 2, 1) := by decide +kernel
theorem zd_L_law_498 : decode zb_L_law 498 = .ok (.iadd, 1) := by decide +kernel
theorem zd_L_law_499 : decode zb_L_law 499 = .ok (.iaload, 1) := by decide +kernel
theorem zd_L_law_500 : decode zb_L_law 500 = .ok (.invokevirtual 71, 3) := by decide +kernel
theorem zd_L_law_503 : decode zb_L_law 503 = .ok (.aload_n 2, 1) := by decide +kernel
theorem zd_L_law_504 : decode zb_L_law 504 = .ok (.aload_n 0, 1) := by decide +kernel
theorem zd_L_law_505 : decode zb_L_law 505 = .ok (.iload_n 3, 1) := by decide +kernel
theorem zd_L_law_506 : decode zb_L_law 506 = .ok (.iconst 1, 1) := by decide +kernel
theorem zd_L_law_507 : decode zb_L_law 507 = .ok (.iadd, 1) := by decide +kernel
theorem zd_L_law_508 : decode zb_L_law 508 = .ok (.iaload, 1) := by decide +kernel
theorem zd_L_law_509 : decode zb_L_law 509 = .ok (.aload_n 0, 1) := by decide +kernel
theorem zd_L_law_510 : decode zb_L_law 510 = .ok (.iload_n 3, 1) := by decide +kernel
theorem zd_L_law_511 : decode zb_L_law 511 = .ok (.iconst 2, 1) := by decide +kernel
theorem zd_L_law_512 : decode zb_L_law 512 = .ok (.iadd, 1) := by decide +kernel
theorem zd_L_law_513 : decode zb_L_law 513 = .ok (.iaload, 1) := by decide +kernel
theorem zd_L_law_514 : decode zb_L_law 514 = .ok (.invokevirtual 74, 3) := by decide +kernel
theorem zd_L_law_517 : decode zb_L_law 517 = .ok (.if_icmp .eq 120, 3) := by decide +kernel
theorem zd_L_law_520 : decode zb_L_law 520 = .ok (.iconst 0, 1) := by decide +kernel
theorem zd_L_law_521 : decode zb_L_law 521 = .ok (.ireturn, 1) := by decide +kernel
theorem zd_L_law_522 : decode zb_L_law 522 = .ok (.aload_n 1, 1) := by decide +kernel
theorem zd_L_law_523 : decode zb_L_law 523 = .ok (.aload_n 0, 1) := by decide +kernel
theorem zd_L_law_524 : decode zb_L_law 524 = .ok (.iload_n 3, 1) := by decide +kernel
theorem zd_L_law_525 : decode zb_L_law 525 = .ok (.iconst 1, 1) := by decide +kernel
theorem zd_L_law_526 : decode zb_L_law 526 = .ok (.iadd, 1) := by decide +kernel
theorem zd_L_law_527 : decode zb_L_law 527 = .ok (.iaload, 1) := by decide +kernel
theorem zd_L_law_528 : decode zb_L_law 528 = .ok (.invokevirtual 75, 3) := by decide +kernel
theorem zd_L_law_531 : decode zb_L_law 531 = .ok (.aload_n 2, 1) := by decide +kernel
theorem zd_L_law_532 : decode zb_L_law 532 = .ok (.aload_n 0, 1) := by decide +kernel
theorem zd_L_law_533 : decode zb_L_law 533 = .ok (.iload_n 3, 1) := by decide +kernel
theorem zd_L_law_534 : decode zb_L_law 534 = .ok (.iconst 1, 1) := by decide +kernel
theorem zd_L_law_535 : decode zb_L_law 535 = .ok (.iadd, 1) := by decide +kernel
theorem zd_L_law_536 : decode zb_L_law 536 = .ok (.iaload, 1) := by decide +kernel
theorem zd_L_law_537 : decode zb_L_law 537 = .ok (.invokevirtual 78, 3) := by decide +kernel
theorem zd_L_law_540 : decode zb_L_law 540 = .ok (.if_icmp .eq 97, 3) := by decide +kernel
theorem zd_L_law_543 : decode zb_L_law 543 = .ok (.iconst 0, 1) := by decide +kernel
theorem zd_L_law_544 : decode zb_L_law 544 = .ok (.ireturn, 1) := by decide +kernel
theorem zd_L_law_545 : decode zb_L_law 545 = .ok (.aload_n 1, 1) := by decide +kernel
theorem zd_L_law_546 : decode zb_L_law 546 = .ok (.aload_n 0, 1) := by decide +kernel
theorem zd_L_law_547 : decode zb_L_law 547 = .ok (.iload_n 3, 1) := by decide +kernel
theorem zd_L_law_548 : decode zb_L_law 548 = .ok (.iconst 1, 1) := by decide +kernel
theorem zd_L_law_549 : decode zb_L_law 549 = .ok (.iadd, 1) := by decide +kernel
theorem zd_L_law_550 : decode zb_L_law 550 = .ok (.iaload, 1) := by decide +kernel
theorem zd_L_law_551 : decode zb_L_law 551 = .ok (.invokevirtual 79, 3) := by decide +kernel
theorem zd_L_law_554 : decode zb_L_law 554 = .ok (.aload_n 2, 1) := by decide +kernel
theorem zd_L_law_555 : decode zb_L_law 555 = .ok (.aload_n 0, 1) := by decide +kernel
theorem zd_L_law_556 : decode zb_L_law 556 = .ok (.iload_n 3, 1) := by decide +kernel
theorem zd_L_law_557 : decode zb_L_law 557 = .ok (.iconst 1, 1) := by decide +kernel
theorem zd_L_law_558 : decode zb_L_law 558 = .ok (.iadd, 1) := by decide +kernel
theorem zd_L_law_559 : decode zb_L_law 559 = .ok (.iaload, 1) := by decide +kernel
theorem zd_L_law_560 : decode zb_L_law 560 = .ok (.invokevirtual 82, 3) := by decide +kernel
theorem zd_L_law_563 : decode zb_L_law 563 = .ok (.if_icmp .eq 74, 3) := by decide +kernel
theorem zd_L_law_566 : decode zb_L_law 566 = .ok (.iconst 0, 1) := by decide +kernel
theorem zd_L_law_567 : decode zb_L_law 567 = .ok (.ireturn, 1) := by decide +kernel
theorem zd_L_law_568 : decode zb_L_law 568 = .ok (.aload_n 1, 1) := by decide +kernel
theorem zd_L_law_569 : decode zb_L_law 569 = .ok (.aload_n 0, 1) := by decide +kernel
theorem zd_L_law_570 : decode zb_L_law 570 = .ok (.iload_n 3, 1) := by decide +kernel
theorem zd_L_law_571 : decode zb_L_law 571 = .ok (.iconst 1, 1) := by decide +kernel
theorem zd_L_law_572 : decode zb_L_law 572 = .ok (.iadd, 1) := by decide +kernel
theorem zd_L_law_573 : decode zb_L_law 573 = .ok (.iaload, 1) := by decide +kernel
theorem zd_L_law_574 : decode zb_L_law 574 = .ok (.invokevirtual 83, 3) := by decide +kernel
theorem zd_L_law_577 : decode zb_L_law 577 = .ok (.aload_n 2, 1) := by decide +kernel
theorem zd_L_law_578 : decode zb_L_law 578 = .ok (.aload_n 0, 1) := by decide +kernel
theorem zd_L_law_579 : decode zb_L_law 579 = .ok (.iload_n 3, 1) := by decide +kernel
theorem zd_L_law_580 : decode zb_L_law 580 = .ok (.iconst 1, 1) := by decide +kernel
theorem zd_L_law_581 : decode zb_L_law 581 = .ok (.iadd, 1) := by decide +kernel
theorem zd_L_law_582 : decode zb_L_law 582 = .ok (.iaload, 1) := by decide +kernel
theorem zd_L_law_583 : decode zb_L_law 583 = .ok (.invokevirtual 86, 3) := by decide +kernel
theorem zd_L_law_586 : decode zb_L_law 586 = .ok (.if_icmp .eq 51, 3) := by decide +kernel
theorem zd_L_law_589 : decode zb_L_law 589 = .ok (.iconst 0, 1) := by decide +kernel
theorem zd_L_law_590 : decode zb_L_law 590 = .ok (.ireturn, 1) := by decide +kernel
theorem zd_L_law_591 : decode zb_L_law 591 = .ok (.aload_n 1, 1) := by decide +kernel
theorem zd_L_law_592 : decode zb_L_law 592 = .ok (.aload_n 0, 1) := by decide +kernel
theorem zd_L_law_593 : decode zb_L_law 593 = .ok (.iload_n 3, 1) := by decide +kernel
theorem zd_L_law_594 : decode zb_L_law 594 = .ok (.iconst 1, 1) := by decide +kernel
theorem zd_L_law_595 : decode zb_L_law 595 = .ok (.iadd, 1) := by decide +kernel
theorem zd_L_law_596 : decode zb_L_law 596 = .ok (.iaload, 1) := by decide +kernel
theorem zd_L_law_597 : decode zb_L_law 597 = .ok (.invokevirtual 87, 3) := by decide +kernel
theorem zd_L_law_600 : decode zb_L_law 600 = .ok (.aload_n 2, 1) := by decide +kernel
theorem zd_L_law_601 : decode zb_L_law 601 = .ok (.aload_n 0, 1) := by decide +kernel
theorem zd_L_law_602 : decode zb_L_law 602 = .ok (.iload_n 3, 1) := by decide +kernel
theorem zd_L_law_603 : decode zb_L_law 603 = .ok (.iconst 1, 1) := by decide +kernel
theorem zd_L_law_604 : decode zb_L_law 604 = .ok (.iadd, 1) := by decide +kernel
theorem zd_L_law_605 : decode zb_L_law 605 = .ok (.iaload, 1) := by decide +kernel
theorem zd_L_law_606 : decode zb_L_law 606 = .ok (.invokevirtual 90, 3) := by decide +kernel
theorem zd_L_law_609 : decode zb_L_law 609 = .ok (.if_icmp .eq 28, 3) := by decide +kernel
theorem zd_L_law_612 : decode zb_L_law 612 = .ok (.iconst 0, 1) := by decide +kernel
theorem zd_L_law_613 : decode zb_L_law 613 = .ok (.ireturn, 1) := by decide +kernel
theorem zd_L_law_614 : decode zb_L_law 614 = .ok (.aload_n 1, 1) := by decide +kernel
theorem zd_L_law_615 : decode zb_L_law 615 = .ok (.aload_n 0, 1) := by decide +kernel
theorem zd_L_law_616 : decode zb_L_law 616 = .ok (.iload_n 3, 1) := by decide +kernel
theorem zd_L_law_617 : decode zb_L_law 617 = .ok (.iconst 1, 1) := by decide +kernel
theorem zd_L_law_618 : decode zb_L_law 618 = .ok (.iadd, 1) := by decide +kernel
theorem zd_L_law_619 : decode zb_L_law 619 = .ok (.iaload, 1) := by decide +kernel
theorem zd_L_law_620 : decode zb_L_law 620 = .ok (.invokevirtual 91, 3) := by decide +kernel
theorem zd_L_law_623 : decode zb_L_law 623 = .ok (.aload_n 2, 1) := by decide +kernel
theorem zd_L_law_624 : decode zb_L_law 624 = .ok (.aload_n 0, 1) := by decide +kernel
theorem zd_L_law_625 : decode zb_L_law 625 = .ok (.iload_n 3, 1) := by decide +kernel
theorem zd_L_law_626 : decode zb_L_law 626 = .ok (.iconst 1, 1) := by decide +kernel
theorem zd_L_law_627 : decode zb_L_law 627 = .ok (.iadd, 1) := by decide +kernel
theorem zd_L_law_628 : decode zb_L_law 628 = .ok (.iaload, 1) := by decide +kernel
theorem zd_L_law_629 : decode zb_L_law 629 = .ok (.invokevirtual 94, 3) := by decide +kernel
theorem zd_L_law_632 : decode zb_L_law 632 = .ok (.if_icmp .eq 5, 3) := by decide +kernel
theorem zd_L_law_635 : decode zb_L_law 635 = .ok (.iconst 0, 1) := by decide +kernel
theorem zd_L_law_636 : decode zb_L_law 636 = .ok (.ireturn, 1) := by decide +kernel
theorem zd_L_law_637 : decode zb_L_law 637 = .ok (.iinc 3 4, 3) := by decide +kernel
theorem zd_L_law_640 : decode zb_L_law 640 = .ok (.goto (-582), 3) := by decide +kernel
theorem zd_L_law_643 : decode zb_L_law 643 = .ok (.iconst 1, 1) := by decide +kernel
theorem zd_L_law_644 : decode zb_L_law 644 = .ok (.ireturn, 1) := by decide +kernel
