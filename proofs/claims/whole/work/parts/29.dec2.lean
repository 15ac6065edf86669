theorem d_Law_law_495 : decode code 495 = .ok (.iload_n 3, 1) := by decide +kernel
theorem d_Law_law_496 : decode code 496 = .ok (.iconst 2, 1) := by decide +kernel
theorem d_Law_law_497 : decode code 497 = .ok (.iadd, 1) := by decide +kernel
theorem d_Law_law_498 : decode code 498 = .ok (.iaload, 1) := by decide +kernel
theorem d_Law_law_499 : decode code 499 = .ok (.aload_n 0, 1) := by decide +kernel
theorem d_Law_law_500 : decode code 500 = .ok (.iload_n 3, 1) := by decide +kernel
theorem d_Law_law_501 : decode code 501 = .ok (.iconst 3, 1) := by decide +kernel
theorem d_Law_law_502 : decode code 502 = .ok (.iadd, 1) := by decide +kernel
theorem d_Law_law_503 : decode code 503 = .ok (.iaload, 1) := by decide +kernel
theorem d_Law_law_504 : decode code 504 = .ok (.invokevirtual 56, 3) := by decide +kernel
theorem d_Law_law_507 : decode code 507 = .ok (.if_icmp .eq 816, 3) := by decide +kernel
theorem d_Law_law_510 : decode code 510 = .ok (.iconst 0, 1) := by decide +kernel
theorem d_Law_law_512 : decode code 512 = .ok (.aload_n 1, 1) := by decide +kernel
theorem d_Law_law_513 : decode code 513 = .ok (.aload_n 0, 1) := by decide +kernel
theorem d_Law_law_514 : decode code 514 = .ok (.iload_n 3, 1) := by decide +kernel
theorem d_Law_law_515 : decode code 515 = .ok (.iconst 1, 1) := by decide +kernel
theorem d_Law_law_516 : decode code 516 = .ok (.iadd, 1) := by decide +kernel
theorem d_Law_law_517 : decode code 517 = .ok (.iaload, 1) := by decide +kernel
theorem d_Law_law_518 : decode code 518 = .ok (.aload_n 0, 1) := by decide +kernel
theorem d_Law_law_519 : decode code 519 = .ok (.iload_n 3, 1) := by decide +kernel
theorem d_Law_law_520 : decode code 520 = .ok (.iconst 2, 1) := by decide +kernel
theorem d_Law_law_521 : decode code 521 = .ok (.iadd, 1) := by decide +kernel
theorem d_Law_law_522 : decode code 522 = .ok (.iaload, 1) := by decide +kernel
theorem d_Law_law_523 : decode code 523 = .ok (.aload_n 0, 1) := by decide +kernel
theorem d_Law_law_524 : decode code 524 = .ok (.iload_n 3, 1) := by decide +kernel
theorem d_Law_law_525 : decode code 525 = .ok (.iconst 3, 1) := by decide +kernel
theorem d_Law_law_526 : decode code 526 = .ok (.iadd, 1) := by decide +kernel
theorem d_Law_law_527 : decode code 527 = .ok (.iaload, 1) := by decide +kernel
theorem d_Law_law_528 : decode code 528 = .ok (.invokevirtual 57, 3) := by decide +kernel
theorem d_Law_law_531 : decode code 531 = .ok (.aload_n 2, 1) := by decide +kernel
theorem d_Law_law_532 : decode code 532 = .ok (.aload_n 0, 1) := by decide +kernel
theorem d_Law_law_533 : decode code 533 = .ok (.iload_n 3, 1) := by decide +kernel
theorem d_Law_law_534 : decode code 534 = .ok (.iconst 1, 1) := by decide +kernel
theorem d_Law_law_535 : decode code 535 = .ok (.iadd, 1) := by decide +kernel
theorem d_Law_law_536 : decode code 536 = .ok (.iaload, 1) := by decide +kernel
theorem d_Law_law_537 : decode code 537 = .ok (.aload_n 0, 1) := by decide +kernel
theorem d_Law_law_538 : decode code 538 = .ok (.iload_n 3, 1) := by decide +kernel
theorem d_Law_law_539 : decode code 539 = .ok (.iconst 2, 1) := by decide +kernel
theorem d_Law_law_540 : decode code 540 = .ok (.iadd, 1) := by decide +kernel
theorem d_Law_law_541 : decode code 541 = .ok (.iaload, 1) := by decide +kernel
theorem d_Law_law_542 : decode code 542 = .ok (.aload_n 0, 1) := by decide +kernel
theorem d_Law_law_543 : decode code 543 = .ok (.iload_n 3, 1) := by decide +kernel
theorem d_Law_law_544 : decode code 544 = .ok (.iconst 3, 1) := by decide +kernel
theorem d_Law_law_545 : decode code 545 = .ok (.iadd, 1) := by decide +kernel
theorem d_Law_law_546 : decode code 546 = .ok (.iaload, 1) := by decide +kernel
theorem d_Law_law_547 : decode code 547 = .ok (.invokevirtual 60, 3) := by decide +kernel
theorem d_Law_law_550 : decode code 550 = .ok (.if_icmp .eq 773, 3) := by decide +kernel
theorem d_Law_law_553 : decode code 553 = .ok (.iconst 0, 1) := by decide +kernel
theorem d_Law_law_555 : decode code 555 = .ok (.aload_n 1, 1) := by decide +kernel
theorem d_Law_law_556 : decode code 556 = .ok (.aload_n 0, 1) := by decide +kernel
theorem d_Law_law_557 : decode code 557 = .ok (.iload_n 3, 1) := by decide +kernel
theorem d_Law_law_558 : decode code 558 = .ok (.iconst 1, 1) := by decide +kernel
theorem d_Law_law_559 : decode code 559 = .ok (.iadd, 1) := by decide +kernel
theorem d_Law_law_560 : decode code 560 = .ok (.iaload, 1) := by decide +kernel
theorem d_Law_law_561 : decode code 561 = .ok (.invokevirtual 61, 3) := by decide +kernel
theorem d_Law_law_564 : decode code 564 = .ok (.aload_n 2, 1) := by decide +kernel
theorem d_Law_law_565 : decode code 565 = .ok (.aload_n 0, 1) := by decide +kernel
theorem d_Law_law_566 : decode code 566 = .ok (.iload_n 3, 1) := by decide +kernel
theorem d_Law_law_567 : decode code 567 = .ok (.iconst 1, 1) := by decide +kernel
theorem d_Law_law_568 : decode code 568 = .ok (.iadd, 1) := by decide +kernel
theorem d_Law_law_569 : decode code 569 = .ok (.iaload, 1) := by decide +kernel
theorem d_Law_law_570 : decode code 570 = .ok (.invokevirtual 64, 3) := by decide +kernel
theorem d_Law_law_573 : decode code 573 = .ok (.if_icmp .eq 750, 3) := by decide +kernel
theorem d_Law_law_576 : decode code 576 = .ok (.iconst 0, 1) := by decide +kernel
theorem d_Law_law_578 : decode code 578 = .ok (.aload_n 1, 1) := by decide +kernel
theorem d_Law_law_579 : decode code 579 = .ok (.aload_n 0, 1) := by decide +kernel
theorem d_Law_law_580 : decode code 580 = .ok (.iload_n 3, 1) := by decide +kernel
theorem d_Law_law_581 : decode code 581 = .ok (.iconst 1, 1) := by decide +kernel
theorem d_Law_law_582 : decode code 582 = .ok (.iadd, 1) := by decide +kernel
theorem d_Law_law_583 : decode code 583 = .ok (.iaload, 1) := by decide +kernel
theorem d_Law_law_584 : decode code 584 = .ok (.invokevirtual 65, 3) := by decide +kernel
theorem d_Law_law_587 : decode code 587 = .ok (.aload_n 2, 1) := by decide +kernel
theorem d_Law_law_588 : decode code 588 = .ok (.aload_n 0, 1) := by decide +kernel
theorem d_Law_law_589 : decode code 589 = .ok (.iload_n 3, 1) := by decide +kernel
theorem d_Law_law_590 : decode code 590 = .ok (.iconst 1, 1) := by decide +kernel
theorem d_Law_law_591 : decode code 591 = .ok (.iadd, 1) := by decide +kernel
theorem d_Law_law_592 : decode code 592 = .ok (.iaload, 1) := by decide +kernel
theorem d_Law_law_593 : decode code 593 = .ok (.invokevirtual 68, 3) := by decide +kernel
theorem d_Law_law_596 : decode code 596 = .ok (.if_icmp .eq 727, 3) := by decide +kernel
theorem d_Law_law_599 : decode code 599 = .ok (.iconst 0, 1) := by decide +kernel
theorem d_Law_law_601 : decode code 601 = .ok (.aload_n 1, 1) := by decide +kernel
theorem d_Law_law_602 : decode code 602 = .ok (.aload_n 0, 1) := by decide +kernel
theorem d_Law_law_603 : decode code 603 = .ok (.iload_n 3, 1) := by decide +kernel
theorem d_Law_law_604 : decode code 604 = .ok (.iconst 1, 1) := by decide +kernel
theorem d_Law_law_605 : decode code 605 = .ok (.iadd, 1) := by decide +kernel
theorem d_Law_law_606 : decode code 606 = .ok (.iaload, 1) := by decide +kernel
theorem d_Law_law_607 : decode code 607 = .ok (.aload_n 0, 1) := by decide +kernel
theorem d_Law_law_608 : decode code 608 = .ok (.iload_n 3, 1) := by decide +kernel
theorem d_Law_law_609 : decode code 609 = .ok (.iconst 2, 1) := by decide +kernel
theorem d_Law_law_610 : decode code 610 = .ok (.iadd, 1) := by decide +kernel
theorem d_Law_law_611 : decode code 611 = .ok (.iaload, 1) := by decide +kernel
theorem d_Law_law_612 : decode code 612 = .ok (.invokevirtual 69, 3) := by decide +kernel
theorem d_Law_law_615 : decode code 615 = .ok (.aload_n 2, 1) := by decide +kernel
theorem d_Law_law_616 : decode code 616 = .ok (.aload_n 0, 1) := by decide +kernel
theorem d_Law_law_617 : decode code 617 = .ok (.iload_n 3, 1) := by decide +kernel
theorem d_Law_law_618 : decode code 618 = .ok (.iconst 1, 1) := by decide +kernel
theorem d_Law_law_619 : decode code 619 = .ok (.iadd, 1) := by decide +kernel
theorem d_Law_law_620 : decode code 620 = .ok (.iaload, 1) := by decide +kernel
theorem d_Law_law_621 : decode code 621 = .ok (.aload_n 0, 1) := by decide +kernel
theorem d_Law_law_622 : decode code 622 = .ok (.iload_n 3, 1) := by decide +kernel
theorem d_Law_law_623 : decode code 623 = .ok (.iconst 2, 1) := by decide +kernel
theorem d_Law_law_624 : decode code 624 = .ok (.iadd, 1) := by decide +kernel
theorem d_Law_law_625 : decode code 625 = .ok (.iaload, 1) := by decide +kernel
theorem d_Law_law_626 : decode code 626 = .ok (.invokevirtual 72, 3) := by decide +kernel
theorem d_Law_law_629 : decode code 629 = .ok (.if_icmp .eq 694, 3) := by decide +kernel
theorem d_Law_law_632 : decode code 632 = .ok (.iconst 0, 1) := by decide +kernel
theorem d_Law_law_634 : decode code 634 = .ok (.aload_n 1, 1) := by decide +kernel
theorem d_Law_law_635 : decode code 635 = .ok (.invokevirtual 73, 3) := by decide +kernel
theorem d_Law_law_638 : decode code 638 = .ok (.aload_n 2, 1) := by decide +kernel
theorem d_Law_law_639 : decode code 639 = .ok (.invokevirtual 76, 3) := by decide +kernel
theorem d_Law_law_642 : decode code 642 = .ok (.if_icmp .eq 681, 3) := by decide +kernel
theorem d_Law_law_645 : decode code 645 = .ok (.iconst 0, 1) := by decide +kernel
theorem d_Law_law_647 : decode code 647 = .ok (.aload_n 1, 1) := by decide +kernel
theorem d_Law_law_648 : decode code 648 = .ok (.aload_n 0, 1) := by decide +kernel
theorem d_Law_law_649 : decode code 649 = .ok (.iload_n 3, 1) := by decide +kernel
theorem d_Law_law_650 : decode code 650 = .ok (.iconst 1, 1) := by decide +kernel
theorem d_Law_law_651 : decode code 651 = .ok (.iadd, 1) := by decide +kernel
theorem d_Law_law_652 : decode code 652 = .ok (.iaload, 1) := by decide +kernel
theorem d_Law_law_653 : decode code 653 = .ok (.invokevirtual 77, 3) := by decide +kernel
theorem d_Law_law_656 : decode code 656 = .ok (.aload_n 2, 1) := by decide +kernel
theorem d_Law_law_657 : decode code 657 = .ok (.aload_n 0, 1) := by decide +kernel
theorem d_Law_law_658 : decode code 658 = .ok (.iload_n 3, 1) := by decide +kernel
theorem d_Law_law_659 : decode code 659 = .ok (.iconst 1, 1) := by decide +kernel
theorem d_Law_law_660 : decode code 660 = .ok (.iadd, 1) := by decide +kernel
theorem d_Law_law_661 : decode code 661 = .ok (.iaload, 1) := by decide +kernel
theorem d_Law_law_662 : decode code 662 = .ok (.invokevirtual 80, 3) := by decide +kernel
theorem d_Law_law_665 : decode code 665 = .ok (.if_icmp .eq 658, 3) := by decide +kernel
theorem d_Law_law_668 : decode code 668 = .ok (.iconst 0, 1) := by decide +kernel
theorem d_Law_law_670 : decode code 670 = .ok (.aload_n 1, 1) := by decide +kernel
theorem d_Law_law_671 : decode code 671 = .ok (.aload_n 0, 1) := by decide +kernel
