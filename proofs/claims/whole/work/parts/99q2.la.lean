theorem d_La_law_518 : decode code 518 = .ok (.invokevirtual 53, 3) := by decide +kernel
theorem d_La_law_521 : decode code 521 = .ok (.aload_n 2, 1) := by decide +kernel
theorem d_La_law_522 : decode code 522 = .ok (.aload_n 0, 1) := by decide +kernel
theorem d_La_law_523 : decode code 523 = .ok (.iload_n 3, 1) := by decide +kernel
theorem d_La_law_524 : decode code 524 = .ok (.iconst 1, 1) := by decide +kernel
theorem d_La_law_525 : decode code 525 = .ok (.iadd, 1) := by decide +kernel
theorem d_La_law_526 : decode code 526 = .ok (.iaload, 1) := by decide +kernel
theorem d_La_law_527 : decode code 527 = .ok (.aload_n 0, 1) := by decide +kernel
theorem d_La_law_528 : decode code 528 = .ok (.iload_n 3, 1) := by decide +kernel
theorem d_La_law_529 : decode code 529 = .ok (.iconst 2, 1) := by decide +kernel
theorem d_La_law_530 : decode code 530 = .ok (.iadd, 1) := by decide +kernel
theorem d_La_law_531 : decode code 531 = .ok (.iaload, 1) := by decide +kernel
theorem d_La_law_532 : decode code 532 = .ok (.invokevirtual 56, 3) := by decide +kernel
theorem d_La_law_535 : decode code 535 = .ok (.if_icmp .eq 986, 3) := by decide +kernel
theorem d_La_law_538 : decode code 538 = .ok (.iconst 0, 1) := by decide +kernel
theorem d_La_law_539 : decode code 539 = .ok (.ireturn, 1) := by decide +kernel
theorem d_La_law_540 : decode code 540 = .ok (.aload_n 1, 1) := by decide +kernel
theorem d_La_law_541 : decode code 541 = .ok (.aload_n 0, 1) := by decide +kernel
theorem d_La_law_542 : decode code 542 = .ok (.iload_n 3, 1) := by decide +kernel
theorem d_La_law_543 : decode code 543 = .ok (.iconst 1, 1) := by decide +kernel
theorem d_La_law_544 : decode code 544 = .ok (.iadd, 1) := by decide +kernel
theorem d_La_law_545 : decode code 545 = .ok (.iaload, 1) := by decide +kernel
theorem d_La_law_546 : decode code 546 = .ok (.aload_n 0, 1) := by decide +kernel
theorem d_La_law_547 : decode code 547 = .ok (.iload_n 3, 1) := by decide +kernel
theorem d_La_law_548 : decode code 548 = .ok (.iconst 2, 1) := by decide +kernel
theorem d_La_law_549 : decode code 549 = .ok (.iadd, 1) := by decide +kernel
theorem d_La_law_550 : decode code 550 = .ok (.iaload, 1) := by decide +kernel
theorem d_La_law_551 : decode code 551 = .ok (.aload_n 0, 1) := by decide +kernel
theorem d_La_law_552 : decode code 552 = .ok (.iload_n 3, 1) := by decide +kernel
theorem d_La_law_553 : decode code 553 = .ok (.iconst 3, 1) := by decide +kernel
theorem d_La_law_554 : decode code 554 = .ok (.iadd, 1) := by decide +kernel
theorem d_La_law_555 : decode code 555 = .ok (.iaload, 1) := by decide +kernel
theorem d_La_law_556 : decode code 556 = .ok (.invokevirtual 57, 3) := by decide +kernel
theorem d_La_law_559 : decode code 559 = .ok (.aload_n 2, 1) := by decide +kernel
theorem d_La_law_560 : decode code 560 = .ok (.aload_n 0, 1) := by decide +kernel
theorem d_La_law_561 : decode code 561 = .ok (.iload_n 3, 1) := by decide +kernel
theorem d_La_law_562 : decode code 562 = .ok (.iconst 1, 1) := by decide +kernel
theorem d_La_law_563 : decode code 563 = .ok (.iadd, 1) := by decide +kernel
theorem d_La_law_564 : decode code 564 = .ok (.iaload, 1) := by decide +kernel
theorem d_La_law_565 : decode code 565 = .ok (.aload_n 0, 1) := by decide +kernel
theorem d_La_law_566 : decode code 566 = .ok (.iload_n 3, 1) := by decide +kernel
theorem d_La_law_567 : decode code 567 = .ok (.iconst 2, 1) := by decide +kernel
theorem d_La_law_568 : decode code 568 = .ok (.iadd, 1) := by decide +kernel
theorem d_La_law_569 : decode code 569 = .ok (.iaload, 1) := by decide +kernel
theorem d_La_law_570 : decode code 570 = .ok (.aload_n 0, 1) := by decide +kernel
theorem d_La_law_571 : decode code 571 = .ok (.iload_n 3, 1) := by decide +kernel
theorem d_La_law_572 : decode code 572 = .ok (.iconst 3, 1) := by decide +kernel
theorem d_La_law_573 : decode code 573 = .ok (.iadd, 1) := by decide +kernel
theorem d_La_law_574 : decode code 574 = .ok (.iaload, 1) := by decide +kernel
theorem d_La_law_575 : decode code 575 = .ok (.invokevirtual 61, 3) := by decide +kernel
theorem d_La_law_578 : decode code 578 = .ok (.lcmp, 1) := by decide +kernel
theorem d_La_law_579 : decode code 579 = .ok (.ifCond .eq 942, 3) := by decide +kernel
theorem d_La_law_582 : decode code 582 = .ok (.iconst 0, 1) := by decide +kernel
theorem d_La_law_583 : decode code 583 = .ok (.ireturn, 1) := by decide +kernel
theorem d_La_law_584 : decode code 584 = .ok (.aload_n 1, 1) := by decide +kernel
theorem d_La_law_585 : decode code 585 = .ok (.aload_n 0, 1) := by decide +kernel
theorem d_La_law_586 : decode code 586 = .ok (.iload_n 3, 1) := by decide +kernel
theorem d_La_law_587 : decode code 587 = .ok (.iconst 1, 1) := by decide +kernel
theorem d_La_law_588 : decode code 588 = .ok (.iadd, 1) := by decide +kernel
theorem d_La_law_589 : decode code 589 = .ok (.iaload, 1) := by decide +kernel
theorem d_La_law_590 : decode code 590 = .ok (.aload_n 0, 1) := by decide +kernel
theorem d_La_law_591 : decode code 591 = .ok (.iload_n 3, 1) := by decide +kernel
theorem d_La_law_592 : decode code 592 = .ok (.iconst 2, 1) := by decide +kernel
theorem d_La_law_593 : decode code 593 = .ok (.iadd, 1) := by decide +kernel
theorem d_La_law_594 : decode code 594 = .ok (.iaload, 1) := by decide +kernel
theorem d_La_law_595 : decode code 595 = .ok (.aload_n 0, 1) := by decide +kernel
theorem d_La_law_596 : decode code 596 = .ok (.iload_n 3, 1) := by decide +kernel
theorem d_La_law_597 : decode code 597 = .ok (.iconst 3, 1) := by decide +kernel
theorem d_La_law_598 : decode code 598 = .ok (.iadd, 1) := by decide +kernel
theorem d_La_law_599 : decode code 599 = .ok (.iaload, 1) := by decide +kernel
theorem d_La_law_600 : decode code 600 = .ok (.invokevirtual 62, 3) := by decide +kernel
theorem d_La_law_603 : decode code 603 = .ok (.aload_n 2, 1) := by decide +kernel
theorem d_La_law_604 : decode code 604 = .ok (.aload_n 0, 1) := by decide +kernel
theorem d_La_law_605 : decode code 605 = .ok (.iload_n 3, 1) := by decide +kernel
theorem d_La_law_606 : decode code 606 = .ok (.iconst 1, 1) := by decide +kernel
theorem d_La_law_607 : decode code 607 = .ok (.iadd, 1) := by decide +kernel
theorem d_La_law_608 : decode code 608 = .ok (.iaload, 1) := by decide +kernel
theorem d_La_law_609 : decode code 609 = .ok (.aload_n 0, 1) := by decide +kernel
theorem d_La_law_610 : decode code 610 = .ok (.iload_n 3, 1) := by decide +kernel
theorem d_La_law_611 : decode code 611 = .ok (.iconst 2, 1) := by decide +kernel
theorem d_La_law_612 : decode code 612 = .ok (.iadd, 1) := by decide +kernel
theorem d_La_law_613 : decode code 613 = .ok (.iaload, 1) := by decide +kernel
theorem d_La_law_614 : decode code 614 = .ok (.aload_n 0, 1) := by decide +kernel
theorem d_La_law_615 : decode code 615 = .ok (.iload_n 3, 1) := by decide +kernel
theorem d_La_law_616 : decode code 616 = .ok (.iconst 3, 1) := by decide +kernel
theorem d_La_law_617 : decode code 617 = .ok (.iadd, 1) := by decide +kernel
theorem d_La_law_618 : decode code 618 = .ok (.iaload, 1) := by decide +kernel
theorem d_La_law_619 : decode code 619 = .ok (.invokevirtual 65, 3) := by decide +kernel
theorem d_La_law_622 : decode code 622 = .ok (.if_icmp .eq 899, 3) := by decide +kernel
theorem d_La_law_625 : decode code 625 = .ok (.iconst 0, 1) := by decide +kernel
theorem d_La_law_626 : decode code 626 = .ok (.ireturn, 1) := by decide +kernel
theorem d_La_law_627 : decode code 627 = .ok (.aload_n 1, 1) := by decide +kernel
theorem d_La_law_628 : decode code 628 = .ok (.aload_n 0, 1) := by decide +kernel
theorem d_La_law_629 : decode code 629 = .ok (.iload_n 3, 1) := by decide +kernel
theorem d_La_law_630 : decode code 630 = .ok (.iconst 1, 1) := by decide +kernel
theorem d_La_law_631 : decode code 631 = .ok (.iadd, 1) := by decide +kernel
theorem d_La_law_632 : decode code 632 = .ok (.iaload, 1) := by decide +kernel
theorem d_La_law_633 : decode code 633 = .ok (.aload_n 0, 1) := by decide +kernel
theorem d_La_law_634 : decode code 634 = .ok (.iload_n 3, 1) := by decide +kernel
theorem d_La_law_635 : decode code 635 = .ok (.iconst 2, 1) := by decide +kernel
theorem d_La_law_636 : decode code 636 = .ok (.iadd, 1) := by decide +kernel
theorem d_La_law_637 : decode code 637 = .ok (.iaload, 1) := by decide +kernel
theorem d_La_law_638 : decode code 638 = .ok (.aload_n 0, 1) := by decide +kernel
theorem d_La_law_639 : decode code 639 = .ok (.iload_n 3, 1) := by decide +kernel
theorem d_La_law_640 : decode code 640 = .ok (.iconst 3, 1) := by decide +kernel
theorem d_La_law_641 : decode code 641 = .ok (.iadd, 1) := by decide +kernel
theorem d_La_law_642 : decode code 642 = .ok (.iaload, 1) := by decide +kernel
theorem d_La_law_643 : decode code 643 = .ok (.invokevirtual 66, 3) := by decide +kernel
theorem d_La_law_646 : decode code 646 = .ok (.aload_n 2, 1) := by decide +kernel
theorem d_La_law_647 : decode code 647 = .ok (.aload_n 0, 1) := by decide +kernel
theorem d_La_law_648 : decode code 648 = .ok (.iload_n 3, 1) := by decide +kernel
theorem d_La_law_649 : decode code 649 = .ok (.iconst 1, 1) := by decide +kernel
theorem d_La_law_650 : decode code 650 = .ok (.iadd, 1) := by decide +kernel
theorem d_La_law_651 : decode code 651 = .ok (.iaload, 1) := by decide +kernel
theorem d_La_law_652 : decode code 652 = .ok (.aload_n 0, 1) := by decide +kernel
theorem d_La_law_653 : decode code 653 = .ok (.iload_n 3, 1) := by decide +kernel
theorem d_La_law_654 : decode code 654 = .ok (.iconst 2, 1) := by decide +kernel
theorem d_La_law_655 : decode code 655 = .ok (.iadd, 1) := by decide +kernel
theorem d_La_law_656 : decode code 656 = .ok (.iaload, 1) := by decide +kernel
theorem d_La_law_657 : decode code 657 = .ok (.aload_n 0, 1) := by decide +kernel
theorem d_La_law_658 : decode code 658 = .ok (.iload_n 3, 1) := by decide +kernel
theorem d_La_law_659 : decode code 659 = .ok (.iconst 3, 1) := by decide +kernel
theorem d_La_law_660 : decode code 660 = .ok (.iadd, 1) := by decide +kernel
theorem d_La_law_661 : decode code 661 = .ok (.iaload, 1) := by decide +kernel
theorem d_La_law_662 : decode code 662 = .ok (.invokevirtual 69, 3) := by decide +kernel
theorem d_La_law_665 : decode code 665 = .ok (.if_icmp .eq 856, 3) := by decide +kernel
theorem d_La_law_668 : decode code 668 = .ok (.iconst 0, 1) := by decide +kernel
theorem d_La_law_669 : decode code 669 = .ok (.ireturn, 1) := by decide +kernel
theorem d_La_law_670 : decode code 670 = .ok (.aload_n 1, 1) := by decide +kernel
theorem d_La_law_671 : decode code 671 = .ok (.aload_n 0, 1) := by decide +kernel
theorem d_La_law_672 : decode code 672 = .ok (.iload_n 3, 1) := by decide +kernel
theorem d_La_law_673 : decode code 673 = .ok (.iconst 1, 1) := by decide +kernel
theorem d_La_law_674 : decode code 674 = .ok (.iadd, 1) := by decide +kernel
