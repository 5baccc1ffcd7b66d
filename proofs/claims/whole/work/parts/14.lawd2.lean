theorem d_LW_law_489 : decode b_LW_law 489 = .ok (.iaload, 1) := by decide +kernel
theorem d_LW_law_490 : decode b_LW_law 490 = .ok (.aload_n 0, 1) := by decide +kernel
theorem d_LW_law_491 : decode b_LW_law 491 = .ok (.iload_n 3, 1) := by decide +kernel
theorem d_LW_law_492 : decode b_LW_law 492 = .ok (.iconst 4, 1) := by decide +kernel
theorem d_LW_law_493 : decode b_LW_law 493 = .ok (.iadd, 1) := by decide +kernel
theorem d_LW_law_494 : decode b_LW_law 494 = .ok (.iaload, 1) := by decide +kernel
theorem d_LW_law_495 : decode b_LW_law 495 = .ok (.invokevirtual 52, 3) := by decide +kernel
theorem d_LW_law_498 : decode b_LW_law 498 = .ok (.aload_n 2, 1) := by decide +kernel
theorem d_LW_law_499 : decode b_LW_law 499 = .ok (.aload_n 0, 1) := by decide +kernel
theorem d_LW_law_500 : decode b_LW_law 500 = .ok (.iload_n 3, 1) := by decide +kernel
theorem d_LW_law_501 : decode b_LW_law 501 = .ok (.iconst 1, 1) := by decide +kernel
theorem d_LW_law_502 : decode b_LW_law 502 = .ok (.iadd, 1) := by decide +kernel
theorem d_LW_law_503 : decode b_LW_law 503 = .ok (.iaload, 1) := by decide +kernel
theorem d_LW_law_504 : decode b_LW_law 504 = .ok (.aload_n 0, 1) := by decide +kernel
theorem d_LW_law_505 : decode b_LW_law 505 = .ok (.iload_n 3, 1) := by decide +kernel
theorem d_LW_law_506 : decode b_LW_law 506 = .ok (.iconst 2, 1) := by decide +kernel
theorem d_LW_law_507 : decode b_LW_law 507 = .ok (.iadd, 1) := by decide +kernel
theorem d_LW_law_508 : decode b_LW_law 508 = .ok (.iaload, 1) := by decide +kernel
theorem d_LW_law_509 : decode b_LW_law 509 = .ok (.aload_n 0, 1) := by decide +kernel
theorem d_LW_law_510 : decode b_LW_law 510 = .ok (.iload_n 3, 1) := by decide +kernel
theorem d_LW_law_511 : decode b_LW_law 511 = .ok (.iconst 3, 1) := by decide +kernel
theorem d_LW_law_512 : decode b_LW_law 512 = .ok (.iadd, 1) := by decide +kernel
theorem d_LW_law_513 : decode b_LW_law 513 = .ok (.iaload, 1) := by decide +kernel
theorem d_LW_law_514 : decode b_LW_law 514 = .ok (.aload_n 0, 1) := by decide +kernel
theorem d_LW_law_515 : decode b_LW_law 515 = .ok (.iload_n 3, 1) := by decide +kernel
theorem d_LW_law_516 : decode b_LW_law 516 = .ok (.iconst 4, 1) := by decide +kernel
theorem d_LW_law_517 : decode b_LW_law 517 = .ok (.iadd, 1) := by decide +kernel
theorem d_LW_law_518 : decode b_LW_law 518 = .ok (.iaload, 1) := by decide +kernel
theorem d_LW_law_519 : decode b_LW_law 519 = .ok (.invokevirtual 56, 3) := by decide +kernel
theorem d_LW_law_522 : decode b_LW_law 522 = .ok (.if_icmp .eq 328, 3) := by decide +kernel
theorem d_LW_law_525 : decode b_LW_law 525 = .ok (.iconst 0, 1) := by decide +kernel
theorem d_LW_law_526 : decode b_LW_law 526 = .ok (.ireturn, 1) := by decide +kernel
theorem d_LW_law_527 : decode b_LW_law 527 = .ok (.aload_n 1, 1) := by decide +kernel
theorem d_LW_law_528 : decode b_LW_law 528 = .ok (.aload_n 0, 1) := by decide +kernel
theorem d_LW_law_529 : decode b_LW_law 529 = .ok (.iload_n 3, 1) := by decide +kernel
theorem d_LW_law_530 : decode b_LW_law 530 = .ok (.iconst 1, 1) := by decide +kernel
theorem d_LW_law_531 : decode b_LW_law 531 = .ok (.iadd, 1) := by decide +kernel
theorem d_LW_law_532 : decode b_LW_law 532 = .ok (.iaload, 1) := by decide +kernel
theorem d_LW_law_533 : decode b_LW_law 533 = .ok (.invokevirtual 57, 3) := by decide +kernel
theorem d_LW_law_536 : decode b_LW_law 536 = .ok (.aload_n 2, 1) := by decide +kernel
theorem d_LW_law_537 : decode b_LW_law 537 = .ok (.aload_n 0, 1) := by decide +kernel
theorem d_LW_law_538 : decode b_LW_law 538 = .ok (.iload_n 3, 1) := by decide +kernel
theorem d_LW_law_539 : decode b_LW_law 539 = .ok (.iconst 1, 1) := by decide +kernel
theorem d_LW_law_540 : decode b_LW_law 540 = .ok (.iadd, 1) := by decide +kernel
theorem d_LW_law_541 : decode b_LW_law 541 = .ok (.iaload, 1) := by decide +kernel
theorem d_LW_law_542 : decode b_LW_law 542 = .ok (.invokevirtual 60, 3) := by decide +kernel
theorem d_LW_law_545 : decode b_LW_law 545 = .ok (.if_icmp .eq 305, 3) := by decide +kernel
theorem d_LW_law_548 : decode b_LW_law 548 = .ok (.iconst 0, 1) := by decide +kernel
theorem d_LW_law_549 : decode b_LW_law 549 = .ok (.ireturn, 1) := by decide +kernel
theorem d_LW_law_550 : decode b_LW_law 550 = .ok (.aload_n 1, 1) := by decide +kernel
theorem d_LW_law_551 : decode b_LW_law 551 = .ok (.aload_n 0, 1) := by decide +kernel
theorem d_LW_law_552 : decode b_LW_law 552 = .ok (.iload_n 3, 1) := by decide +kernel
theorem d_LW_law_553 : decode b_LW_law 553 = .ok (.iconst 1, 1) := by decide +kernel
theorem d_LW_law_554 : decode b_LW_law 554 = .ok (.iadd, 1) := by decide +kernel
theorem d_LW_law_555 : decode b_LW_law 555 = .ok (.iaload, 1) := by decide +kernel
theorem d_LW_law_556 : decode b_LW_law 556 = .ok (.invokevirtual 61, 3) := by decide +kernel
theorem d_LW_law_559 : decode b_LW_law 559 = .ok (.aload_n 2, 1) := by decide +kernel
theorem d_LW_law_560 : decode b_LW_law 560 = .ok (.aload_n 0, 1) := by decide +kernel
theorem d_LW_law_561 : decode b_LW_law 561 = .ok (.iload_n 3, 1) := by decide +kernel
theorem d_LW_law_562 : decode b_LW_law 562 = .ok (.iconst 1, 1) := by decide +kernel
theorem d_LW_law_563 : decode b_LW_law 563 = .ok (.iadd, 1) := by decide +kernel
theorem d_LW_law_564 : decode b_LW_law 564 = .ok (.iaload, 1) := by decide +kernel
theorem d_LW_law_565 : decode b_LW_law 565 = .ok (.invokevirtual 64, 3) := by decide +kernel
theorem d_LW_law_568 : decode b_LW_law 568 = .ok (.if_icmp .eq 282, 3) := by decide +kernel
theorem d_LW_law_571 : decode b_LW_law 571 = .ok (.iconst 0, 1) := by decide +kernel
theorem d_LW_law_572 : decode b_LW_law 572 = .ok (.ireturn, 1) := by decide +kernel
theorem d_LW_law_573 : decode b_LW_law 573 = .ok (.aload_n 1, 1) := by decide +kernel
theorem d_LW_law_574 : decode b_LW_law 574 = .ok (.aload_n 0, 1) := by decide +kernel
theorem d_LW_law_575 : decode b_LW_law 575 = .ok (.iload_n 3, 1) := by decide +kernel
theorem d_LW_law_576 : decode b_LW_law 576 = .ok (.iconst 1, 1) := by decide +kernel
theorem d_LW_law_577 : decode b_LW_law 577 = .ok (.iadd, 1) := by decide +kernel
theorem d_LW_law_578 : decode b_LW_law 578 = .ok (.iaload, 1) := by decide +kernel
theorem d_LW_law_579 : decode b_LW_law 579 = .ok (.aload_n 0, 1) := by decide +kernel
theorem d_LW_law_580 : decode b_LW_law 580 = .ok (.iload_n 3, 1) := by decide +kernel
theorem d_LW_law_581 : decode b_LW_law 581 = .ok (.iconst 2, 1) := by decide +kernel
theorem d_LW_law_582 : decode b_LW_law 582 = .ok (.iadd, 1) := by decide +kernel
theorem d_LW_law_583 : decode b_LW_law 583 = .ok (.iaload, 1) := by decide +kernel
theorem d_LW_law_584 : decode b_LW_law 584 = .ok (.invokevirtual 65, 3) := by decide +kernel
theorem d_LW_law_587 : decode b_LW_law 587 = .ok (.aload_n 2, 1) := by decide +kernel
theorem d_LW_law_588 : decode b_LW_law 588 = .ok (.aload_n 0, 1) := by decide +kernel
theorem d_LW_law_589 : decode b_LW_law 589 = .ok (.iload_n 3, 1) := by decide +kernel
theorem d_LW_law_590 : decode b_LW_law 590 = .ok (.iconst 1, 1) := by decide +kernel
theorem d_LW_law_591 : decode b_LW_law 591 = .ok (.iadd, 1) := by decide +kernel
theorem d_LW_law_592 : decode b_LW_law 592 = .ok (.iaload, 1) := by decide +kernel
theorem d_LW_law_593 : decode b_LW_law 593 = .ok (.aload_n 0, 1) := by decide +kernel
theorem d_LW_law_594 : decode b_LW_law 594 = .ok (.iload_n 3, 1) := by decide +kernel
theorem d_LW_law_595 : decode b_LW_law 595 = .ok (.iconst 2, 1) := by decide +kernel
theorem d_LW_law_596 : decode b_LW_law 596 = .ok (.iadd, 1) := by decide +kernel
theorem d_LW_law_597 : decode b_LW_law 597 = .ok (.iaload, 1) := by decide +kernel
theorem d_LW_law_598 : decode b_LW_law 598 = .ok (.invokevirtual 68, 3) := by decide +kernel
theorem d_LW_law_601 : decode b_LW_law 601 = .ok (.if_icmp .eq 249, 3) := by decide +kernel
theorem d_LW_law_604 : decode b_LW_law 604 = .ok (.iconst 0, 1) := by decide +kernel
theorem d_LW_law_605 : decode b_LW_law 605 = .ok (.ireturn, 1) := by decide +kernel
theorem d_LW_law_606 : decode b_LW_law 606 = .ok (.aload_n 1, 1) := by decide +kernel
theorem d_LW_law_607 : decode b_LW_law 607 = .ok (.aload_n 0, 1) := by decide +kernel
theorem d_LW_law_608 : decode b_LW_law 608 = .ok (.iload_n 3, 1) := by decide +kernel
theorem d_LW_law_609 : decode b_LW_law 609 = .ok (.iconst 1, 1) := by decide +kernel
theorem d_LW_law_610 : decode b_LW_law 610 = .ok (.iadd, 1) := by decide +kernel
theorem d_LW_law_611 : decode b_LW_law 611 = .ok (.iaload, 1) := by decide +kernel
theorem d_LW_law_612 : decode b_LW_law 612 = .ok (.aload_n 0, 1) := by decide +kernel
theorem d_LW_law_613 : decode b_LW_law 613 = .ok (.iload_n 3, 1) := by decide +kernel
theorem d_LW_law_614 : decode b_LW_law 614 = .ok (.iconst 2, 1) := by decide +kernel
theorem d_LW_law_615 : decode b_LW_law 615 = .ok (.iadd, 1) := by decide +kernel
theorem d_LW_law_616 : decode b_LW_law 616 = .ok (.iaload, 1) := by decide +kernel
theorem d_LW_law_617 : decode b_LW_law 617 = .ok (.aload_n 0, 1) := by decide +kernel
theorem d_LW_law_618 : decode b_LW_law 618 = .ok (.iload_n 3, 1) := by decide +kernel
theorem d_LW_law_619 : decode b_LW_law 619 = .ok (.iconst 3, 1) := by decide +kernel
theorem d_LW_law_620 : decode b_LW_law 620 = .ok (.iadd, 1) := by decide +kernel
theorem d_LW_law_621 : decode b_LW_law 621 = .ok (.iaload, 1) := by decide +kernel
theorem d_LW_law_622 : decode b_LW_law 622 = .ok (.invokevirtual 69, 3) := by decide +kernel
theorem d_LW_law_625 : decode b_LW_law 625 = .ok (.aload_n 2, 1) := by decide +kernel
theorem d_LW_law_626 : decode b_LW_law 626 = .ok (.aload_n 0, 1) := by decide +kernel
theorem d_LW_law_627 : decode b_LW_law 627 = .ok (.iload_n 3, 1) := by decide +kernel
theorem d_LW_law_628 : decode b_LW_law 628 = .ok (.iconst 1, 1) := by decide +kernel
theorem d_LW_law_629 : decode b_LW_law 629 = .ok (.iadd, 1) := by decide +kernel
theorem d_LW_law_630 : decode b_LW_law 630 = .ok (.iaload, 1) := by decide +kernel
theorem d_LW_law_631 : decode b_LW_law 631 = .ok (.aload_n 0, 1) := by decide +kernel
theorem d_LW_law_632 : decode b_LW_law 632 = .ok (.iload_n 3, 1) := by decide +kernel
theorem d_LW_law_633 : decode b_LW_law 633 = .ok (.iconst 2, 1) := by decide +kernel
theorem d_LW_law_634 : decode b_LW_law 634 = .ok (.iadd, 1) := by decide +kernel
theorem d_LW_law_635 : decode b_LW_law 635 = .ok (.iaload, 1) := by decide +kernel
theorem d_LW_law_636 : decode b_LW_law 636 = .ok (.aload_n 0, 1) := by decide +kernel
theorem d_LW_law_637 : decode b_LW_law 637 = .ok (.iload_n 3, 1) := by decide +kernel
theorem d_LW_law_638 : decode b_LW_law 638 = .ok (.iconst 3, 1) := by decide +kernel
theorem d_LW_law_639 : decode b_LW_law 639 = .ok (.iadd, 1) := by decide +kernel
theorem d_LW_law_640 : decode b_LW_law 640 = .ok (.iaload, 1) := by decide +kernel
theorem d_LW_law_641 : decode b_LW_law 641 = .ok (.invokevirtual 72, 3) := by decide +kernel
theorem d_LW_law_644 : decode b_LW_law 644 = .ok (.if_icmp .eq 206, 3) := by decide +kernel
theorem d_LW_law_647 : decode b_LW_law 647 = .ok (.iconst 0, 1) := by decide +kernel
theorem d_LW_law_648 : decode b_LW_law 648 = .ok (.ireturn, 1) := by decide +kernel
theorem d_LW_law_649 : decode b_LW_law 649 = .ok (.aload_n 1, 1) := by decide +kernel
theorem d_LW_law_650 : decode b_LW_law 650 = .ok (.aload_n 0, 1) := by decide +kernel
theorem d_LW_law_651 : decode b_LW_law 651 = .ok (.iload_n 3, 1) := by decide +kernel
theorem d_LW_law_652 : decode b_LW_law 652 = .ok (.iconst 1, 1) := by decide +kernel
theorem d_LW_law_653 : decode b_LW_law 653 = .ok (.iadd, 1) := by decide +kernel
theorem d_LW_law_654 : decode b_LW_law 654 = .ok (.iaload, 1) := by decide +kernel
theorem d_LW_law_655 : decode b_LW_law 655 = .ok (.aload_n 0, 1) := by decide +kernel
theorem d_LW_law_656 : decode b_LW_law 656 = .ok (.iload_n 3, 1) := by decide +kernel
theorem d_LW_law_657 : decode b_LW_law 657 = .ok (.iconst 2, 1) := by decide +kernel
theorem d_LW_law_658 : decode b_LW_law 658 = .ok (.iadd, 1) := by decide +kernel
theorem d_LW_law_659 : decode b_LW_law 659 = .ok (.iaload, 1) := by decide +kernel
theorem d_LW_law_660 : decode b_LW_law 660 = .ok (.aload_n 0, 1) := by decide +kernel
theorem d_LW_law_661 : decode b_LW_law 661 = .ok (.iload_n 3, 1) := by decide +kernel
theorem d_LW_law_662 : decode b_LW_law 662 = .ok (.iconst 3, 1) := by decide +kernel
theorem d_LW_law_663 : decode b_LW_law 663 = .ok (.iadd, 1) := by decide +kernel
theorem d_LW_law_664 : decode b_LW_law 664 = .ok (.iaload, 1) := by decide +kernel
theorem d_LW_law_665 : decode b_LW_law 665 = .ok (.invokevirtual 73, 3) := by decide +kernel
theorem d_LW_law_668 : decode b_LW_law 668 = .ok (.aload_n 2, 1) := by decide +kernel
theorem d_LW_law_669 : decode b_LW_law 669 = .ok (.aload_n 0, 1) := by decide +kernel
theorem d_LW_law_670 : decode b_LW_law 670 = .ok (.iload_n 3, 1) := by decide +kernel
theorem d_LW_law_671 : decode b_LW_law 671 = .ok (.iconst 1, 1) := by decide +kernel
theorem d_LW_law_672 : decode b_LW_law 672 = .ok (.iadd, 1) := by decide +kernel
theorem d_LW_law_673 : decode b_LW_law 673 = .ok (.iaload, 1) := by decide +kernel
theorem d_LW_law_674 : decode b_LW_law 674 = .ok (.aload_n 0, 1) := by decide +kernel
theorem d_LW_law_675 : decode b_LW_law 675 = .ok (.iload_n 3, 1) := by decide +kernel
theorem d_LW_law_676 : decode b_LW_law 676 = .ok (.iconst 2, 1) := by decide +kernel
theorem d_LW_law_677 : decode b_LW_law 677 = .ok (.iadd, 1) := by decide +kernel
theorem d_LW_law_678 : decode b_LW_law 678 = .ok (.iaload, 1) := by decide +kernel
theorem d_LW_law_679 : decode b_LW_law 679 = .ok (.aload_n 0, 1) := by decide +kernel
theorem d_LW_law_680 : decode b_LW_law 680 = .ok (.iload_n 3, 1) := by decide +kernel
