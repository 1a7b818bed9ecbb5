/-! rows of the law (printed by wip/gen/genL.py) -/
theorem d_law_515 : decode code 515 = .ok (.aload_n 1, 1) := by decide +kernel
theorem d_law_516 : decode code 516 = .ok (.invokevirtual 65, 3) := by decide +kernel
theorem d_law_519 : decode code 519 = .ok (.aload_n 2, 1) := by decide +kernel
theorem d_law_520 : decode code 520 = .ok (.invokevirtual 68, 3) := by decide +kernel
theorem d_law_523 : decode code 523 = .ok (.if_icmp .eq 515, 3) := by decide +kernel
theorem d_law_526 : decode code 526 = .ok (.iconst 0, 1) := by decide +kernel
theorem d_law_527 : decode code 527 = .ok (.ireturn, 1) := by decide +kernel
theorem d_law_528 : decode code 528 = .ok (.aload_n 1, 1) := by decide +kernel
theorem d_law_529 : decode code 529 = .ok (.aload_n 0, 1) := by decide +kernel
theorem d_law_530 : decode code 530 = .ok (.iload_n 3, 1) := by decide +kernel
theorem d_law_531 : decode code 531 = .ok (.iconst 1, 1) := by decide +kernel
theorem d_law_532 : decode code 532 = .ok (.iadd, 1) := by decide +kernel
theorem d_law_533 : decode code 533 = .ok (.iaload, 1) := by decide +kernel
theorem d_law_534 : decode code 534 = .ok (.aload_n 0, 1) := by decide +kernel
theorem d_law_535 : decode code 535 = .ok (.iload_n 3, 1) := by decide +kernel
theorem d_law_536 : decode code 536 = .ok (.iconst 2, 1) := by decide +kernel
theorem d_law_537 : decode code 537 = .ok (.iadd, 1) := by decide +kernel
theorem d_law_538 : decode code 538 = .ok (.iaload, 1) := by decide +kernel
theorem d_law_539 : decode code 539 = .ok (.invokevirtual 69, 3) := by decide +kernel
theorem d_law_542 : decode code 542 = .ok (.aload_n 2, 1) := by decide +kernel
theorem d_law_543 : decode code 543 = .ok (.aload_n 0, 1) := by decide +kernel
theorem d_law_544 : decode code 544 = .ok (.iload_n 3, 1) := by decide +kernel
theorem d_law_545 : decode code 545 = .ok (.iconst 1, 1) := by decide +kernel
theorem d_law_546 : decode code 546 = .ok (.iadd, 1) := by decide +kernel
theorem d_law_547 : decode code 547 = .ok (.iaload, 1) := by decide +kernel
theorem d_law_548 : decode code 548 = .ok (.aload_n 0, 1) := by decide +kernel
theorem d_law_549 : decode code 549 = .ok (.iload_n 3, 1) := by decide +kernel
theorem d_law_550 : decode code 550 = .ok (.iconst 2, 1) := by decide +kernel
theorem d_law_551 : decode code 551 = .ok (.iadd, 1) := by decide +kernel
theorem d_law_552 : decode code 552 = .ok (.iaload, 1) := by decide +kernel
theorem d_law_553 : decode code 553 = .ok (.invokevirtual 72, 3) := by decide +kernel
theorem d_law_556 : decode code 556 = .ok (.if_icmp .eq 482, 3) := by decide +kernel
theorem d_law_559 : decode code 559 = .ok (.iconst 0, 1) := by decide +kernel
theorem d_law_560 : decode code 560 = .ok (.ireturn, 1) := by decide +kernel
theorem d_law_561 : decode code 561 = .ok (.aload_n 1, 1) := by decide +kernel
theorem d_law_562 : decode code 562 = .ok (.aload_n 0, 1) := by decide +kernel
theorem d_law_563 : decode code 563 = .ok (.iload_n 3, 1) := by decide +kernel
theorem d_law_564 : decode code 564 = .ok (.iconst 1, 1) := by decide +kernel
theorem d_law_565 : decode code 565 = .ok (.iadd, 1) := by decide +kernel
theorem d_law_566 : decode code 566 = .ok (.iaload, 1) := by decide +kernel
theorem d_law_567 : decode code 567 = .ok (.invokevirtual 73, 3) := by decide +kernel
theorem d_law_570 : decode code 570 = .ok (.aload_n 2, 1) := by decide +kernel
theorem d_law_571 : decode code 571 = .ok (.aload_n 0, 1) := by decide +kernel
theorem d_law_572 : decode code 572 = .ok (.iload_n 3, 1) := by decide +kernel
theorem d_law_573 : decode code 573 = .ok (.iconst 1, 1) := by decide +kernel
theorem d_law_574 : decode code 574 = .ok (.iadd, 1) := by decide +kernel
theorem d_law_575 : decode code 575 = .ok (.iaload, 1) := by decide +kernel
theorem d_law_576 : decode code 576 = .ok (.invokevirtual 76, 3) := by decide +kernel
theorem d_law_579 : decode code 579 = .ok (.if_icmp .eq 459, 3) := by decide +kernel
theorem d_law_582 : decode code 582 = .ok (.iconst 0, 1) := by decide +kernel
theorem d_law_583 : decode code 583 = .ok (.ireturn, 1) := by decide +kernel
theorem d_law_584 : decode code 584 = .ok (.aload_n 1, 1) := by decide +kernel
theorem d_law_585 : decode code 585 = .ok (.aload_n 0, 1) := by decide +kernel
theorem d_law_586 : decode code 586 = .ok (.iload_n 3, 1) := by decide +kernel
theorem d_law_587 : decode code 587 = .ok (.iconst 1, 1) := by decide +kernel
theorem d_law_588 : decode code 588 = .ok (.iadd, 1) := by decide +kernel
theorem d_law_589 : decode code 589 = .ok (.iaload, 1) := by decide +kernel
theorem d_law_590 : decode code 590 = .ok (.invokevirtual 77, 3) := by decide +kernel
theorem d_law_593 : decode code 593 = .ok (.aload_n 2, 1) := by decide +kernel
theorem d_law_594 : decode code 594 = .ok (.aload_n 0, 1) := by decide +kernel
theorem d_law_595 : decode code 595 = .ok (.iload_n 3, 1) := by decide +kernel
theorem d_law_596 : decode code 596 = .ok (.iconst 1, 1) := by decide +kernel
theorem d_law_597 : decode code 597 = .ok (.iadd, 1) := by decide +kernel
theorem d_law_598 : decode code 598 = .ok (.iaload, 1) := by decide +kernel
theorem d_law_599 : decode code 599 = .ok (.invokevirtual 80, 3) := by decide +kernel
theorem d_law_602 : decode code 602 = .ok (.if_icmp .eq 436, 3) := by decide +kernel
theorem d_law_605 : decode code 605 = .ok (.iconst 0, 1) := by decide +kernel
theorem d_law_606 : decode code 606 = .ok (.ireturn, 1) := by decide +kernel
theorem d_law_607 : decode code 607 = .ok (.aload_n 1, 1) := by decide +kernel
theorem d_law_608 : decode code 608 = .ok (.aload_n 0, 1) := by decide +kernel
theorem d_law_609 : decode code 609 = .ok (.iload_n 3, 1) := by decide +kernel
theorem d_law_610 : decode code 610 = .ok (.iconst 1, 1) := by decide +kernel
theorem d_law_611 : decode code 611 = .ok (.iadd, 1) := by decide +kernel
theorem d_law_612 : decode code 612 = .ok (.iaload, 1) := by decide +kernel
theorem d_law_613 : decode code 613 = .ok (.invokevirtual 81, 3) := by decide +kernel
theorem d_law_616 : decode code 616 = .ok (.aload_n 2, 1) := by decide +kernel
theorem d_law_617 : decode code 617 = .ok (.aload_n 0, 1) := by decide +kernel
theorem d_law_618 : decode code 618 = .ok (.iload_n 3, 1) := by decide +kernel
theorem d_law_619 : decode code 619 = .ok (.iconst 1, 1) := by decide +kernel
theorem d_law_620 : decode code 620 = .ok (.iadd, 1) := by decide +kernel
theorem d_law_621 : decode code 621 = .ok (.iaload, 1) := by decide +kernel
theorem d_law_622 : decode code 622 = .ok (.invokevirtual 84, 3) := by decide +kernel
theorem d_law_625 : decode code 625 = .ok (.if_icmp .eq 413, 3) := by decide +kernel
theorem d_law_628 : decode code 628 = .ok (.iconst 0, 1) := by decide +kernel
theorem d_law_629 : decode code 629 = .ok (.ireturn, 1) := by decide +kernel
theorem d_law_630 : decode code 630 = .ok (.aload_n 1, 1) := by decide +kernel
theorem d_law_631 : decode code 631 = .ok (.aload_n 0, 1) := by decide +kernel
theorem d_law_632 : decode code 632 = .ok (.iload_n 3, 1) := by decide +kernel
theorem d_law_633 : decode code 633 = .ok (.iconst 1, 1) := by decide +kernel
theorem d_law_634 : decode code 634 = .ok (.iadd, 1) := by decide +kernel
theorem d_law_635 : decode code 635 = .ok (.iaload, 1) := by decide +kernel
theorem d_law_636 : decode code 636 = .ok (.invokevirtual 85, 3) := by decide +kernel
theorem d_law_639 : decode code 639 = .ok (.aload_n 2, 1) := by decide +kernel
theorem d_law_640 : decode code 640 = .ok (.aload_n 0, 1) := by decide +kernel
theorem d_law_641 : decode code 641 = .ok (.iload_n 3, 1) := by decide +kernel
theorem d_law_642 : decode code 642 = .ok (.iconst 1, 1) := by decide +kernel
theorem d_law_643 : decode code 643 = .ok (.iadd, 1) := by decide +kernel
theorem d_law_644 : decode code 644 = .ok (.iaload, 1) := by decide +kernel
theorem d_law_645 : decode code 645 = .ok (.invokevirtual 88, 3) := by decide +kernel
theorem d_law_648 : decode code 648 = .ok (.if_icmp .eq 390, 3) := by decide +kernel
theorem d_law_651 : decode code 651 = .ok (.iconst 0, 1) := by decide +kernel
theorem d_law_652 : decode code 652 = .ok (.ireturn, 1) := by decide +kernel
theorem d_law_653 : decode code 653 = .ok (.aload_n 1, 1) := by decide +kernel
theorem d_law_654 : decode code 654 = .ok (.aload_n 0, 1) := by decide +kernel
theorem d_law_655 : decode code 655 = .ok (.iload_n 3, 1) := by decide +kernel
theorem d_law_656 : decode code 656 = .ok (.iconst 1, 1) := by decide +kernel
theorem d_law_657 : decode code 657 = .ok (.iadd, 1) := by decide +kernel
theorem d_law_658 : decode code 658 = .ok (.iaload, 1) := by decide +kernel
theorem d_law_659 : decode code 659 = .ok (.invokevirtual 89, 3) := by decide +kernel
theorem d_law_662 : decode code 662 = .ok (.aload_n 2, 1) := by decide +kernel
theorem d_law_663 : decode code 663 = .ok (.aload_n 0, 1) := by decide +kernel
theorem d_law_664 : decode code 664 = .ok (.iload_n 3, 1) := by decide +kernel
theorem d_law_665 : decode code 665 = .ok (.iconst 1, 1) := by decide +kernel
theorem d_law_666 : decode code 666 = .ok (.iadd, 1) := by decide +kernel
theorem d_law_667 : decode code 667 = .ok (.iaload, 1) := by decide +kernel
theorem d_law_668 : decode code 668 = .ok (.invokevirtual 92, 3) := by decide +kernel
theorem d_law_671 : decode code 671 = .ok (.if_icmp .eq 367, 3) := by decide +kernel
theorem d_law_674 : decode code 674 = .ok (.iconst 0, 1) := by decide +kernel
theorem d_law_675 : decode code 675 = .ok (.ireturn, 1) := by decide +kernel
theorem d_law_676 : decode code 676 = .ok (.aload_n 1, 1) := by decide +kernel
theorem d_law_677 : decode code 677 = .ok (.invokevirtual 93, 3) := by decide +kernel
theorem d_law_680 : decode code 680 = .ok (.aload_n 2, 1) := by decide +kernel
theorem d_law_681 : decode code 681 = .ok (.invokevirtual 96, 3) := by decide +kernel
theorem d_law_684 : decode code 684 = .ok (.if_icmp .eq 354, 3) := by decide +kernel
theorem d_law_687 : decode code 687 = .ok (.iconst 0, 1) := by decide +kernel
theorem d_law_688 : decode code 688 = .ok (.ireturn, 1) := by decide +kernel
theorem d_law_689 : decode code 689 = .ok (.aload_n 1, 1) := by decide +kernel
theorem d_law_690 : decode code 690 = .ok (.aload_n 0, 1) := by decide +kernel
theorem d_law_691 : decode code 691 = .ok (.iload_n 3, 1) := by decide +kernel
theorem d_law_692 : decode code 692 = .ok (.iconst 1, 1) := by decide +kernel
theorem d_law_693 : decode code 693 = .ok (.iadd, 1) := by decide +kernel
theorem d_law_694 : decode code 694 = .ok (.iaload, 1) := by decide +kernel
theorem d_law_695 : decode code 695 = .ok (.aload_n 0, 1) := by decide +kernel
theorem d_law_696 : decode code 696 = .ok (.iload_n 3, 1) := by decide +kernel
theorem d_law_697 : decode code 697 = .ok (.iconst 2, 1) := by decide +kernel
theorem d_law_698 : decode code 698 = .ok (.iadd, 1) := by decide +kernel
theorem d_law_699 : decode code 699 = .ok (.iaload, 1) := by decide +kernel
theorem d_law_700 : decode code 700 = .ok (.invokevirtual 97, 3) := by decide +kernel
theorem d_law_703 : decode code 703 = .ok (.aload_n 2, 1) := by decide +kernel
theorem d_law_704 : decode code 704 = .ok (.aload_n 0, 1) := by decide +kernel
theorem d_law_705 : decode code 705 = .ok (.iload_n 3, 1) := by decide +kernel
theorem d_law_706 : decode code 706 = .ok (.iconst 1, 1) := by decide +kernel
theorem d_law_707 : decode code 707 = .ok (.iadd, 1) := by decide +kernel
theorem d_law_708 : decode code 708 = .ok (.iaload, 1) := by decide +kernel
theorem d_law_709 : decode code 709 = .ok (.aload_n 0, 1) := by decide +kernel
theorem d_law_710 : decode code 710 = .ok (.iload_n 3, 1) := by decide +kernel
theorem d_law_711 : decode code 711 = .ok (.iconst 2, 1) := by decide +kernel
theorem d_law_712 : decode code 712 = .ok (.iadd, 1) := by decide +kernel
theorem d_law_713 : decode code 713 = .ok (.iaload, 1) := by decide +kernel
theorem d_law_714 : decode code 714 = .ok (.invokevirtual 100, 3) := by decide +kernel
theorem d_law_717 : decode code 717 = .ok (.if_icmp .eq 321, 3) := by decide +kernel
theorem d_law_720 : decode code 720 = .ok (.iconst 0, 1) := by decide +kernel
theorem d_law_721 : decode code 721 = .ok (.ireturn, 1) := by decide +kernel
theorem d_law_722 : decode code 722 = .ok (.aload_n 1, 1) := by decide +kernel
theorem d_law_723 : decode code 723 = .ok (.invokevirtual 101, 3) := by decide +kernel
theorem d_law_726 : decode code 726 = .ok (.aload_n 2, 1) := by decide +kernel
theorem d_law_727 : decode code 727 = .ok (.invokevirtual 104, 3) := by decide +kernel
theorem d_law_730 : decode code 730 = .ok (.if_icmp .eq 308, 3) := by decide +kernel
theorem d_law_733 : decode code 733 = .ok (.iconst 0, 1) := by decide +kernel
theorem d_law_734 : decode code 734 = .ok (.ireturn, 1) := by decide +kernel
theorem d_law_735 : decode code 735 = .ok (.aload_n 1, 1) := by decide +kernel
theorem d_law_736 : decode code 736 = .ok (.invokevirtual 105, 3) := by decide +kernel
theorem d_law_739 : decode code 739 = .ok (.aload_n 2, 1) := by decide +kernel
theorem d_law_740 : decode code 740 = .ok (.invokevirtual 108, 3) := by decide +kernel
theorem d_law_743 : decode code 743 = .ok (.if_icmp .eq 295, 3) := by decide +kernel
theorem d_law_746 : decode code 746 = .ok (.iconst 0, 1) := by decide +kernel
theorem d_law_747 : decode code 747 = .ok (.ireturn, 1) := by decide +kernel
theorem d_law_748 : decode code 748 = .ok (.aload_n 1, 1) := by decide +kernel
theorem d_law_749 : decode code 749 = .ok (.aload_n 0, 1) := by decide +kernel
theorem d_law_750 : decode code 750 = .ok (.iload_n 3, 1) := by decide +kernel
theorem d_law_751 : decode code 751 = .ok (.iconst 1, 1) := by decide +kernel
theorem d_law_752 : decode code 752 = .ok (.iadd, 1) := by decide +kernel
theorem d_law_753 : decode code 753 = .ok (.iaload, 1) := by decide +kernel
theorem d_law_754 : decode code 754 = .ok (.aload_n 0, 1) := by decide +kernel
theorem d_law_755 : decode code 755 = .ok (.iload_n 3, 1) := by decide +kernel
theorem d_law_756 : decode code 756 = .ok (.iconst 2, 1) := by decide +kernel
theorem d_law_757 : decode code 757 = .ok (.iadd, 1) := by decide +kernel
theorem d_law_758 : decode code 758 = .ok (.iaload, 1) := by decide +kernel
theorem d_law_759 : decode code 759 = .ok (.invokevirtual 109, 3) := by decide +kernel
theorem d_law_762 : decode code 762 = .ok (.aload_n 2, 1) := by decide +kernel
theorem d_law_763 : decode code 763 = .ok (.aload_n 0, 1) := by decide +kernel
theorem d_law_764 : decode code 764 = .ok (.iload_n 3, 1) := by decide +kernel
theorem d_law_765 : decode code 765 = .ok (.iconst 1, 1) := by decide +kernel
theorem d_law_766 : decode code 766 = .ok (.iadd, 1) := by decide +kernel
theorem d_law_767 : decode code 767 = .ok (.iaload, 1) := by decide +kernel
theorem d_law_768 : decode code 768 = .ok (.aload_n 0, 1) := by decide +kernel
theorem d_law_769 : decode code 769 = .ok (.iload_n 3, 1) := by decide +kernel
theorem d_law_770 : decode code 770 = .ok (.iconst 2, 1) := by decide +kernel
theorem d_law_771 : decode code 771 = .ok (.iadd, 1) := by decide +kernel
theorem d_law_772 : decode code 772 = .ok (.iaload, 1) := by decide +kernel
theorem d_law_773 : decode code 773 = .ok (.invokevirtual 112, 3) := by decide +kernel
