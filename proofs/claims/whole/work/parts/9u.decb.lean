/-! the law: decode rows (by program) -/
theorem dL_493 : decode code 493 = .ok (.iadd, 1) := by decide +kernel
theorem dL_494 : decode code 494 = .ok (.iaload, 1) := by decide +kernel
theorem dL_495 : decode code 495 = .ok (.aload_n 0, 1) := by decide +kernel
theorem dL_496 : decode code 496 = .ok (.iload_n 3, 1) := by decide +kernel
theorem dL_497 : decode code 497 = .ok (.iconst 2, 1) := by decide +kernel
theorem dL_498 : decode code 498 = .ok (.iadd, 1) := by decide +kernel
theorem dL_499 : decode code 499 = .ok (.iaload, 1) := by decide +kernel
theorem dL_500 : decode code 500 = .ok (.invokevirtual 54, 3) := by decide +kernel
theorem dL_503 : decode code 503 = .ok (.aload_n 2, 1) := by decide +kernel
theorem dL_504 : decode code 504 = .ok (.aload_n 0, 1) := by decide +kernel
theorem dL_505 : decode code 505 = .ok (.iload_n 3, 1) := by decide +kernel
theorem dL_506 : decode code 506 = .ok (.iconst 1, 1) := by decide +kernel
theorem dL_507 : decode code 507 = .ok (.iadd, 1) := by decide +kernel
theorem dL_508 : decode code 508 = .ok (.iaload, 1) := by decide +kernel
theorem dL_509 : decode code 509 = .ok (.aload_n 0, 1) := by decide +kernel
theorem dL_510 : decode code 510 = .ok (.iload_n 3, 1) := by decide +kernel
theorem dL_511 : decode code 511 = .ok (.iconst 2, 1) := by decide +kernel
theorem dL_512 : decode code 512 = .ok (.iadd, 1) := by decide +kernel
theorem dL_513 : decode code 513 = .ok (.iaload, 1) := by decide +kernel
theorem dL_514 : decode code 514 = .ok (.invokevirtual 57, 3) := by decide +kernel
theorem dL_517 : decode code 517 = .ok (.if_icmp .eq 688, 3) := by decide +kernel
theorem dL_522 : decode code 522 = .ok (.aload_n 1, 1) := by decide +kernel
theorem dL_523 : decode code 523 = .ok (.aload_n 0, 1) := by decide +kernel
theorem dL_524 : decode code 524 = .ok (.iload_n 3, 1) := by decide +kernel
theorem dL_525 : decode code 525 = .ok (.iconst 1, 1) := by decide +kernel
theorem dL_526 : decode code 526 = .ok (.iadd, 1) := by decide +kernel
theorem dL_527 : decode code 527 = .ok (.iaload, 1) := by decide +kernel
theorem dL_528 : decode code 528 = .ok (.aload_n 0, 1) := by decide +kernel
theorem dL_529 : decode code 529 = .ok (.iload_n 3, 1) := by decide +kernel
theorem dL_530 : decode code 530 = .ok (.iconst 2, 1) := by decide +kernel
theorem dL_531 : decode code 531 = .ok (.iadd, 1) := by decide +kernel
theorem dL_532 : decode code 532 = .ok (.iaload, 1) := by decide +kernel
theorem dL_533 : decode code 533 = .ok (.invokevirtual 58, 3) := by decide +kernel
theorem dL_536 : decode code 536 = .ok (.aload_n 2, 1) := by decide +kernel
theorem dL_537 : decode code 537 = .ok (.aload_n 0, 1) := by decide +kernel
theorem dL_538 : decode code 538 = .ok (.iload_n 3, 1) := by decide +kernel
theorem dL_539 : decode code 539 = .ok (.iconst 1, 1) := by decide +kernel
theorem dL_540 : decode code 540 = .ok (.iadd, 1) := by decide +kernel
theorem dL_541 : decode code 541 = .ok (.iaload, 1) := by decide +kernel
theorem dL_542 : decode code 542 = .ok (.aload_n 0, 1) := by decide +kernel
theorem dL_543 : decode code 543 = .ok (.iload_n 3, 1) := by decide +kernel
theorem dL_544 : decode code 544 = .ok (.iconst 2, 1) := by decide +kernel
theorem dL_545 : decode code 545 = .ok (.iadd, 1) := by decide +kernel
theorem dL_546 : decode code 546 = .ok (.iaload, 1) := by decide +kernel
theorem dL_547 : decode code 547 = .ok (.invokevirtual 61, 3) := by decide +kernel
theorem dL_550 : decode code 550 = .ok (.if_icmp .eq 655, 3) := by decide +kernel
theorem dL_555 : decode code 555 = .ok (.aload_n 1, 1) := by decide +kernel
theorem dL_556 : decode code 556 = .ok (.aload_n 0, 1) := by decide +kernel
theorem dL_557 : decode code 557 = .ok (.iload_n 3, 1) := by decide +kernel
theorem dL_558 : decode code 558 = .ok (.iconst 1, 1) := by decide +kernel
theorem dL_559 : decode code 559 = .ok (.iadd, 1) := by decide +kernel
theorem dL_560 : decode code 560 = .ok (.iaload, 1) := by decide +kernel
theorem dL_561 : decode code 561 = .ok (.aload_n 0, 1) := by decide +kernel
theorem dL_562 : decode code 562 = .ok (.iload_n 3, 1) := by decide +kernel
theorem dL_563 : decode code 563 = .ok (.iconst 2, 1) := by decide +kernel
theorem dL_564 : decode code 564 = .ok (.iadd, 1) := by decide +kernel
theorem dL_565 : decode code 565 = .ok (.iaload, 1) := by decide +kernel
theorem dL_566 : decode code 566 = .ok (.invokevirtual 62, 3) := by decide +kernel
theorem dL_569 : decode code 569 = .ok (.aload_n 2, 1) := by decide +kernel
theorem dL_570 : decode code 570 = .ok (.aload_n 0, 1) := by decide +kernel
theorem dL_571 : decode code 571 = .ok (.iload_n 3, 1) := by decide +kernel
theorem dL_572 : decode code 572 = .ok (.iconst 1, 1) := by decide +kernel
theorem dL_573 : decode code 573 = .ok (.iadd, 1) := by decide +kernel
theorem dL_574 : decode code 574 = .ok (.iaload, 1) := by decide +kernel
theorem dL_575 : decode code 575 = .ok (.aload_n 0, 1) := by decide +kernel
theorem dL_576 : decode code 576 = .ok (.iload_n 3, 1) := by decide +kernel
theorem dL_577 : decode code 577 = .ok (.iconst 2, 1) := by decide +kernel
theorem dL_578 : decode code 578 = .ok (.iadd, 1) := by decide +kernel
theorem dL_579 : decode code 579 = .ok (.iaload, 1) := by decide +kernel
theorem dL_580 : decode code 580 = .ok (.invokevirtual 65, 3) := by decide +kernel
theorem dL_583 : decode code 583 = .ok (.if_icmp .eq 622, 3) := by decide +kernel
theorem dL_588 : decode code 588 = .ok (.aload_n 1, 1) := by decide +kernel
theorem dL_589 : decode code 589 = .ok (.aload_n 0, 1) := by decide +kernel
theorem dL_590 : decode code 590 = .ok (.iload_n 3, 1) := by decide +kernel
theorem dL_591 : decode code 591 = .ok (.iconst 1, 1) := by decide +kernel
theorem dL_592 : decode code 592 = .ok (.iadd, 1) := by decide +kernel
theorem dL_593 : decode code 593 = .ok (.iaload, 1) := by decide +kernel
theorem dL_594 : decode code 594 = .ok (.aload_n 0, 1) := by decide +kernel
theorem dL_595 : decode code 595 = .ok (.iload_n 3, 1) := by decide +kernel
theorem dL_596 : decode code 596 = .ok (.iconst 2, 1) := by decide +kernel
theorem dL_597 : decode code 597 = .ok (.iadd, 1) := by decide +kernel
theorem dL_598 : decode code 598 = .ok (.iaload, 1) := by decide +kernel
theorem dL_599 : decode code 599 = .ok (.invokevirtual 66, 3) := by decide +kernel
theorem dL_602 : decode code 602 = .ok (.aload_n 2, 1) := by decide +kernel
theorem dL_603 : decode code 603 = .ok (.aload_n 0, 1) := by decide +kernel
theorem dL_604 : decode code 604 = .ok (.iload_n 3, 1) := by decide +kernel
theorem dL_605 : decode code 605 = .ok (.iconst 1, 1) := by decide +kernel
theorem dL_606 : decode code 606 = .ok (.iadd, 1) := by decide +kernel
theorem dL_607 : decode code 607 = .ok (.iaload, 1) := by decide +kernel
theorem dL_608 : decode code 608 = .ok (.aload_n 0, 1) := by decide +kernel
theorem dL_609 : decode code 609 = .ok (.iload_n 3, 1) := by decide +kernel
theorem dL_610 : decode code 610 = .ok (.iconst 2, 1) := by decide +kernel
theorem dL_611 : decode code 611 = .ok (.iadd, 1) := by decide +kernel
theorem dL_612 : decode code 612 = .ok (.iaload, 1) := by decide +kernel
theorem dL_613 : decode code 613 = .ok (.invokevirtual 69, 3) := by decide +kernel
theorem dL_616 : decode code 616 = .ok (.if_icmp .eq 589, 3) := by decide +kernel
theorem dL_621 : decode code 621 = .ok (.aload_n 1, 1) := by decide +kernel
theorem dL_622 : decode code 622 = .ok (.aload_n 0, 1) := by decide +kernel
theorem dL_623 : decode code 623 = .ok (.iload_n 3, 1) := by decide +kernel
theorem dL_624 : decode code 624 = .ok (.iconst 1, 1) := by decide +kernel
theorem dL_625 : decode code 625 = .ok (.iadd, 1) := by decide +kernel
theorem dL_626 : decode code 626 = .ok (.iaload, 1) := by decide +kernel
theorem dL_627 : decode code 627 = .ok (.aload_n 0, 1) := by decide +kernel
theorem dL_628 : decode code 628 = .ok (.iload_n 3, 1) := by decide +kernel
theorem dL_629 : decode code 629 = .ok (.iconst 2, 1) := by decide +kernel
theorem dL_630 : decode code 630 = .ok (.iadd, 1) := by decide +kernel
theorem dL_631 : decode code 631 = .ok (.iaload, 1) := by decide +kernel
theorem dL_632 : decode code 632 = .ok (.invokevirtual 70, 3) := by decide +kernel
theorem dL_635 : decode code 635 = .ok (.aload_n 2, 1) := by decide +kernel
theorem dL_636 : decode code 636 = .ok (.aload_n 0, 1) := by decide +kernel
theorem dL_637 : decode code 637 = .ok (.iload_n 3, 1) := by decide +kernel
theorem dL_638 : decode code 638 = .ok (.iconst 1, 1) := by decide +kernel
theorem dL_639 : decode code 639 = .ok (.iadd, 1) := by decide +kernel
theorem dL_640 : decode code 640 = .ok (.iaload, 1) := by decide +kernel
theorem dL_641 : decode code 641 = .ok (.aload_n 0, 1) := by decide +kernel
theorem dL_642 : decode code 642 = .ok (.iload_n 3, 1) := by decide +kernel
theorem dL_643 : decode code 643 = .ok (.iconst 2, 1) := by decide +kernel
theorem dL_644 : decode code 644 = .ok (.iadd, 1) := by decide +kernel
theorem dL_645 : decode code 645 = .ok (.iaload, 1) := by decide +kernel
theorem dL_646 : decode code 646 = .ok (.invokevirtual 73, 3) := by decide +kernel
theorem dL_649 : decode code 649 = .ok (.if_icmp .eq 556, 3) := by decide +kernel
theorem dL_654 : decode code 654 = .ok (.aload_n 1, 1) := by decide +kernel
theorem dL_655 : decode code 655 = .ok (.aload_n 0, 1) := by decide +kernel
theorem dL_656 : decode code 656 = .ok (.iload_n 3, 1) := by decide +kernel
theorem dL_657 : decode code 657 = .ok (.iconst 1, 1) := by decide +kernel
theorem dL_658 : decode code 658 = .ok (.iadd, 1) := by decide +kernel
theorem dL_659 : decode code 659 = .ok (.iaload, 1) := by decide +kernel
theorem dL_660 : decode code 660 = .ok (.aload_n 0, 1) := by decide +kernel
theorem dL_661 : decode code 661 = .ok (.iload_n 3, 1) := by decide +kernel
theorem dL_662 : decode code 662 = .ok (.iconst 2, 1) := by decide +kernel
theorem dL_663 : decode code 663 = .ok (.iadd, 1) := by decide +kernel
theorem dL_664 : decode code 664 = .ok (.iaload, 1) := by decide +kernel
theorem dL_665 : decode code 665 = .ok (.aload_n 0, 1) := by decide +kernel
theorem dL_666 : decode code 666 = .ok (.iload_n 3, 1) := by decide +kernel
theorem dL_667 : decode code 667 = .ok (.iconst 3, 1) := by decide +kernel
theorem dL_668 : decode code 668 = .ok (.iadd, 1) := by decide +kernel
theorem dL_669 : decode code 669 = .ok (.iaload, 1) := by decide +kernel
theorem dL_670 : decode code 670 = .ok (.invokevirtual 74, 3) := by decide +kernel
theorem dL_673 : decode code 673 = .ok (.aload_n 2, 1) := by decide +kernel
theorem dL_674 : decode code 674 = .ok (.aload_n 0, 1) := by decide +kernel
theorem dL_675 : decode code 675 = .ok (.iload_n 3, 1) := by decide +kernel
theorem dL_676 : decode code 676 = .ok (.iconst 1, 1) := by decide +kernel
theorem dL_677 : decode code 677 = .ok (.iadd, 1) := by decide +kernel
theorem dL_678 : decode code 678 = .ok (.iaload, 1) := by decide +kernel
theorem dL_679 : decode code 679 = .ok (.aload_n 0, 1) := by decide +kernel
theorem dL_680 : decode code 680 = .ok (.iload_n 3, 1) := by decide +kernel
theorem dL_681 : decode code 681 = .ok (.iconst 2, 1) := by decide +kernel
theorem dL_682 : decode code 682 = .ok (.iadd, 1) := by decide +kernel
theorem dL_683 : decode code 683 = .ok (.iaload, 1) := by decide +kernel
theorem dL_684 : decode code 684 = .ok (.aload_n 0, 1) := by decide +kernel
theorem dL_685 : decode code 685 = .ok (.iload_n 3, 1) := by decide +kernel
theorem dL_686 : decode code 686 = .ok (.iconst 3, 1) := by decide +kernel
theorem dL_687 : decode code 687 = .ok (.iadd, 1) := by decide +kernel
theorem dL_688 : decode code 688 = .ok (.iaload, 1) := by decide +kernel
theorem dL_689 : decode code 689 = .ok (.invokevirtual 78, 3) := by decide +kernel
theorem dL_692 : decode code 692 = .ok (.if_icmp .eq 513, 3) := by decide +kernel
theorem dL_697 : decode code 697 = .ok (.aload_n 1, 1) := by decide +kernel
theorem dL_698 : decode code 698 = .ok (.aload_n 0, 1) := by decide +kernel
theorem dL_699 : decode code 699 = .ok (.iload_n 3, 1) := by decide +kernel
theorem dL_700 : decode code 700 = .ok (.iconst 1, 1) := by decide +kernel
theorem dL_701 : decode code 701 = .ok (.iadd, 1) := by decide +kernel
theorem dL_702 : decode code 702 = .ok (.iaload, 1) := by decide +kernel
theorem dL_703 : decode code 703 = .ok (.aload_n 0, 1) := by decide +kernel
theorem dL_704 : decode code 704 = .ok (.iload_n 3, 1) := by decide +kernel
theorem dL_705 : decode code 705 = .ok (.iconst 2, 1) := by decide +kernel
theorem dL_706 : decode code 706 = .ok (.iadd, 1) := by decide +kernel
theorem dL_707 : decode code 707 = .ok (.iaload, 1) := by decide +kernel
theorem dL_708 : decode code 708 = .ok (.aload_n 0, 1) := by decide +kernel
theorem dL_709 : decode code 709 = .ok (.iload_n 3, 1) := by decide +kernel
theorem dL_710 : decode code 710 = .ok (.iconst 3, 1) := by decide +kernel
theorem dL_711 : decode code 711 = .ok (.iadd, 1) := by decide +kernel
theorem dL_712 : decode code 712 = .ok (.iaload, 1) := by decide +kernel
theorem dL_713 : decode code 713 = .ok (.invokevirtual 79, 3) := by decide +kernel
theorem dL_716 : decode code 716 = .ok (.aload_n 2, 1) := by decide +kernel
theorem dL_717 : decode code 717 = .ok (.aload_n 0, 1) := by decide +kernel
theorem dL_718 : decode code 718 = .ok (.iload_n 3, 1) := by decide +kernel
theorem dL_719 : decode code 719 = .ok (.iconst 1, 1) := by decide +kernel
theorem dL_720 : decode code 720 = .ok (.iadd, 1) := by decide +kernel
theorem dL_721 : decode code 721 = .ok (.iaload, 1) := by decide +kernel
theorem dL_722 : decode code 722 = .ok (.aload_n 0, 1) := by decide +kernel
theorem dL_723 : decode code 723 = .ok (.iload_n 3, 1) := by decide +kernel
theorem dL_724 : decode code 724 = .ok (.iconst 2, 1) := by decide +kernel
theorem dL_725 : decode code 725 = .ok (.iadd, 1) := by decide +kernel
theorem dL_726 : decode code 726 = .ok (.iaload, 1) := by decide +kernel
theorem dL_727 : decode code 727 = .ok (.aload_n 0, 1) := by decide +kernel
theorem dL_728 : decode code 728 = .ok (.iload_n 3, 1) := by decide +kernel
theorem dL_729 : decode code 729 = .ok (.iconst 3, 1) := by decide +kernel
theorem dL_730 : decode code 730 = .ok (.iadd, 1) := by decide +kernel
theorem dL_731 : decode code 731 = .ok (.iaload, 1) := by decide +kernel
theorem dL_732 : decode code 732 = .ok (.invokevirtual 82, 3) := by decide +kernel
theorem dL_735 : decode code 735 = .ok (.if_icmp .eq 470, 3) := by decide +kernel
theorem dL_740 : decode code 740 = .ok (.aload_n 1, 1) := by decide +kernel
theorem dL_741 : decode code 741 = .ok (.aload_n 0, 1) := by decide +kernel
theorem dL_742 : decode code 742 = .ok (.iload_n 3, 1) := by decide +kernel
theorem dL_743 : decode code 743 = .ok (.iconst 1, 1) := by decide +kernel
theorem dL_744 : decode code 744 = .ok (.iadd, 1) := by decide +kernel
theorem dL_745 : decode code 745 = .ok (.iaload, 1) := by decide +kernel
theorem dL_746 : decode code 746 = .ok (.aload_n 0, 1) := by decide +kernel
theorem dL_747 : decode code 747 = .ok (.iload_n 3, 1) := by decide +kernel
theorem dL_748 : decode code 748 = .ok (.iconst 2, 1) := by decide +kernel
theorem dL_749 : decode code 749 = .ok (.iadd, 1) := by decide +kernel
theorem dL_750 : decode code 750 = .ok (.iaload, 1) := by decide +kernel
theorem dL_751 : decode code 751 = .ok (.aload_n 0, 1) := by decide +kernel
theorem dL_752 : decode code 752 = .ok (.iload_n 3, 1) := by decide +kernel
theorem dL_753 : decode code 753 = .ok (.iconst 3, 1) := by decide +kernel
theorem dL_754 : decode code 754 = .ok (.iadd, 1) := by decide +kernel
theorem dL_755 : decode code 755 = .ok (.iaload, 1) := by decide +kernel
theorem dL_756 : decode code 756 = .ok (.invokevirtual 83, 3) := by decide +kernel
theorem dL_759 : decode code 759 = .ok (.aload_n 2, 1) := by decide +kernel
theorem dL_760 : decode code 760 = .ok (.aload_n 0, 1) := by decide +kernel
theorem dL_761 : decode code 761 = .ok (.iload_n 3, 1) := by decide +kernel
theorem dL_762 : decode code 762 = .ok (.iconst 1, 1) := by decide +kernel
theorem dL_763 : decode code 763 = .ok (.iadd, 1) := by decide +kernel
theorem dL_764 : decode code 764 = .ok (.iaload, 1) := by decide +kernel
theorem dL_765 : decode code 765 = .ok (.aload_n 0, 1) := by decide +kernel
theorem dL_766 : decode code 766 = .ok (.iload_n 3, 1) := by decide +kernel
theorem dL_767 : decode code 767 = .ok (.iconst 2, 1) := by decide +kernel
theorem dL_768 : decode code 768 = .ok (.iadd, 1) := by decide +kernel
theorem dL_769 : decode code 769 = .ok (.iaload, 1) := by decide +kernel
theorem dL_770 : decode code 770 = .ok (.aload_n 0, 1) := by decide +kernel
theorem dL_771 : decode code 771 = .ok (.iload_n 3, 1) := by decide +kernel
theorem dL_772 : decode code 772 = .ok (.iconst 3, 1) := by decide +kernel
theorem dL_773 : decode code 773 = .ok (.iadd, 1) := by decide +kernel
theorem dL_774 : decode code 774 = .ok (.iaload, 1) := by decide +kernel
theorem dL_775 : decode code 775 = .ok (.invokevirtual 86, 3) := by decide +kernel
theorem dL_778 : decode code 778 = .ok (.if_icmp .eq 427, 3) := by decide +kernel
theorem dL_783 : decode code 783 = .ok (.aload_n 1, 1) := by decide +kernel
theorem dL_784 : decode code 784 = .ok (.aload_n 0, 1) := by decide +kernel
theorem dL_785 : decode code 785 = .ok (.iload_n 3, 1) := by decide +kernel
theorem dL_786 : decode code 786 = .ok (.iconst 1, 1) := by decide +kernel
theorem dL_787 : decode code 787 = .ok (.iadd, 1) := by decide +kernel
theorem dL_788 : decode code 788 = .ok (.iaload, 1) := by decide +kernel
theorem dL_789 : decode code 789 = .ok (.aload_n 0, 1) := by decide +kernel
theorem dL_790 : decode code 790 = .ok (.iload_n 3, 1) := by decide +kernel
theorem dL_791 : decode code 791 = .ok (.iconst 2, 1) := by decide +kernel
theorem dL_792 : decode code 792 = .ok (.iadd, 1) := by decide +kernel
theorem dL_793 : decode code 793 = .ok (.iaload, 1) := by decide +kernel
theorem dL_794 : decode code 794 = .ok (.invokevirtual 87, 3) := by decide +kernel
theorem dL_797 : decode code 797 = .ok (.aload_n 2, 1) := by decide +kernel
theorem dL_798 : decode code 798 = .ok (.aload_n 0, 1) := by decide +kernel
theorem dL_799 : decode code 799 = .ok (.iload_n 3, 1) := by decide +kernel
theorem dL_800 : decode code 800 = .ok (.iconst 1, 1) := by decide +kernel
theorem dL_801 : decode code 801 = .ok (.iadd, 1) := by decide +kernel
theorem dL_802 : decode code 802 = .ok (.iaload, 1) := by decide +kernel
theorem dL_803 : decode code 803 = .ok (.aload_n 0, 1) := by decide +kernel
theorem dL_804 : decode code 804 = .ok (.iload_n 3, 1) := by decide +kernel
theorem dL_805 : decode code 805 = .ok (.iconst 2, 1) := by decide +kernel
theorem dL_806 : decode code 806 = .ok (.iadd, 1) := by decide +kernel
theorem dL_807 : decode code 807 = .ok (.iaload, 1) := by decide +kernel
theorem dL_808 : decode code 808 = .ok (.invokevirtual 90, 3) := by decide +kernel
theorem dL_811 : decode code 811 = .ok (.if_icmp .eq 394, 3) := by decide +kernel
theorem dL_816 : decode code 816 = .ok (.aload_n 1, 1) := by decide +kernel
theorem dL_817 : decode code 817 = .ok (.aload_n 0, 1) := by decide +kernel
theorem dL_818 : decode code 818 = .ok (.iload_n 3, 1) := by decide +kernel
theorem dL_819 : decode code 819 = .ok (.iconst 1, 1) := by decide +kernel
theorem dL_820 : decode code 820 = .ok (.iadd, 1) := by decide +kernel
theorem dL_821 : decode code 821 = .ok (.iaload, 1) := by decide +kernel
theorem dL_822 : decode code 822 = .ok (.aload_n 0, 1) := by decide +kernel
theorem dL_823 : decode code 823 = .ok (.iload_n 3, 1) := by decide +kernel
theorem dL_824 : decode code 824 = .ok (.iconst 2, 1) := by decide +kernel
theorem dL_825 : decode code 825 = .ok (.iadd, 1) := by decide +kernel
theorem dL_826 : decode code 826 = .ok (.iaload, 1) := by decide +kernel
theorem dL_827 : decode code 827 = .ok (.invokevirtual 91, 3) := by decide +kernel
theorem dL_830 : decode code 830 = .ok (.aload_n 2, 1) := by decide +kernel
theorem dL_831 : decode code 831 = .ok (.aload_n 0, 1) := by decide +kernel
theorem dL_832 : decode code 832 = .ok (.iload_n 3, 1) := by decide +kernel
theorem dL_833 : decode code 833 = .ok (.iconst 1, 1) := by decide +kernel
theorem dL_834 : decode code 834 = .ok (.iadd, 1) := by decide +kernel
theorem dL_835 : decode code 835 = .ok (.iaload, 1) := by decide +kernel
theorem dL_836 : decode code 836 = .ok (.aload_n 0, 1) := by decide +kernel
theorem dL_837 : decode code 837 = .ok (.iload_n 3, 1) := by decide +kernel
