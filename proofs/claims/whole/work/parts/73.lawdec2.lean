theorem dLaw_492 : decode cLaw 492 = .ok (.invokevirtual 83, 3) := by decide +kernel
theorem dLaw_495 : decode cLaw 495 = .ok (.iload 5, 2) := by decide +kernel
theorem dLaw_497 : decode cLaw 497 = .ok (.if_icmp .eq 5, 3) := by decide +kernel
theorem dLaw_500 : decode cLaw 500 = .ok (.iconst 0, 1) := by decide +kernel
theorem dLaw_501 : decode cLaw 501 = .ok (.ireturn, 1) := by decide +kernel
theorem dLaw_502 : decode cLaw 502 = .ok (.iload 5, 2) := by decide +kernel
theorem dLaw_504 : decode cLaw 504 = .ok (.ifCond .ne 15, 3) := by decide +kernel
theorem dLaw_507 : decode cLaw 507 = .ok (.aload_n 3, 1) := by decide +kernel
theorem dLaw_508 : decode cLaw 508 = .ok (.iconst 0, 1) := by decide +kernel
theorem dLaw_509 : decode cLaw 509 = .ok (.laload, 1) := by decide +kernel
theorem dLaw_510 : decode cLaw 510 = .ok (.iload 6, 2) := by decide +kernel
theorem dLaw_512 : decode cLaw 512 = .ok (.i2l, 1) := by decide +kernel
theorem dLaw_513 : decode cLaw 513 = .ok (.lcmp, 1) := by decide +kernel
theorem dLaw_514 : decode cLaw 514 = .ok (.ifCond .eq 5, 3) := by decide +kernel
theorem dLaw_517 : decode cLaw 517 = .ok (.iconst 0, 1) := by decide +kernel
theorem dLaw_518 : decode cLaw 518 = .ok (.ireturn, 1) := by decide +kernel
theorem dLaw_519 : decode cLaw 519 = .ok (.goto 1002, 3) := by decide +kernel
theorem dLaw_522 : decode cLaw 522 = .ok (.aload_n 1, 1) := by decide +kernel
theorem dLaw_523 : decode cLaw 523 = .ok (.aload_n 0, 1) := by decide +kernel
theorem dLaw_524 : decode cLaw 524 = .ok (.iload 4, 2) := by decide +kernel
theorem dLaw_526 : decode cLaw 526 = .ok (.iconst 1, 1) := by decide +kernel
theorem dLaw_527 : decode cLaw 527 = .ok (.iadd, 1) := by decide +kernel
theorem dLaw_528 : decode cLaw 528 = .ok (.iaload, 1) := by decide +kernel
theorem dLaw_529 : decode cLaw 529 = .ok (.aload_n 0, 1) := by decide +kernel
theorem dLaw_530 : decode cLaw 530 = .ok (.iload 4, 2) := by decide +kernel
theorem dLaw_532 : decode cLaw 532 = .ok (.iconst 2, 1) := by decide +kernel
theorem dLaw_533 : decode cLaw 533 = .ok (.iadd, 1) := by decide +kernel
theorem dLaw_534 : decode cLaw 534 = .ok (.iaload, 1) := by decide +kernel
theorem dLaw_535 : decode cLaw 535 = .ok (.aload_n 3, 1) := by decide +kernel
theorem dLaw_536 : decode cLaw 536 = .ok (.invokestatic 102, 3) := by decide +kernel
theorem dLaw_539 : decode cLaw 539 = .ok (.istore 5, 2) := by decide +kernel
theorem dLaw_541 : decode cLaw 541 = .ok (.aload_n 2, 1) := by decide +kernel
theorem dLaw_542 : decode cLaw 542 = .ok (.aload_n 0, 1) := by decide +kernel
theorem dLaw_543 : decode cLaw 543 = .ok (.iload 4, 2) := by decide +kernel
theorem dLaw_545 : decode cLaw 545 = .ok (.iconst 1, 1) := by decide +kernel
theorem dLaw_546 : decode cLaw 546 = .ok (.iadd, 1) := by decide +kernel
theorem dLaw_547 : decode cLaw 547 = .ok (.iaload, 1) := by decide +kernel
theorem dLaw_548 : decode cLaw 548 = .ok (.aload_n 0, 1) := by decide +kernel
theorem dLaw_549 : decode cLaw 549 = .ok (.iload 4, 2) := by decide +kernel
theorem dLaw_551 : decode cLaw 551 = .ok (.iconst 2, 1) := by decide +kernel
theorem dLaw_552 : decode cLaw 552 = .ok (.iadd, 1) := by decide +kernel
theorem dLaw_553 : decode cLaw 553 = .ok (.iaload, 1) := by decide +kernel
theorem dLaw_554 : decode cLaw 554 = .ok (.invokevirtual 104, 3) := by decide +kernel
theorem dLaw_557 : decode cLaw 557 = .ok (.istore 6, 2) := by decide +kernel
theorem dLaw_559 : decode cLaw 559 = .ok (.aload_n 2, 1) := by decide +kernel
theorem dLaw_560 : decode cLaw 560 = .ok (.invokevirtual 83, 3) := by decide +kernel
theorem dLaw_563 : decode cLaw 563 = .ok (.iload 5, 2) := by decide +kernel
theorem dLaw_565 : decode cLaw 565 = .ok (.if_icmp .eq 5, 3) := by decide +kernel
theorem dLaw_568 : decode cLaw 568 = .ok (.iconst 0, 1) := by decide +kernel
theorem dLaw_569 : decode cLaw 569 = .ok (.ireturn, 1) := by decide +kernel
theorem dLaw_570 : decode cLaw 570 = .ok (.iload 5, 2) := by decide +kernel
theorem dLaw_572 : decode cLaw 572 = .ok (.ifCond .ne 15, 3) := by decide +kernel
theorem dLaw_575 : decode cLaw 575 = .ok (.aload_n 3, 1) := by decide +kernel
theorem dLaw_576 : decode cLaw 576 = .ok (.iconst 0, 1) := by decide +kernel
theorem dLaw_577 : decode cLaw 577 = .ok (.laload, 1) := by decide +kernel
theorem dLaw_578 : decode cLaw 578 = .ok (.iload 6, 2) := by decide +kernel
theorem dLaw_580 : decode cLaw 580 = .ok (.i2l, 1) := by decide +kernel
theorem dLaw_581 : decode cLaw 581 = .ok (.lcmp, 1) := by decide +kernel
theorem dLaw_582 : decode cLaw 582 = .ok (.ifCond .eq 5, 3) := by decide +kernel
theorem dLaw_585 : decode cLaw 585 = .ok (.iconst 0, 1) := by decide +kernel
theorem dLaw_586 : decode cLaw 586 = .ok (.ireturn, 1) := by decide +kernel
theorem dLaw_587 : decode cLaw 587 = .ok (.goto 934, 3) := by decide +kernel
theorem dLaw_590 : decode cLaw 590 = .ok (.aload_n 1, 1) := by decide +kernel
theorem dLaw_591 : decode cLaw 591 = .ok (.invokevirtual 105, 3) := by decide +kernel
theorem dLaw_594 : decode cLaw 594 = .ok (.aload_n 2, 1) := by decide +kernel
theorem dLaw_595 : decode cLaw 595 = .ok (.invokevirtual 109, 3) := by decide +kernel
theorem dLaw_598 : decode cLaw 598 = .ok (.lcmp, 1) := by decide +kernel
theorem dLaw_599 : decode cLaw 599 = .ok (.ifCond .eq 922, 3) := by decide +kernel
theorem dLaw_602 : decode cLaw 602 = .ok (.iconst 0, 1) := by decide +kernel
theorem dLaw_603 : decode cLaw 603 = .ok (.ireturn, 1) := by decide +kernel
theorem dLaw_604 : decode cLaw 604 = .ok (.aload_n 1, 1) := by decide +kernel
theorem dLaw_605 : decode cLaw 605 = .ok (.aload_n 0, 1) := by decide +kernel
theorem dLaw_606 : decode cLaw 606 = .ok (.iload 4, 2) := by decide +kernel
theorem dLaw_608 : decode cLaw 608 = .ok (.iconst 1, 1) := by decide +kernel
theorem dLaw_609 : decode cLaw 609 = .ok (.iadd, 1) := by decide +kernel
theorem dLaw_610 : decode cLaw 610 = .ok (.iaload, 1) := by decide +kernel
theorem dLaw_611 : decode cLaw 611 = .ok (.aload_n 0, 1) := by decide +kernel
theorem dLaw_612 : decode cLaw 612 = .ok (.iload 4, 2) := by decide +kernel
theorem dLaw_614 : decode cLaw 614 = .ok (.iconst 2, 1) := by decide +kernel
theorem dLaw_615 : decode cLaw 615 = .ok (.iadd, 1) := by decide +kernel
theorem dLaw_616 : decode cLaw 616 = .ok (.iaload, 1) := by decide +kernel
theorem dLaw_617 : decode cLaw 617 = .ok (.aload_n 3, 1) := by decide +kernel
theorem dLaw_618 : decode cLaw 618 = .ok (.invokestatic 110, 3) := by decide +kernel
theorem dLaw_621 : decode cLaw 621 = .ok (.istore 5, 2) := by decide +kernel
theorem dLaw_623 : decode cLaw 623 = .ok (.aload_n 2, 1) := by decide +kernel
theorem dLaw_624 : decode cLaw 624 = .ok (.aload_n 0, 1) := by decide +kernel
theorem dLaw_625 : decode cLaw 625 = .ok (.iload 4, 2) := by decide +kernel
theorem dLaw_627 : decode cLaw 627 = .ok (.iconst 1, 1) := by decide +kernel
theorem dLaw_628 : decode cLaw 628 = .ok (.iadd, 1) := by decide +kernel
theorem dLaw_629 : decode cLaw 629 = .ok (.iaload, 1) := by decide +kernel
theorem dLaw_630 : decode cLaw 630 = .ok (.aload_n 0, 1) := by decide +kernel
theorem dLaw_631 : decode cLaw 631 = .ok (.iload 4, 2) := by decide +kernel
theorem dLaw_633 : decode cLaw 633 = .ok (.iconst 2, 1) := by decide +kernel
theorem dLaw_634 : decode cLaw 634 = .ok (.iadd, 1) := by decide +kernel
theorem dLaw_635 : decode cLaw 635 = .ok (.iaload, 1) := by decide +kernel
theorem dLaw_636 : decode cLaw 636 = .ok (.invokevirtual 112, 3) := by decide +kernel
theorem dLaw_639 : decode cLaw 639 = .ok (.istore 6, 2) := by decide +kernel
theorem dLaw_641 : decode cLaw 641 = .ok (.aload_n 2, 1) := by decide +kernel
theorem dLaw_642 : decode cLaw 642 = .ok (.invokevirtual 83, 3) := by decide +kernel
theorem dLaw_645 : decode cLaw 645 = .ok (.iload 5, 2) := by decide +kernel
theorem dLaw_647 : decode cLaw 647 = .ok (.if_icmp .eq 5, 3) := by decide +kernel
theorem dLaw_650 : decode cLaw 650 = .ok (.iconst 0, 1) := by decide +kernel
theorem dLaw_651 : decode cLaw 651 = .ok (.ireturn, 1) := by decide +kernel
theorem dLaw_652 : decode cLaw 652 = .ok (.iload 5, 2) := by decide +kernel
theorem dLaw_654 : decode cLaw 654 = .ok (.ifCond .ne 15, 3) := by decide +kernel
theorem dLaw_657 : decode cLaw 657 = .ok (.aload_n 3, 1) := by decide +kernel
theorem dLaw_658 : decode cLaw 658 = .ok (.iconst 0, 1) := by decide +kernel
theorem dLaw_659 : decode cLaw 659 = .ok (.laload, 1) := by decide +kernel
theorem dLaw_660 : decode cLaw 660 = .ok (.iload 6, 2) := by decide +kernel
theorem dLaw_662 : decode cLaw 662 = .ok (.i2l, 1) := by decide +kernel
theorem dLaw_663 : decode cLaw 663 = .ok (.lcmp, 1) := by decide +kernel
theorem dLaw_664 : decode cLaw 664 = .ok (.ifCond .eq 5, 3) := by decide +kernel
theorem dLaw_667 : decode cLaw 667 = .ok (.iconst 0, 1) := by decide +kernel
theorem dLaw_668 : decode cLaw 668 = .ok (.ireturn, 1) := by decide +kernel
theorem dLaw_669 : decode cLaw 669 = .ok (.goto 852, 3) := by decide +kernel
theorem dLaw_672 : decode cLaw 672 = .ok (.aload_n 1, 1) := by decide +kernel
theorem dLaw_673 : decode cLaw 673 = .ok (.aload_n 0, 1) := by decide +kernel
theorem dLaw_674 : decode cLaw 674 = .ok (.iload 4, 2) := by decide +kernel
theorem dLaw_676 : decode cLaw 676 = .ok (.iconst 1, 1) := by decide +kernel
theorem dLaw_677 : decode cLaw 677 = .ok (.iadd, 1) := by decide +kernel
theorem dLaw_678 : decode cLaw 678 = .ok (.iaload, 1) := by decide +kernel
theorem dLaw_679 : decode cLaw 679 = .ok (.invokevirtual 113, 3) := by decide +kernel
theorem dLaw_682 : decode cLaw 682 = .ok (.aload_n 2, 1) := by decide +kernel
theorem dLaw_683 : decode cLaw 683 = .ok (.aload_n 0, 1) := by decide +kernel
theorem dLaw_684 : decode cLaw 684 = .ok (.iload 4, 2) := by decide +kernel
theorem dLaw_686 : decode cLaw 686 = .ok (.iconst 1, 1) := by decide +kernel
theorem dLaw_687 : decode cLaw 687 = .ok (.iadd, 1) := by decide +kernel
theorem dLaw_688 : decode cLaw 688 = .ok (.iaload, 1) := by decide +kernel
theorem dLaw_689 : decode cLaw 689 = .ok (.invokevirtual 116, 3) := by decide +kernel
theorem dLaw_692 : decode cLaw 692 = .ok (.if_icmp .eq 829, 3) := by decide +kernel
theorem dLaw_695 : decode cLaw 695 = .ok (.iconst 0, 1) := by decide +kernel
theorem dLaw_696 : decode cLaw 696 = .ok (.ireturn, 1) := by decide +kernel
theorem dLaw_697 : decode cLaw 697 = .ok (.aload_n 1, 1) := by decide +kernel
theorem dLaw_698 : decode cLaw 698 = .ok (.aload_n 0, 1) := by decide +kernel
theorem dLaw_699 : decode cLaw 699 = .ok (.iload 4, 2) := by decide +kernel
theorem dLaw_701 : decode cLaw 701 = .ok (.iconst 1, 1) := by decide +kernel
theorem dLaw_702 : decode cLaw 702 = .ok (.iadd, 1) := by decide +kernel
theorem dLaw_703 : decode cLaw 703 = .ok (.iaload, 1) := by decide +kernel
theorem dLaw_704 : decode cLaw 704 = .ok (.aload_n 0, 1) := by decide +kernel
theorem dLaw_705 : decode cLaw 705 = .ok (.iload 4, 2) := by decide +kernel
theorem dLaw_707 : decode cLaw 707 = .ok (.iconst 2, 1) := by decide +kernel
theorem dLaw_708 : decode cLaw 708 = .ok (.iadd, 1) := by decide +kernel
theorem dLaw_709 : decode cLaw 709 = .ok (.iaload, 1) := by decide +kernel
theorem dLaw_710 : decode cLaw 710 = .ok (.aload_n 3, 1) := by decide +kernel
theorem dLaw_711 : decode cLaw 711 = .ok (.invokestatic 117, 3) := by decide +kernel
theorem dLaw_714 : decode cLaw 714 = .ok (.istore 5, 2) := by decide +kernel
theorem dLaw_716 : decode cLaw 716 = .ok (.aload_n 2, 1) := by decide +kernel
theorem dLaw_717 : decode cLaw 717 = .ok (.aload_n 0, 1) := by decide +kernel
theorem dLaw_718 : decode cLaw 718 = .ok (.iload 4, 2) := by decide +kernel
theorem dLaw_720 : decode cLaw 720 = .ok (.iconst 1, 1) := by decide +kernel
theorem dLaw_721 : decode cLaw 721 = .ok (.iadd, 1) := by decide +kernel
theorem dLaw_722 : decode cLaw 722 = .ok (.iaload, 1) := by decide +kernel
theorem dLaw_723 : decode cLaw 723 = .ok (.aload_n 0, 1) := by decide +kernel
theorem dLaw_724 : decode cLaw 724 = .ok (.iload 4, 2) := by decide +kernel
theorem dLaw_726 : decode cLaw 726 = .ok (.iconst 2, 1) := by decide +kernel
theorem dLaw_727 : decode cLaw 727 = .ok (.iadd, 1) := by decide +kernel
theorem dLaw_728 : decode cLaw 728 = .ok (.iaload, 1) := by decide +kernel
theorem dLaw_729 : decode cLaw 729 = .ok (.invokevirtual 119, 3) := by decide +kernel
theorem dLaw_732 : decode cLaw 732 = .ok (.istore 6, 2) := by decide +kernel
theorem dLaw_734 : decode cLaw 734 = .ok (.aload_n 2, 1) := by decide +kernel
theorem dLaw_735 : decode cLaw 735 = .ok (.invokevirtual 83, 3) := by decide +kernel
theorem dLaw_738 : decode cLaw 738 = .ok (.iload 5, 2) := by decide +kernel
theorem dLaw_740 : decode cLaw 740 = .ok (.if_icmp .eq 5, 3) := by decide +kernel
theorem dLaw_743 : decode cLaw 743 = .ok (.iconst 0, 1) := by decide +kernel
theorem dLaw_744 : decode cLaw 744 = .ok (.ireturn, 1) := by decide +kernel
theorem dLaw_745 : decode cLaw 745 = .ok (.iload 5, 2) := by decide +kernel
theorem dLaw_747 : decode cLaw 747 = .ok (.ifCond .ne 15, 3) := by decide +kernel
theorem dLaw_750 : decode cLaw 750 = .ok (.aload_n 3, 1) := by decide +kernel
theorem dLaw_751 : decode cLaw 751 = .ok (.iconst 0, 1) := by decide +kernel
theorem dLaw_752 : decode cLaw 752 = .ok (.laload, 1) := by decide +kernel
theorem dLaw_753 : decode cLaw 753 = .ok (.iload 6, 2) := by decide +kernel
theorem dLaw_755 : decode cLaw 755 = .ok (.i2l, 1) := by decide +kernel
theorem dLaw_756 : decode cLaw 756 = .ok (.lcmp, 1) := by decide +kernel
theorem dLaw_757 : decode cLaw 757 = .ok (.ifCond .eq 5, 3) := by decide +kernel
theorem dLaw_760 : decode cLaw 760 = .ok (.iconst 0, 1) := by decide +kernel
theorem dLaw_761 : decode cLaw 761 = .ok (.ireturn, 1) := by decide +kernel
theorem dLaw_762 : decode cLaw 762 = .ok (.goto 759, 3) := by decide +kernel
theorem dLaw_765 : decode cLaw 765 = .ok (.aload_n 1, 1) := by decide +kernel
theorem dLaw_766 : decode cLaw 766 = .ok (.aload_n 0, 1) := by decide +kernel
theorem dLaw_767 : decode cLaw 767 = .ok (.iload 4, 2) := by decide +kernel
theorem dLaw_769 : decode cLaw 769 = .ok (.iconst 1, 1) := by decide +kernel
theorem dLaw_770 : decode cLaw 770 = .ok (.iadd, 1) := by decide +kernel
theorem dLaw_771 : decode cLaw 771 = .ok (.iaload, 1) := by decide +kernel
theorem dLaw_772 : decode cLaw 772 = .ok (.invokevirtual 120, 3) := by decide +kernel
theorem dLaw_775 : decode cLaw 775 = .ok (.aload_n 2, 1) := by decide +kernel
theorem dLaw_776 : decode cLaw 776 = .ok (.aload_n 0, 1) := by decide +kernel
theorem dLaw_777 : decode cLaw 777 = .ok (.iload 4, 2) := by decide +kernel
theorem dLaw_779 : decode cLaw 779 = .ok (.iconst 1, 1) := by decide +kernel
theorem dLaw_780 : decode cLaw 780 = .ok (.iadd, 1) := by decide +kernel
theorem dLaw_781 : decode cLaw 781 = .ok (.iaload, 1) := by decide +kernel
theorem dLaw_782 : decode cLaw 782 = .ok (.invokevirtual 123, 3) := by decide +kernel
theorem dLaw_785 : decode cLaw 785 = .ok (.if_icmp .eq 736, 3) := by decide +kernel
theorem dLaw_788 : decode cLaw 788 = .ok (.iconst 0, 1) := by decide +kernel
theorem dLaw_789 : decode cLaw 789 = .ok (.ireturn, 1) := by decide +kernel
theorem dLaw_790 : decode cLaw 790 = .ok (.aload_n 1, 1) := by decide +kernel
theorem dLaw_791 : decode cLaw 791 = .ok (.invokevirtual 124, 3) := by decide +kernel
theorem dLaw_794 : decode cLaw 794 = .ok (.aload_n 2, 1) := by decide +kernel
theorem dLaw_795 : decode cLaw 795 = .ok (.invokevirtual 127, 3) := by decide +kernel
theorem dLaw_798 : decode cLaw 798 = .ok (.if_icmp .eq 723, 3) := by decide +kernel
theorem dLaw_801 : decode cLaw 801 = .ok (.iconst 0, 1) := by decide +kernel
theorem dLaw_802 : decode cLaw 802 = .ok (.ireturn, 1) := by decide +kernel
theorem dLaw_803 : decode cLaw 803 = .ok (.aload_n 1, 1) := by decide +kernel
theorem dLaw_804 : decode cLaw 804 = .ok (.aload_n 0, 1) := by decide +kernel
theorem dLaw_805 : decode cLaw 805 = .ok (.iload 4, 2) := by decide +kernel
theorem dLaw_807 : decode cLaw 807 = .ok (.iconst 1, 1) := by decide +kernel
theorem dLaw_808 : decode cLaw 808 = .ok (.iadd, 1) := by decide +kernel
theorem dLaw_809 : decode cLaw 809 = .ok (.iaload, 1) := by decide +kernel
theorem dLaw_810 : decode cLaw 810 = .ok (.aload_n 0, 1) := by decide +kernel
theorem dLaw_811 : decode cLaw 811 = .ok (.iload 4, 2) := by decide +kernel
theorem dLaw_813 : decode cLaw 813 = .ok (.iconst 2, 1) := by decide +kernel
theorem dLaw_814 : decode cLaw 814 = .ok (.iadd, 1) := by decide +kernel
theorem dLaw_815 : decode cLaw 815 = .ok (.iaload, 1) := by decide +kernel
theorem dLaw_816 : decode cLaw 816 = .ok (.aload_n 0, 1) := by decide +kernel
theorem dLaw_817 : decode cLaw 817 = .ok (.iload 4, 2) := by decide +kernel
theorem dLaw_819 : decode cLaw 819 = .ok (.iconst 3, 1) := by decide +kernel
theorem dLaw_820 : decode cLaw 820 = .ok (.iadd, 1) := by decide +kernel
theorem dLaw_821 : decode cLaw 821 = .ok (.iaload, 1) := by decide +kernel
theorem dLaw_822 : decode cLaw 822 = .ok (.aload_n 3, 1) := by decide +kernel
theorem dLaw_823 : decode cLaw 823 = .ok (.invokestatic 128, 3) := by decide +kernel
theorem dLaw_826 : decode cLaw 826 = .ok (.istore 5, 2) := by decide +kernel
theorem dLaw_828 : decode cLaw 828 = .ok (.aload_n 2, 1) := by decide +kernel
theorem dLaw_829 : decode cLaw 829 = .ok (.aload_n 0, 1) := by decide +kernel
theorem dLaw_830 : decode cLaw 830 = .ok (.iload 4, 2) := by decide +kernel
theorem dLaw_832 : decode cLaw 832 = .ok (.iconst 1, 1) := by decide +kernel
theorem dLaw_833 : decode cLaw 833 = .ok (.iadd, 1) := by decide +kernel
theorem dLaw_834 : decode cLaw 834 = .ok (.iaload, 1) := by decide +kernel
theorem dLaw_835 : decode cLaw 835 = .ok (.aload_n 0, 1) := by decide +kernel
theorem dLaw_836 : decode cLaw 836 = .ok (.iload 4, 2) := by decide +kernel
theorem dLaw_838 : decode cLaw 838 = .ok (.iconst 2, 1) := by decide +kernel
theorem dLaw_839 : decode cLaw 839 = .ok (.iadd, 1) := by decide +kernel
theorem dLaw_840 : decode cLaw 840 = .ok (.iaload, 1) := by decide +kernel
theorem dLaw_841 : decode cLaw 841 = .ok (.aload_n 0, 1) := by decide +kernel
theorem dLaw_842 : decode cLaw 842 = .ok (.iload 4, 2) := by decide +kernel
theorem dLaw_844 : decode cLaw 844 = .ok (.iconst 3, 1) := by decide +kernel
theorem dLaw_845 : decode cLaw 845 = .ok (.iadd, 1) := by decide +kernel
theorem dLaw_846 : decode cLaw 846 = .ok (.iaload, 1) := by decide +kernel
theorem dLaw_847 : decode cLaw 847 = .ok (.invokevirtual 131, 3) := by decide +kernel
theorem dLaw_850 : decode cLaw 850 = .ok (.istore 6, 2) := by decide +kernel
theorem dLaw_852 : decode cLaw 852 = .ok (.aload_n 2, 1) := by decide +kernel
theorem dLaw_853 : decode cLaw 853 = .ok (.invokevirtual 83, 3) := by decide +kernel
