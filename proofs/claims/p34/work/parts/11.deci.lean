theorem dL_act_537 : decode cL_act 537 = .ok (.if_icmp .ge 204, 3) := by decide +kernel
theorem dL_act_540 : decode cL_act 540 = .ok (.iload_n 2, 1) := by decide +kernel
theorem dL_act_541 : decode cL_act 541 = .ok (.aload 4, 2) := by decide +kernel
theorem dL_act_543 : decode cL_act 543 = .ok (.aload 5, 2) := by decide +kernel
theorem dL_act_545 : decode cL_act 545 = .ok (.invokestatic 21, 3) := by decide +kernel
theorem dL_act_548 : decode cL_act 548 = .ok (.invokestatic 99, 3) := by decide +kernel
theorem dL_act_551 : decode cL_act 551 = .ok (.istore 9, 2) := by decide +kernel
theorem dL_act_553 : decode cL_act 553 = .ok (.iload 9, 2) := by decide +kernel
theorem dL_act_555 : decode cL_act 555 = .ok (.iload_n 3, 1) := by decide +kernel
theorem dL_act_556 : decode cL_act 556 = .ok (.aload 4, 2) := by decide +kernel
theorem dL_act_558 : decode cL_act 558 = .ok (.aload 5, 2) := by decide +kernel
theorem dL_act_560 : decode cL_act 560 = .ok (.invokestatic 21, 3) := by decide +kernel
theorem dL_act_563 : decode cL_act 563 = .ok (.iload 9, 2) := by decide +kernel
theorem dL_act_565 : decode cL_act 565 = .ok (.isub, 1) := by decide +kernel
theorem dL_act_566 : decode cL_act 566 = .ok (.invokestatic 99, 3) := by decide +kernel
theorem dL_act_569 : decode cL_act 569 = .ok (.iadd, 1) := by decide +kernel
theorem dL_act_570 : decode cL_act 570 = .ok (.istore 10, 2) := by decide +kernel
theorem dL_act_572 : decode cL_act 572 = .ok (.iload_n 3, 1) := by decide +kernel
theorem dL_act_573 : decode cL_act 573 = .ok (.iconst 4, 1) := by decide +kernel
theorem dL_act_574 : decode cL_act 574 = .ok (.ishr, 1) := by decide +kernel
theorem dL_act_575 : decode cL_act 575 = .ok (.iload 10, 2) := by decide +kernel
theorem dL_act_577 : decode cL_act 577 = .ok (.iload 9, 2) := by decide +kernel
theorem dL_act_579 : decode cL_act 579 = .ok (.isub, 1) := by decide +kernel
theorem dL_act_580 : decode cL_act 580 = .ok (.iconst 1, 1) := by decide +kernel
theorem dL_act_581 : decode cL_act 581 = .ok (.iadd, 1) := by decide +kernel
theorem dL_act_582 : decode cL_act 582 = .ok (.invokestatic 99, 3) := by decide +kernel
theorem dL_act_585 : decode cL_act 585 = .ok (.istore 11, 2) := by decide +kernel
theorem dL_act_587 : decode cL_act 587 = .ok (.aload 4, 2) := by decide +kernel
theorem dL_act_589 : decode cL_act 589 = .ok (.iconst 5, 1) := by decide +kernel
theorem dL_act_590 : decode cL_act 590 = .ok (.iaload, 1) := by decide +kernel
theorem dL_act_591 : decode cL_act 591 = .ok (.iconst 2, 1) := by decide +kernel
theorem dL_act_592 : decode cL_act 592 = .ok (.if_icmp .ne 22, 3) := by decide +kernel
theorem dL_act_595 : decode cL_act 595 = .ok (.aload 4, 2) := by decide +kernel
theorem dL_act_597 : decode cL_act 597 = .ok (.iconst 5, 1) := by decide +kernel
theorem dL_act_598 : decode cL_act 598 = .ok (.iconst 0, 1) := by decide +kernel
theorem dL_act_599 : decode cL_act 599 = .ok (.iastore, 1) := by decide +kernel
theorem dL_act_600 : decode cL_act 600 = .ok (.aload_n 0, 1) := by decide +kernel
theorem dL_act_601 : decode cL_act 601 = .ok (.invokevirtual 169, 3) := by decide +kernel
theorem dL_act_604 : decode cL_act 604 = .ok (.iconst 2, 1) := by decide +kernel
theorem dL_act_605 : decode cL_act 605 = .ok (.if_icmp .ne 7, 3) := by decide +kernel
theorem dL_act_608 : decode cL_act 608 = .ok (.iconst 1, 1) := by decide +kernel
theorem dL_act_609 : decode cL_act 609 = .ok (.goto 4, 3) := by decide +kernel
theorem dL_act_612 : decode cL_act 612 = .ok (.iconst 0, 1) := by decide +kernel
theorem dL_act_613 : decode cL_act 613 = .ok (.ireturn, 1) := by decide +kernel
theorem dL_act_614 : decode cL_act 614 = .ok (.iconst 0, 1) := by decide +kernel
theorem dL_act_615 : decode cL_act 615 = .ok (.istore 12, 2) := by decide +kernel
theorem dL_act_617 : decode cL_act 617 = .ok (.iload 12, 2) := by decide +kernel
theorem dL_act_619 : decode cL_act 619 = .ok (.aload 4, 2) := by decide +kernel
theorem dL_act_621 : decode cL_act 621 = .ok (.iconst 5, 1) := by decide +kernel
theorem dL_act_622 : decode cL_act 622 = .ok (.iaload, 1) := by decide +kernel
theorem dL_act_623 : decode cL_act 623 = .ok (.if_icmp .ge 37, 3) := by decide +kernel
theorem dL_act_626 : decode cL_act 626 = .ok (.aload 6, 2) := by decide +kernel
theorem dL_act_628 : decode cL_act 628 = .ok (.iconst 3, 1) := by decide +kernel
theorem dL_act_629 : decode cL_act 629 = .ok (.iload 12, 2) := by decide +kernel
theorem dL_act_631 : decode cL_act 631 = .ok (.imul, 1) := by decide +kernel
theorem dL_act_632 : decode cL_act 632 = .ok (.iaload, 1) := by decide +kernel
theorem dL_act_633 : decode cL_act 633 = .ok (.iload 10, 2) := by decide +kernel
theorem dL_act_635 : decode cL_act 635 = .ok (.if_icmp .gt 19, 3) := by decide +kernel
theorem dL_act_638 : decode cL_act 638 = .ok (.aload 6, 2) := by decide +kernel
theorem dL_act_640 : decode cL_act 640 = .ok (.iconst 3, 1) := by decide +kernel
theorem dL_act_641 : decode cL_act 641 = .ok (.iload 12, 2) := by decide +kernel
theorem dL_act_643 : decode cL_act 643 = .ok (.imul, 1) := by decide +kernel
theorem dL_act_644 : decode cL_act 644 = .ok (.iconst 1, 1) := by decide +kernel
theorem dL_act_645 : decode cL_act 645 = .ok (.iadd, 1) := by decide +kernel
theorem dL_act_646 : decode cL_act 646 = .ok (.iaload, 1) := by decide +kernel
theorem dL_act_647 : decode cL_act 647 = .ok (.iload 9, 2) := by decide +kernel
theorem dL_act_649 : decode cL_act 649 = .ok (.if_icmp .lt 5, 3) := by decide +kernel
theorem dL_act_652 : decode cL_act 652 = .ok (.iconst 1, 1) := by decide +kernel
theorem dL_act_653 : decode cL_act 653 = .ok (.ireturn, 1) := by decide +kernel
theorem dL_act_654 : decode cL_act 654 = .ok (.iinc 12 1, 3) := by decide +kernel
theorem dL_act_657 : decode cL_act 657 = .ok (.goto (-40), 3) := by decide +kernel
theorem dL_act_660 : decode cL_act 660 = .ok (.aload 6, 2) := by decide +kernel
theorem dL_act_662 : decode cL_act 662 = .ok (.iconst 3, 1) := by decide +kernel
theorem dL_act_663 : decode cL_act 663 = .ok (.aload 4, 2) := by decide +kernel
theorem dL_act_665 : decode cL_act 665 = .ok (.iconst 5, 1) := by decide +kernel
theorem dL_act_666 : decode cL_act 666 = .ok (.iaload, 1) := by decide +kernel
theorem dL_act_667 : decode cL_act 667 = .ok (.imul, 1) := by decide +kernel
theorem dL_act_668 : decode cL_act 668 = .ok (.iload 9, 2) := by decide +kernel
theorem dL_act_670 : decode cL_act 670 = .ok (.iastore, 1) := by decide +kernel
theorem dL_act_671 : decode cL_act 671 = .ok (.aload 6, 2) := by decide +kernel
theorem dL_act_673 : decode cL_act 673 = .ok (.iconst 3, 1) := by decide +kernel
theorem dL_act_674 : decode cL_act 674 = .ok (.aload 4, 2) := by decide +kernel
theorem dL_act_676 : decode cL_act 676 = .ok (.iconst 5, 1) := by decide +kernel
theorem dL_act_677 : decode cL_act 677 = .ok (.iaload, 1) := by decide +kernel
theorem dL_act_678 : decode cL_act 678 = .ok (.imul, 1) := by decide +kernel
theorem dL_act_679 : decode cL_act 679 = .ok (.iconst 1, 1) := by decide +kernel
theorem dL_act_680 : decode cL_act 680 = .ok (.iadd, 1) := by decide +kernel
theorem dL_act_681 : decode cL_act 681 = .ok (.iload 10, 2) := by decide +kernel
theorem dL_act_683 : decode cL_act 683 = .ok (.iastore, 1) := by decide +kernel
theorem dL_act_684 : decode cL_act 684 = .ok (.aload 6, 2) := by decide +kernel
theorem dL_act_686 : decode cL_act 686 = .ok (.iconst 3, 1) := by decide +kernel
theorem dL_act_687 : decode cL_act 687 = .ok (.aload 4, 2) := by decide +kernel
theorem dL_act_689 : decode cL_act 689 = .ok (.iconst 5, 1) := by decide +kernel
theorem dL_act_690 : decode cL_act 690 = .ok (.iaload, 1) := by decide +kernel
theorem dL_act_691 : decode cL_act 691 = .ok (.imul, 1) := by decide +kernel
theorem dL_act_692 : decode cL_act 692 = .ok (.iconst 2, 1) := by decide +kernel
theorem dL_act_693 : decode cL_act 693 = .ok (.iadd, 1) := by decide +kernel
theorem dL_act_694 : decode cL_act 694 = .ok (.iload 11, 2) := by decide +kernel
theorem dL_act_696 : decode cL_act 696 = .ok (.iastore, 1) := by decide +kernel
theorem dL_act_697 : decode cL_act 697 = .ok (.aload 4, 2) := by decide +kernel
theorem dL_act_699 : decode cL_act 699 = .ok (.iconst 5, 1) := by decide +kernel
theorem dL_act_700 : decode cL_act 700 = .ok (.dup2, 1) := by decide +kernel
theorem dL_act_701 : decode cL_act 701 = .ok (.iaload, 1) := by decide +kernel
theorem dL_act_702 : decode cL_act 702 = .ok (.iconst 1, 1) := by decide +kernel
theorem dL_act_703 : decode cL_act 703 = .ok (.iadd, 1) := by decide +kernel
theorem dL_act_704 : decode cL_act 704 = .ok (.iastore, 1) := by decide +kernel
theorem dL_act_705 : decode cL_act 705 = .ok (.bipush 30, 2) := by decide +kernel
theorem dL_act_707 : decode cL_act 707 = .ok (.newarray .int, 2) := by decide +kernel
theorem dL_act_709 : decode cL_act 709 = .ok (.astore 12, 2) := by decide +kernel
theorem dL_act_711 : decode cL_act 711 = .ok (.aload_n 0, 1) := by decide +kernel
theorem dL_act_712 : decode cL_act 712 = .ok (.iload 9, 2) := by decide +kernel
theorem dL_act_714 : decode cL_act 714 = .ok (.iload 10, 2) := by decide +kernel
theorem dL_act_716 : decode cL_act 716 = .ok (.iload 11, 2) := by decide +kernel
theorem dL_act_718 : decode cL_act 718 = .ok (.invokevirtual 172, 3) := by decide +kernel
theorem dL_act_721 : decode cL_act 721 = .ok (.aload 4, 2) := by decide +kernel
theorem dL_act_723 : decode cL_act 723 = .ok (.aload 5, 2) := by decide +kernel
theorem dL_act_725 : decode cL_act 725 = .ok (.aload 6, 2) := by decide +kernel
theorem dL_act_727 : decode cL_act 727 = .ok (.aload 12, 2) := by decide +kernel
theorem dL_act_729 : decode cL_act 729 = .ok (.invokestatic 79, 3) := by decide +kernel
theorem dL_act_732 : decode cL_act 732 = .ok (.if_icmp .ne 7, 3) := by decide +kernel
theorem dL_act_735 : decode cL_act 735 = .ok (.iconst 1, 1) := by decide +kernel
theorem dL_act_736 : decode cL_act 736 = .ok (.goto 4, 3) := by decide +kernel
theorem dL_act_739 : decode cL_act 739 = .ok (.iconst 0, 1) := by decide +kernel
theorem dL_act_740 : decode cL_act 740 = .ok (.ireturn, 1) := by decide +kernel
theorem dL_act_741 : decode cL_act 741 = .ok (.iload_n 1, 1) := by decide +kernel
theorem dL_act_742 : decode cL_act 742 = .ok (.bipush 15, 2) := by decide +kernel
theorem dL_act_744 : decode cL_act 744 = .ok (.if_icmp .ne 169, 3) := by decide +kernel
theorem dL_act_747 : decode cL_act 747 = .ok (.iload_n 2, 1) := by decide +kernel
theorem dL_act_748 : decode cL_act 748 = .ok (.bipush 15, 2) := by decide +kernel
theorem dL_act_750 : decode cL_act 750 = .ok (.invokestatic 99, 3) := by decide +kernel
theorem dL_act_753 : decode cL_act 753 = .ok (.bipush 7, 2) := by decide +kernel
theorem dL_act_755 : decode cL_act 755 = .ok (.isub, 1) := by decide +kernel
theorem dL_act_756 : decode cL_act 756 = .ok (.istore 9, 2) := by decide +kernel
theorem dL_act_758 : decode cL_act 758 = .ok (.iconst 0, 1) := by decide +kernel
theorem dL_act_759 : decode cL_act 759 = .ok (.istore 10, 2) := by decide +kernel
theorem dL_act_761 : decode cL_act 761 = .ok (.iload 10, 2) := by decide +kernel
theorem dL_act_763 : decode cL_act 763 = .ok (.aload 4, 2) := by decide +kernel
theorem dL_act_765 : decode cL_act 765 = .ok (.iconst 1, 1) := by decide +kernel
theorem dL_act_766 : decode cL_act 766 = .ok (.iaload, 1) := by decide +kernel
theorem dL_act_767 : decode cL_act 767 = .ok (.if_icmp .ge 62, 3) := by decide +kernel
theorem dL_act_770 : decode cL_act 770 = .ok (.iconst 1, 1) := by decide +kernel
theorem dL_act_771 : decode cL_act 771 = .ok (.istore 11, 2) := by decide +kernel
theorem dL_act_773 : decode cL_act 773 = .ok (.iload 11, 2) := by decide +kernel
theorem dL_act_775 : decode cL_act 775 = .ok (.iconst 5, 1) := by decide +kernel
theorem dL_act_776 : decode cL_act 776 = .ok (.if_icmp .ge 47, 3) := by decide +kernel
theorem dL_act_779 : decode cL_act 779 = .ok (.aload 5, 2) := by decide +kernel
theorem dL_act_781 : decode cL_act 781 = .ok (.iconst 5, 1) := by decide +kernel
theorem dL_act_782 : decode cL_act 782 = .ok (.iload 10, 2) := by decide +kernel
theorem dL_act_784 : decode cL_act 784 = .ok (.imul, 1) := by decide +kernel
theorem dL_act_785 : decode cL_act 785 = .ok (.iload 11, 2) := by decide +kernel
theorem dL_act_787 : decode cL_act 787 = .ok (.iadd, 1) := by decide +kernel
theorem dL_act_788 : decode cL_act 788 = .ok (.iaload, 1) := by decide +kernel
theorem dL_act_789 : decode cL_act 789 = .ok (.iload 9, 2) := by decide +kernel
theorem dL_act_791 : decode cL_act 791 = .ok (.iadd, 1) := by decide +kernel
theorem dL_act_792 : decode cL_act 792 = .ok (.bipush 36, 2) := by decide +kernel
theorem dL_act_794 : decode cL_act 794 = .ok (.if_icmp .lt 21, 3) := by decide +kernel
theorem dL_act_797 : decode cL_act 797 = .ok (.aload 5, 2) := by decide +kernel
theorem dL_act_799 : decode cL_act 799 = .ok (.iconst 5, 1) := by decide +kernel
theorem dL_act_800 : decode cL_act 800 = .ok (.iload 10, 2) := by decide +kernel
theorem dL_act_802 : decode cL_act 802 = .ok (.imul, 1) := by decide +kernel
theorem dL_act_803 : decode cL_act 803 = .ok (.iload 11, 2) := by decide +kernel
theorem dL_act_805 : decode cL_act 805 = .ok (.iadd, 1) := by decide +kernel
theorem dL_act_806 : decode cL_act 806 = .ok (.iaload, 1) := by decide +kernel
theorem dL_act_807 : decode cL_act 807 = .ok (.iload 9, 2) := by decide +kernel
theorem dL_act_809 : decode cL_act 809 = .ok (.iadd, 1) := by decide +kernel
theorem dL_act_810 : decode cL_act 810 = .ok (.bipush 84, 2) := by decide +kernel
theorem dL_act_812 : decode cL_act 812 = .ok (.if_icmp .le 5, 3) := by decide +kernel
theorem dL_act_815 : decode cL_act 815 = .ok (.iconst 1, 1) := by decide +kernel
theorem dL_act_816 : decode cL_act 816 = .ok (.ireturn, 1) := by decide +kernel
theorem dL_act_817 : decode cL_act 817 = .ok (.iinc 11 1, 3) := by decide +kernel
theorem dL_act_820 : decode cL_act 820 = .ok (.goto (-47), 3) := by decide +kernel
theorem dL_act_823 : decode cL_act 823 = .ok (.iinc 10 1, 3) := by decide +kernel
theorem dL_act_826 : decode cL_act 826 = .ok (.goto (-65), 3) := by decide +kernel
theorem dL_act_829 : decode cL_act 829 = .ok (.iconst 0, 1) := by decide +kernel
theorem dL_act_830 : decode cL_act 830 = .ok (.istore 10, 2) := by decide +kernel
theorem dL_act_832 : decode cL_act 832 = .ok (.iload 10, 2) := by decide +kernel
theorem dL_act_834 : decode cL_act 834 = .ok (.aload 4, 2) := by decide +kernel
theorem dL_act_836 : decode cL_act 836 = .ok (.iconst 1, 1) := by decide +kernel
theorem dL_act_837 : decode cL_act 837 = .ok (.iaload, 1) := by decide +kernel
theorem dL_act_838 : decode cL_act 838 = .ok (.if_icmp .ge 39, 3) := by decide +kernel
theorem dL_act_841 : decode cL_act 841 = .ok (.iconst 1, 1) := by decide +kernel
theorem dL_act_842 : decode cL_act 842 = .ok (.istore 11, 2) := by decide +kernel
theorem dL_act_844 : decode cL_act 844 = .ok (.iload 11, 2) := by decide +kernel
theorem dL_act_846 : decode cL_act 846 = .ok (.iconst 5, 1) := by decide +kernel
theorem dL_act_847 : decode cL_act 847 = .ok (.if_icmp .ge 24, 3) := by decide +kernel
theorem dL_act_850 : decode cL_act 850 = .ok (.aload 5, 2) := by decide +kernel
theorem dL_act_852 : decode cL_act 852 = .ok (.iconst 5, 1) := by decide +kernel
theorem dL_act_853 : decode cL_act 853 = .ok (.iload 10, 2) := by decide +kernel
theorem dL_act_855 : decode cL_act 855 = .ok (.imul, 1) := by decide +kernel
theorem dL_act_856 : decode cL_act 856 = .ok (.iload 11, 2) := by decide +kernel
theorem dL_act_858 : decode cL_act 858 = .ok (.iadd, 1) := by decide +kernel
theorem dL_act_859 : decode cL_act 859 = .ok (.dup2, 1) := by decide +kernel
theorem dL_act_860 : decode cL_act 860 = .ok (.iaload, 1) := by decide +kernel
theorem dL_act_861 : decode cL_act 861 = .ok (.iload 9, 2) := by decide +kernel
theorem dL_act_863 : decode cL_act 863 = .ok (.iadd, 1) := by decide +kernel
theorem dL_act_864 : decode cL_act 864 = .ok (.iastore, 1) := by decide +kernel
theorem dL_act_865 : decode cL_act 865 = .ok (.iinc 11 1, 3) := by decide +kernel
theorem dL_act_868 : decode cL_act 868 = .ok (.goto (-24), 3) := by decide +kernel
theorem dL_act_871 : decode cL_act 871 = .ok (.iinc 10 1, 3) := by decide +kernel
theorem dL_act_874 : decode cL_act 874 = .ok (.goto (-42), 3) := by decide +kernel
theorem dL_act_877 : decode cL_act 877 = .ok (.aload 4, 2) := by decide +kernel
theorem dL_act_879 : decode cL_act 879 = .ok (.iconst 0, 1) := by decide +kernel
theorem dL_act_880 : decode cL_act 880 = .ok (.aload 4, 2) := by decide +kernel
theorem dL_act_882 : decode cL_act 882 = .ok (.iconst 0, 1) := by decide +kernel
theorem dL_act_883 : decode cL_act 883 = .ok (.iaload, 1) := by decide +kernel
theorem dL_act_884 : decode cL_act 884 = .ok (.iload 9, 2) := by decide +kernel
theorem dL_act_886 : decode cL_act 886 = .ok (.iadd, 1) := by decide +kernel
theorem dL_act_887 : decode cL_act 887 = .ok (.bipush 12, 2) := by decide +kernel
theorem dL_act_889 : decode cL_act 889 = .ok (.iadd, 1) := by decide +kernel
theorem dL_act_890 : decode cL_act 890 = .ok (.bipush 12, 2) := by decide +kernel
theorem dL_act_892 : decode cL_act 892 = .ok (.irem, 1) := by decide +kernel
theorem dL_act_893 : decode cL_act 893 = .ok (.iastore, 1) := by decide +kernel
theorem dL_act_894 : decode cL_act 894 = .ok (.aload_n 0, 1) := by decide +kernel
theorem dL_act_895 : decode cL_act 895 = .ok (.iload 9, 2) := by decide +kernel
theorem dL_act_897 : decode cL_act 897 = .ok (.invokevirtual 175, 3) := by decide +kernel
theorem dL_act_900 : decode cL_act 900 = .ok (.aload 4, 2) := by decide +kernel
theorem dL_act_902 : decode cL_act 902 = .ok (.iconst 0, 1) := by decide +kernel
theorem dL_act_903 : decode cL_act 903 = .ok (.iaload, 1) := by decide +kernel
theorem dL_act_904 : decode cL_act 904 = .ok (.if_icmp .ne 7, 3) := by decide +kernel
theorem dL_act_907 : decode cL_act 907 = .ok (.iconst 1, 1) := by decide +kernel
theorem dL_act_908 : decode cL_act 908 = .ok (.goto 4, 3) := by decide +kernel
theorem dL_act_911 : decode cL_act 911 = .ok (.iconst 0, 1) := by decide +kernel
theorem dL_act_912 : decode cL_act 912 = .ok (.ireturn, 1) := by decide +kernel
theorem dL_act_913 : decode cL_act 913 = .ok (.iload_n 1, 1) := by decide +kernel
theorem dL_act_914 : decode cL_act 914 = .ok (.bipush 16, 2) := by decide +kernel
theorem dL_act_916 : decode cL_act 916 = .ok (.if_icmp .ne 53, 3) := by decide +kernel
theorem dL_act_919 : decode cL_act 919 = .ok (.aload 4, 2) := by decide +kernel
theorem dL_act_921 : decode cL_act 921 = .ok (.iconst 4, 1) := by decide +kernel
theorem dL_act_922 : decode cL_act 922 = .ok (.bipush 20, 2) := by decide +kernel
theorem dL_act_924 : decode cL_act 924 = .ok (.iload_n 2, 1) := by decide +kernel
theorem dL_act_925 : decode cL_act 925 = .ok (.iload_n 3, 1) := by decide +kernel
theorem dL_act_926 : decode cL_act 926 = .ok (.iconst 2, 1) := by decide +kernel
theorem dL_act_927 : decode cL_act 927 = .ok (.invokestatic 99, 3) := by decide +kernel
theorem dL_act_930 : decode cL_act 930 = .ok (.ifCond .ne 9, 3) := by decide +kernel
theorem dL_act_933 : decode cL_act 933 = .ok (.sipush 181, 3) := by decide +kernel
theorem dL_act_936 : decode cL_act 936 = .ok (.goto 5, 3) := by decide +kernel
theorem dL_act_939 : decode cL_act 939 = .ok (.bipush 25, 2) := by decide +kernel
theorem dL_act_941 : decode cL_act 941 = .ok (.invokestatic 99, 3) := by decide +kernel
theorem dL_act_944 : decode cL_act 944 = .ok (.iadd, 1) := by decide +kernel
theorem dL_act_945 : decode cL_act 945 = .ok (.iastore, 1) := by decide +kernel
theorem dL_act_946 : decode cL_act 946 = .ok (.aload_n 0, 1) := by decide +kernel
theorem dL_act_947 : decode cL_act 947 = .ok (.aload 4, 2) := by decide +kernel
theorem dL_act_949 : decode cL_act 949 = .ok (.iconst 4, 1) := by decide +kernel
theorem dL_act_950 : decode cL_act 950 = .ok (.iaload, 1) := by decide +kernel
theorem dL_act_951 : decode cL_act 951 = .ok (.invokevirtual 178, 3) := by decide +kernel
theorem dL_act_954 : decode cL_act 954 = .ok (.aload_n 0, 1) := by decide +kernel
theorem dL_act_955 : decode cL_act 955 = .ok (.bipush 10, 2) := by decide +kernel
theorem dL_act_957 : decode cL_act 957 = .ok (.invokevirtual 105, 3) := by decide +kernel
theorem dL_act_960 : decode cL_act 960 = .ok (.if_icmp .ne 7, 3) := by decide +kernel
theorem dL_act_963 : decode cL_act 963 = .ok (.iconst 1, 1) := by decide +kernel
theorem dL_act_964 : decode cL_act 964 = .ok (.goto 4, 3) := by decide +kernel
theorem dL_act_967 : decode cL_act 967 = .ok (.iconst 0, 1) := by decide +kernel
theorem dL_act_968 : decode cL_act 968 = .ok (.ireturn, 1) := by decide +kernel
theorem dL_act_969 : decode cL_act 969 = .ok (.iload_n 1, 1) := by decide +kernel
theorem dL_act_970 : decode cL_act 970 = .ok (.bipush 17, 2) := by decide +kernel
theorem dL_act_972 : decode cL_act 972 = .ok (.if_icmp .ne 90, 3) := by decide +kernel
theorem dL_act_975 : decode cL_act 975 = .ok (.iload_n 3, 1) := by decide +kernel
theorem dL_act_976 : decode cL_act 976 = .ok (.iconst 3, 1) := by decide +kernel
theorem dL_act_977 : decode cL_act 977 = .ok (.invokestatic 99, 3) := by decide +kernel
theorem dL_act_980 : decode cL_act 980 = .ok (.ifCond .ne 82, 3) := by decide +kernel
theorem dL_act_983 : decode cL_act 983 = .ok (.iload_n 2, 1) := by decide +kernel
theorem dL_act_984 : decode cL_act 984 = .ok (.iconst 2, 1) := by decide +kernel
theorem dL_act_985 : decode cL_act 985 = .ok (.invokestatic 99, 3) := by decide +kernel
theorem dL_act_988 : decode cL_act 988 = .ok (.istore 9, 2) := by decide +kernel
theorem dL_act_990 : decode cL_act 990 = .ok (.iconst 0, 1) := by decide +kernel
theorem dL_act_991 : decode cL_act 991 = .ok (.istore 10, 2) := by decide +kernel
theorem dL_act_993 : decode cL_act 993 = .ok (.iconst 0, 1) := by decide +kernel
theorem dL_act_994 : decode cL_act 994 = .ok (.istore 11, 2) := by decide +kernel
theorem dL_act_996 : decode cL_act 996 = .ok (.iload 11, 2) := by decide +kernel
theorem dL_act_998 : decode cL_act 998 = .ok (.bipush 8, 2) := by decide +kernel
theorem dL_act_1000 : decode cL_act 1000 = .ok (.if_icmp .ge 45, 3) := by decide +kernel
theorem dL_act_1003 : decode cL_act 1003 = .ok (.iload 10, 2) := by decide +kernel
theorem dL_act_1005 : decode cL_act 1005 = .ok (.aload 7, 2) := by decide +kernel
theorem dL_act_1007 : decode cL_act 1007 = .ok (.bipush 8, 2) := by decide +kernel
theorem dL_act_1009 : decode cL_act 1009 = .ok (.iload 9, 2) := by decide +kernel
theorem dL_act_1011 : decode cL_act 1011 = .ok (.imul, 1) := by decide +kernel
theorem dL_act_1012 : decode cL_act 1012 = .ok (.iload 11, 2) := by decide +kernel
theorem dL_act_1014 : decode cL_act 1014 = .ok (.iadd, 1) := by decide +kernel
theorem dL_act_1015 : decode cL_act 1015 = .ok (.iaload, 1) := by decide +kernel
theorem dL_act_1016 : decode cL_act 1016 = .ok (.ifCond .le 7, 3) := by decide +kernel
theorem dL_act_1019 : decode cL_act 1019 = .ok (.iconst 1, 1) := by decide +kernel
theorem dL_act_1020 : decode cL_act 1020 = .ok (.goto 4, 3) := by decide +kernel
theorem dL_act_1023 : decode cL_act 1023 = .ok (.iconst 0, 1) := by decide +kernel
theorem dL_act_1024 : decode cL_act 1024 = .ok (.iadd, 1) := by decide +kernel
theorem dL_act_1025 : decode cL_act 1025 = .ok (.istore 10, 2) := by decide +kernel
theorem dL_act_1027 : decode cL_act 1027 = .ok (.aload 7, 2) := by decide +kernel
theorem dL_act_1029 : decode cL_act 1029 = .ok (.bipush 8, 2) := by decide +kernel
theorem dL_act_1031 : decode cL_act 1031 = .ok (.iload 9, 2) := by decide +kernel
theorem dL_act_1033 : decode cL_act 1033 = .ok (.imul, 1) := by decide +kernel
theorem dL_act_1034 : decode cL_act 1034 = .ok (.iload 11, 2) := by decide +kernel
theorem dL_act_1036 : decode cL_act 1036 = .ok (.iadd, 1) := by decide +kernel
theorem dL_act_1037 : decode cL_act 1037 = .ok (.iconst 0, 1) := by decide +kernel
theorem dL_act_1038 : decode cL_act 1038 = .ok (.iastore, 1) := by decide +kernel
theorem dL_act_1039 : decode cL_act 1039 = .ok (.iinc 11 1, 3) := by decide +kernel
theorem dL_act_1042 : decode cL_act 1042 = .ok (.goto (-46), 3) := by decide +kernel
theorem dL_act_1045 : decode cL_act 1045 = .ok (.aload_n 0, 1) := by decide +kernel
theorem dL_act_1046 : decode cL_act 1046 = .ok (.iload 9, 2) := by decide +kernel
theorem dL_act_1048 : decode cL_act 1048 = .ok (.invokevirtual 181, 3) := by decide +kernel
theorem dL_act_1051 : decode cL_act 1051 = .ok (.iload 10, 2) := by decide +kernel
theorem dL_act_1053 : decode cL_act 1053 = .ok (.if_icmp .ne 7, 3) := by decide +kernel
theorem dL_act_1056 : decode cL_act 1056 = .ok (.iconst 1, 1) := by decide +kernel
theorem dL_act_1057 : decode cL_act 1057 = .ok (.goto 4, 3) := by decide +kernel
theorem dL_act_1060 : decode cL_act 1060 = .ok (.iconst 0, 1) := by decide +kernel
theorem dL_act_1061 : decode cL_act 1061 = .ok (.ireturn, 1) := by decide +kernel
theorem dL_act_1062 : decode cL_act 1062 = .ok (.aload_n 0, 1) := by decide +kernel
theorem dL_act_1063 : decode cL_act 1063 = .ok (.iload_n 2, 1) := by decide +kernel
theorem dL_act_1064 : decode cL_act 1064 = .ok (.iload_n 3, 1) := by decide +kernel
theorem dL_act_1065 : decode cL_act 1065 = .ok (.aload 7, 2) := by decide +kernel
theorem dL_act_1067 : decode cL_act 1067 = .ok (.invokestatic 184, 3) := by decide +kernel
theorem dL_act_1070 : decode cL_act 1070 = .ok (.ireturn, 1) := by decide +kernel
theorem dL_moved_0 : decode cL_moved 0 = .ok (.iload_n 0, 1) := by decide +kernel
theorem dL_moved_1 : decode cL_moved 1 = .ok (.iload_n 1, 1) := by decide +kernel
theorem dL_moved_2 : decode cL_moved 2 = .ok (.iadd, 1) := by decide +kernel
theorem dL_moved_3 : decode cL_moved 3 = .ok (.bipush 36, 2) := by decide +kernel
theorem dL_moved_5 : decode cL_moved 5 = .ok (.if_icmp .ge 8, 3) := by decide +kernel
theorem dL_moved_8 : decode cL_moved 8 = .ok (.bipush 36, 2) := by decide +kernel
theorem dL_moved_10 : decode cL_moved 10 = .ok (.goto 19, 3) := by decide +kernel
theorem dL_moved_13 : decode cL_moved 13 = .ok (.iload_n 0, 1) := by decide +kernel
theorem dL_moved_14 : decode cL_moved 14 = .ok (.iload_n 1, 1) := by decide +kernel
theorem dL_moved_15 : decode cL_moved 15 = .ok (.iadd, 1) := by decide +kernel
theorem dL_moved_16 : decode cL_moved 16 = .ok (.bipush 84, 2) := by decide +kernel
theorem dL_moved_18 : decode cL_moved 18 = .ok (.if_icmp .le 8, 3) := by decide +kernel
theorem dL_moved_21 : decode cL_moved 21 = .ok (.bipush 84, 2) := by decide +kernel
theorem dL_moved_23 : decode cL_moved 23 = .ok (.goto 6, 3) := by decide +kernel
theorem dL_moved_26 : decode cL_moved 26 = .ok (.iload_n 0, 1) := by decide +kernel
theorem dL_moved_27 : decode cL_moved 27 = .ok (.iload_n 1, 1) := by decide +kernel
theorem dL_moved_28 : decode cL_moved 28 = .ok (.iadd, 1) := by decide +kernel
theorem dL_moved_29 : decode cL_moved 29 = .ok (.ireturn, 1) := by decide +kernel
theorem dL_law_0 : decode cL_law 0 = .ok (.new 51, 3) := by decide +kernel
theorem dL_law_3 : decode cL_law 3 = .ok (.dup, 1) := by decide +kernel
theorem dL_law_4 : decode cL_law 4 = .ok (.invokespecial 187, 3) := by decide +kernel
theorem dL_law_7 : decode cL_law 7 = .ok (.astore_n 1, 1) := by decide +kernel
theorem dL_law_8 : decode cL_law 8 = .ok (.bipush 6, 2) := by decide +kernel
theorem dL_law_10 : decode cL_law 10 = .ok (.newarray .int, 2) := by decide +kernel
theorem dL_law_12 : decode cL_law 12 = .ok (.astore_n 2, 1) := by decide +kernel
theorem dL_law_13 : decode cL_law 13 = .ok (.bipush 60, 2) := by decide +kernel
theorem dL_law_15 : decode cL_law 15 = .ok (.newarray .int, 2) := by decide +kernel
theorem dL_law_17 : decode cL_law 17 = .ok (.astore_n 3, 1) := by decide +kernel
theorem dL_law_18 : decode cL_law 18 = .ok (.bipush 9, 2) := by decide +kernel
theorem dL_law_20 : decode cL_law 20 = .ok (.newarray .int, 2) := by decide +kernel
theorem dL_law_22 : decode cL_law 22 = .ok (.astore 4, 2) := by decide +kernel
theorem dL_law_24 : decode cL_law 24 = .ok (.bipush 16, 2) := by decide +kernel
theorem dL_law_26 : decode cL_law 26 = .ok (.newarray .int, 2) := by decide +kernel
theorem dL_law_28 : decode cL_law 28 = .ok (.astore 5, 2) := by decide +kernel
theorem dL_law_30 : decode cL_law 30 = .ok (.aload_n 2, 1) := by decide +kernel
theorem dL_law_31 : decode cL_law 31 = .ok (.iconst 0, 1) := by decide +kernel
theorem dL_law_32 : decode cL_law 32 = .ok (.aload_n 0, 1) := by decide +kernel
theorem dL_law_33 : decode cL_law 33 = .ok (.iconst 0, 1) := by decide +kernel
theorem dL_law_34 : decode cL_law 34 = .ok (.invokestatic 188, 3) := by decide +kernel
theorem dL_law_37 : decode cL_law 37 = .ok (.bipush 12, 2) := by decide +kernel
theorem dL_law_39 : decode cL_law 39 = .ok (.invokestatic 99, 3) := by decide +kernel
theorem dL_law_42 : decode cL_law 42 = .ok (.iastore, 1) := by decide +kernel
theorem dL_law_43 : decode cL_law 43 = .ok (.aload_n 2, 1) := by decide +kernel
theorem dL_law_44 : decode cL_law 44 = .ok (.iconst 2, 1) := by decide +kernel
theorem dL_law_45 : decode cL_law 45 = .ok (.iconst 4, 1) := by decide +kernel
theorem dL_law_46 : decode cL_law 46 = .ok (.iastore, 1) := by decide +kernel
theorem dL_law_47 : decode cL_law 47 = .ok (.aload_n 2, 1) := by decide +kernel
theorem dL_law_48 : decode cL_law 48 = .ok (.iconst 4, 1) := by decide +kernel
theorem dL_law_49 : decode cL_law 49 = .ok (.bipush 80, 2) := by decide +kernel
theorem dL_law_51 : decode cL_law 51 = .ok (.iastore, 1) := by decide +kernel
theorem dL_law_52 : decode cL_law 52 = .ok (.aload_n 1, 1) := by decide +kernel
theorem dL_law_53 : decode cL_law 53 = .ok (.iconst 2, 1) := by decide +kernel
theorem dL_law_54 : decode cL_law 54 = .ok (.invokevirtual 105, 3) := by decide +kernel
theorem dL_law_57 : decode cL_law 57 = .ok (.ifCond .ne 41, 3) := by decide +kernel
theorem dL_law_60 : decode cL_law 60 = .ok (.aload_n 1, 1) := by decide +kernel
theorem dL_law_61 : decode cL_law 61 = .ok (.bipush 12, 2) := by decide +kernel
theorem dL_law_63 : decode cL_law 63 = .ok (.invokevirtual 105, 3) := by decide +kernel
theorem dL_law_66 : decode cL_law 66 = .ok (.bipush 15, 2) := by decide +kernel
theorem dL_law_68 : decode cL_law 68 = .ok (.if_icmp .ne 30, 3) := by decide +kernel
theorem dL_law_71 : decode cL_law 71 = .ok (.aload_n 1, 1) := by decide +kernel
theorem dL_law_72 : decode cL_law 72 = .ok (.invokevirtual 108, 3) := by decide +kernel
theorem dL_law_75 : decode cL_law 75 = .ok (.dconst 0, 1) := by decide +kernel
theorem dL_law_76 : decode cL_law 76 = .ok (.dcmp .l, 1) := by decide +kernel
theorem dL_law_77 : decode cL_law 77 = .ok (.ifCond .ne 21, 3) := by decide +kernel
theorem dL_law_80 : decode cL_law 80 = .ok (.aload_n 1, 1) := by decide +kernel
theorem dL_law_81 : decode cL_law 81 = .ok (.invokevirtual 136, 3) := by decide +kernel
theorem dL_law_84 : decode cL_law 84 = .ok (.iconst (-1), 1) := by decide +kernel
theorem dL_law_85 : decode cL_law 85 = .ok (.if_icmp .ne 13, 3) := by decide +kernel
theorem dL_law_88 : decode cL_law 88 = .ok (.aload_n 1, 1) := by decide +kernel
theorem dL_law_89 : decode cL_law 89 = .ok (.aload_n 2, 1) := by decide +kernel
theorem dL_law_90 : decode cL_law 90 = .ok (.iconst 0, 1) := by decide +kernel
theorem dL_law_91 : decode cL_law 91 = .ok (.iaload, 1) := by decide +kernel
theorem dL_law_92 : decode cL_law 92 = .ok (.invokevirtual 192, 3) := by decide +kernel
theorem dL_law_95 : decode cL_law 95 = .ok (.ifCond .eq 5, 3) := by decide +kernel
theorem dL_law_98 : decode cL_law 98 = .ok (.iconst 0, 1) := by decide +kernel
theorem dL_law_99 : decode cL_law 99 = .ok (.ireturn, 1) := by decide +kernel
theorem dL_law_100 : decode cL_law 100 = .ok (.iconst 1, 1) := by decide +kernel
theorem dL_law_101 : decode cL_law 101 = .ok (.istore 6, 2) := by decide +kernel
theorem dL_law_103 : decode cL_law 103 = .ok (.iload 6, 2) := by decide +kernel
theorem dL_law_105 : decode cL_law 105 = .ok (.bipush 30, 2) := by decide +kernel
theorem dL_law_107 : decode cL_law 107 = .ok (.if_icmp .ge 101, 3) := by decide +kernel
theorem dL_law_110 : decode cL_law 110 = .ok (.aload_n 0, 1) := by decide +kernel
theorem dL_law_111 : decode cL_law 111 = .ok (.iconst 2, 1) := by decide +kernel
theorem dL_law_112 : decode cL_law 112 = .ok (.iload 6, 2) := by decide +kernel
theorem dL_law_114 : decode cL_law 114 = .ok (.imul, 1) := by decide +kernel
theorem dL_law_115 : decode cL_law 115 = .ok (.invokestatic 188, 3) := by decide +kernel
theorem dL_law_118 : decode cL_law 118 = .ok (.ldc 195, 2) := by decide +kernel
theorem dL_law_120 : decode cL_law 120 = .ok (.iand, 1) := by decide +kernel
theorem dL_law_121 : decode cL_law 121 = .ok (.istore 7, 2) := by decide +kernel
theorem dL_law_123 : decode cL_law 123 = .ok (.aload_n 0, 1) := by decide +kernel
