theorem d_LW_law_564 : decode code 564 = .ok (.iconst 1, 1) := by decide +kernel
theorem d_LW_law_565 : decode code 565 = .ok (.iadd, 1) := by decide +kernel
theorem d_LW_law_566 : decode code 566 = .ok (.iaload, 1) := by decide +kernel
theorem d_LW_law_567 : decode code 567 = .ok (.aload_n 0, 1) := by decide +kernel
theorem d_LW_law_568 : decode code 568 = .ok (.iload 4, 2) := by decide +kernel
theorem d_LW_law_570 : decode code 570 = .ok (.iconst 2, 1) := by decide +kernel
theorem d_LW_law_571 : decode code 571 = .ok (.iadd, 1) := by decide +kernel
theorem d_LW_law_572 : decode code 572 = .ok (.iaload, 1) := by decide +kernel
theorem d_LW_law_573 : decode code 573 = .ok (.aload_n 0, 1) := by decide +kernel
theorem d_LW_law_574 : decode code 574 = .ok (.iload 4, 2) := by decide +kernel
theorem d_LW_law_576 : decode code 576 = .ok (.iconst 3, 1) := by decide +kernel
theorem d_LW_law_577 : decode code 577 = .ok (.iadd, 1) := by decide +kernel
theorem d_LW_law_578 : decode code 578 = .ok (.iaload, 1) := by decide +kernel
theorem d_LW_law_579 : decode code 579 = .ok (.invokevirtual 128, 3) := by decide +kernel
theorem d_LW_law_582 : decode code 582 = .ok (.aload_n 2, 1) := by decide +kernel
theorem d_LW_law_583 : decode code 583 = .ok (.invokevirtual 104, 3) := by decide +kernel
theorem d_LW_law_586 : decode code 586 = .ok (.iload 5, 2) := by decide +kernel
theorem d_LW_law_588 : decode code 588 = .ok (.if_icmp .eq 5, 3) := by decide +kernel
theorem d_LW_law_591 : decode code 591 = .ok (.iconst 0, 1) := by decide +kernel
theorem d_LW_law_593 : decode code 593 = .ok (.goto 930, 3) := by decide +kernel
theorem d_LW_law_596 : decode code 596 = .ok (.aload_n 1, 1) := by decide +kernel
theorem d_LW_law_597 : decode code 597 = .ok (.aload_n 0, 1) := by decide +kernel
theorem d_LW_law_598 : decode code 598 = .ok (.iload 4, 2) := by decide +kernel
theorem d_LW_law_600 : decode code 600 = .ok (.iconst 1, 1) := by decide +kernel
theorem d_LW_law_601 : decode code 601 = .ok (.iadd, 1) := by decide +kernel
theorem d_LW_law_602 : decode code 602 = .ok (.iaload, 1) := by decide +kernel
theorem d_LW_law_603 : decode code 603 = .ok (.aload_n 0, 1) := by decide +kernel
theorem d_LW_law_604 : decode code 604 = .ok (.iload 4, 2) := by decide +kernel
theorem d_LW_law_606 : decode code 606 = .ok (.iconst 2, 1) := by decide +kernel
theorem d_LW_law_607 : decode code 607 = .ok (.iadd, 1) := by decide +kernel
theorem d_LW_law_608 : decode code 608 = .ok (.iaload, 1) := by decide +kernel
theorem d_LW_law_609 : decode code 609 = .ok (.aload_n 0, 1) := by decide +kernel
theorem d_LW_law_610 : decode code 610 = .ok (.iload 4, 2) := by decide +kernel
theorem d_LW_law_612 : decode code 612 = .ok (.iconst 3, 1) := by decide +kernel
theorem d_LW_law_613 : decode code 613 = .ok (.iadd, 1) := by decide +kernel
theorem d_LW_law_614 : decode code 614 = .ok (.iaload, 1) := by decide +kernel
theorem d_LW_law_615 : decode code 615 = .ok (.invokestatic 129, 3) := by decide +kernel
theorem d_LW_law_618 : decode code 618 = .ok (.istore 5, 2) := by decide +kernel
theorem d_LW_law_620 : decode code 620 = .ok (.aload_n 2, 1) := by decide +kernel
theorem d_LW_law_621 : decode code 621 = .ok (.aload_n 0, 1) := by decide +kernel
theorem d_LW_law_622 : decode code 622 = .ok (.iload 4, 2) := by decide +kernel
theorem d_LW_law_624 : decode code 624 = .ok (.iconst 1, 1) := by decide +kernel
theorem d_LW_law_625 : decode code 625 = .ok (.iadd, 1) := by decide +kernel
theorem d_LW_law_626 : decode code 626 = .ok (.iaload, 1) := by decide +kernel
theorem d_LW_law_627 : decode code 627 = .ok (.aload_n 0, 1) := by decide +kernel
theorem d_LW_law_628 : decode code 628 = .ok (.iload 4, 2) := by decide +kernel
theorem d_LW_law_630 : decode code 630 = .ok (.iconst 2, 1) := by decide +kernel
theorem d_LW_law_631 : decode code 631 = .ok (.iadd, 1) := by decide +kernel
theorem d_LW_law_632 : decode code 632 = .ok (.iaload, 1) := by decide +kernel
theorem d_LW_law_633 : decode code 633 = .ok (.aload_n 0, 1) := by decide +kernel
theorem d_LW_law_634 : decode code 634 = .ok (.iload 4, 2) := by decide +kernel
theorem d_LW_law_636 : decode code 636 = .ok (.iconst 3, 1) := by decide +kernel
theorem d_LW_law_637 : decode code 637 = .ok (.iadd, 1) := by decide +kernel
theorem d_LW_law_638 : decode code 638 = .ok (.iaload, 1) := by decide +kernel
theorem d_LW_law_639 : decode code 639 = .ok (.invokevirtual 131, 3) := by decide +kernel
theorem d_LW_law_642 : decode code 642 = .ok (.aload_n 2, 1) := by decide +kernel
theorem d_LW_law_643 : decode code 643 = .ok (.invokevirtual 104, 3) := by decide +kernel
theorem d_LW_law_646 : decode code 646 = .ok (.iload 5, 2) := by decide +kernel
theorem d_LW_law_648 : decode code 648 = .ok (.if_icmp .eq 5, 3) := by decide +kernel
theorem d_LW_law_651 : decode code 651 = .ok (.iconst 0, 1) := by decide +kernel
theorem d_LW_law_653 : decode code 653 = .ok (.goto 870, 3) := by decide +kernel
theorem d_LW_law_656 : decode code 656 = .ok (.aload_n 1, 1) := by decide +kernel
theorem d_LW_law_657 : decode code 657 = .ok (.aload_n 0, 1) := by decide +kernel
theorem d_LW_law_658 : decode code 658 = .ok (.iload 4, 2) := by decide +kernel
theorem d_LW_law_660 : decode code 660 = .ok (.iconst 1, 1) := by decide +kernel
theorem d_LW_law_661 : decode code 661 = .ok (.iadd, 1) := by decide +kernel
theorem d_LW_law_662 : decode code 662 = .ok (.iaload, 1) := by decide +kernel
theorem d_LW_law_663 : decode code 663 = .ok (.aload_n 0, 1) := by decide +kernel
theorem d_LW_law_664 : decode code 664 = .ok (.iload 4, 2) := by decide +kernel
theorem d_LW_law_666 : decode code 666 = .ok (.iconst 2, 1) := by decide +kernel
theorem d_LW_law_667 : decode code 667 = .ok (.iadd, 1) := by decide +kernel
theorem d_LW_law_668 : decode code 668 = .ok (.iaload, 1) := by decide +kernel
theorem d_LW_law_669 : decode code 669 = .ok (.aload_n 0, 1) := by decide +kernel
theorem d_LW_law_670 : decode code 670 = .ok (.iload 4, 2) := by decide +kernel
theorem d_LW_law_672 : decode code 672 = .ok (.iconst 3, 1) := by decide +kernel
theorem d_LW_law_673 : decode code 673 = .ok (.iadd, 1) := by decide +kernel
theorem d_LW_law_674 : decode code 674 = .ok (.iaload, 1) := by decide +kernel
theorem d_LW_law_675 : decode code 675 = .ok (.aload_n 0, 1) := by decide +kernel
theorem d_LW_law_676 : decode code 676 = .ok (.iload 4, 2) := by decide +kernel
theorem d_LW_law_678 : decode code 678 = .ok (.iconst 4, 1) := by decide +kernel
theorem d_LW_law_679 : decode code 679 = .ok (.iadd, 1) := by decide +kernel
theorem d_LW_law_680 : decode code 680 = .ok (.iaload, 1) := by decide +kernel
theorem d_LW_law_681 : decode code 681 = .ok (.invokestatic 132, 3) := by decide +kernel
theorem d_LW_law_684 : decode code 684 = .ok (.istore 5, 2) := by decide +kernel
theorem d_LW_law_686 : decode code 686 = .ok (.aload_n 2, 1) := by decide +kernel
theorem d_LW_law_687 : decode code 687 = .ok (.aload_n 0, 1) := by decide +kernel
theorem d_LW_law_688 : decode code 688 = .ok (.iload 4, 2) := by decide +kernel
theorem d_LW_law_690 : decode code 690 = .ok (.iconst 1, 1) := by decide +kernel
theorem d_LW_law_691 : decode code 691 = .ok (.iadd, 1) := by decide +kernel
theorem d_LW_law_692 : decode code 692 = .ok (.iaload, 1) := by decide +kernel
theorem d_LW_law_693 : decode code 693 = .ok (.aload_n 0, 1) := by decide +kernel
theorem d_LW_law_694 : decode code 694 = .ok (.iload 4, 2) := by decide +kernel
theorem d_LW_law_696 : decode code 696 = .ok (.iconst 2, 1) := by decide +kernel
theorem d_LW_law_697 : decode code 697 = .ok (.iadd, 1) := by decide +kernel
theorem d_LW_law_698 : decode code 698 = .ok (.iaload, 1) := by decide +kernel
theorem d_LW_law_699 : decode code 699 = .ok (.aload_n 0, 1) := by decide +kernel
theorem d_LW_law_700 : decode code 700 = .ok (.iload 4, 2) := by decide +kernel
theorem d_LW_law_702 : decode code 702 = .ok (.iconst 3, 1) := by decide +kernel
theorem d_LW_law_703 : decode code 703 = .ok (.iadd, 1) := by decide +kernel
theorem d_LW_law_704 : decode code 704 = .ok (.iaload, 1) := by decide +kernel
theorem d_LW_law_705 : decode code 705 = .ok (.aload_n 0, 1) := by decide +kernel
theorem d_LW_law_706 : decode code 706 = .ok (.iload 4, 2) := by decide +kernel
theorem d_LW_law_708 : decode code 708 = .ok (.iconst 4, 1) := by decide +kernel
theorem d_LW_law_709 : decode code 709 = .ok (.iadd, 1) := by decide +kernel
theorem d_LW_law_710 : decode code 710 = .ok (.iaload, 1) := by decide +kernel
theorem d_LW_law_711 : decode code 711 = .ok (.invokevirtual 135, 3) := by decide +kernel
theorem d_LW_law_714 : decode code 714 = .ok (.aload_n 2, 1) := by decide +kernel
theorem d_LW_law_715 : decode code 715 = .ok (.invokevirtual 104, 3) := by decide +kernel
theorem d_LW_law_718 : decode code 718 = .ok (.iload 5, 2) := by decide +kernel
theorem d_LW_law_720 : decode code 720 = .ok (.if_icmp .eq 5, 3) := by decide +kernel
theorem d_LW_law_723 : decode code 723 = .ok (.iconst 0, 1) := by decide +kernel
theorem d_LW_law_725 : decode code 725 = .ok (.goto 798, 3) := by decide +kernel
theorem d_LW_law_728 : decode code 728 = .ok (.aload_n 1, 1) := by decide +kernel
theorem d_LW_law_729 : decode code 729 = .ok (.aload_n 0, 1) := by decide +kernel
theorem d_LW_law_730 : decode code 730 = .ok (.iload 4, 2) := by decide +kernel
theorem d_LW_law_732 : decode code 732 = .ok (.iconst 1, 1) := by decide +kernel
theorem d_LW_law_733 : decode code 733 = .ok (.iadd, 1) := by decide +kernel
theorem d_LW_law_734 : decode code 734 = .ok (.iaload, 1) := by decide +kernel
theorem d_LW_law_735 : decode code 735 = .ok (.aload_n 0, 1) := by decide +kernel
theorem d_LW_law_736 : decode code 736 = .ok (.iload 4, 2) := by decide +kernel
theorem d_LW_law_738 : decode code 738 = .ok (.iconst 2, 1) := by decide +kernel
theorem d_LW_law_739 : decode code 739 = .ok (.iadd, 1) := by decide +kernel
theorem d_LW_law_740 : decode code 740 = .ok (.iaload, 1) := by decide +kernel
theorem d_LW_law_741 : decode code 741 = .ok (.aload_n 0, 1) := by decide +kernel
theorem d_LW_law_742 : decode code 742 = .ok (.iload 4, 2) := by decide +kernel
theorem d_LW_law_744 : decode code 744 = .ok (.iconst 3, 1) := by decide +kernel
theorem d_LW_law_745 : decode code 745 = .ok (.iadd, 1) := by decide +kernel
theorem d_LW_law_746 : decode code 746 = .ok (.iaload, 1) := by decide +kernel
theorem d_LW_law_747 : decode code 747 = .ok (.invokestatic 136, 3) := by decide +kernel
theorem d_LW_law_750 : decode code 750 = .ok (.istore 5, 2) := by decide +kernel
theorem d_LW_law_752 : decode code 752 = .ok (.aload_n 2, 1) := by decide +kernel
theorem d_LW_law_753 : decode code 753 = .ok (.aload_n 0, 1) := by decide +kernel
theorem d_LW_law_754 : decode code 754 = .ok (.iload 4, 2) := by decide +kernel
theorem d_LW_law_756 : decode code 756 = .ok (.iconst 1, 1) := by decide +kernel
theorem d_LW_law_757 : decode code 757 = .ok (.iadd, 1) := by decide +kernel
theorem d_LW_law_758 : decode code 758 = .ok (.iaload, 1) := by decide +kernel
theorem d_LW_law_759 : decode code 759 = .ok (.aload_n 0, 1) := by decide +kernel
theorem d_LW_law_760 : decode code 760 = .ok (.iload 4, 2) := by decide +kernel
theorem d_LW_law_762 : decode code 762 = .ok (.iconst 2, 1) := by decide +kernel
theorem d_LW_law_763 : decode code 763 = .ok (.iadd, 1) := by decide +kernel
theorem d_LW_law_764 : decode code 764 = .ok (.iaload, 1) := by decide +kernel
theorem d_LW_law_765 : decode code 765 = .ok (.aload_n 0, 1) := by decide +kernel
theorem d_LW_law_766 : decode code 766 = .ok (.iload 4, 2) := by decide +kernel
theorem d_LW_law_768 : decode code 768 = .ok (.iconst 3, 1) := by decide +kernel
theorem d_LW_law_769 : decode code 769 = .ok (.iadd, 1) := by decide +kernel
theorem d_LW_law_770 : decode code 770 = .ok (.iaload, 1) := by decide +kernel
theorem d_LW_law_771 : decode code 771 = .ok (.invokevirtual 138, 3) := by decide +kernel
theorem d_LW_law_774 : decode code 774 = .ok (.aload_n 2, 1) := by decide +kernel
theorem d_LW_law_775 : decode code 775 = .ok (.invokevirtual 104, 3) := by decide +kernel
theorem d_LW_law_778 : decode code 778 = .ok (.iload 5, 2) := by decide +kernel
theorem d_LW_law_780 : decode code 780 = .ok (.if_icmp .eq 5, 3) := by decide +kernel
theorem d_LW_law_783 : decode code 783 = .ok (.iconst 0, 1) := by decide +kernel
theorem d_LW_law_785 : decode code 785 = .ok (.goto 738, 3) := by decide +kernel
theorem d_LW_law_788 : decode code 788 = .ok (.aload_n 1, 1) := by decide +kernel
theorem d_LW_law_789 : decode code 789 = .ok (.aload_n 0, 1) := by decide +kernel
theorem d_LW_law_790 : decode code 790 = .ok (.iload 4, 2) := by decide +kernel
theorem d_LW_law_792 : decode code 792 = .ok (.iconst 1, 1) := by decide +kernel
theorem d_LW_law_793 : decode code 793 = .ok (.iadd, 1) := by decide +kernel
theorem d_LW_law_794 : decode code 794 = .ok (.iaload, 1) := by decide +kernel
theorem d_LW_law_795 : decode code 795 = .ok (.aload_n 0, 1) := by decide +kernel
theorem d_LW_law_796 : decode code 796 = .ok (.iload 4, 2) := by decide +kernel
theorem d_LW_law_798 : decode code 798 = .ok (.iconst 2, 1) := by decide +kernel
theorem d_LW_law_799 : decode code 799 = .ok (.iadd, 1) := by decide +kernel
theorem d_LW_law_800 : decode code 800 = .ok (.iaload, 1) := by decide +kernel
theorem d_LW_law_801 : decode code 801 = .ok (.invokestatic 139, 3) := by decide +kernel
theorem d_LW_law_804 : decode code 804 = .ok (.istore 5, 2) := by decide +kernel
theorem d_LW_law_806 : decode code 806 = .ok (.aload_n 2, 1) := by decide +kernel
theorem d_LW_law_807 : decode code 807 = .ok (.aload_n 0, 1) := by decide +kernel
theorem d_LW_law_808 : decode code 808 = .ok (.iload 4, 2) := by decide +kernel
theorem d_LW_law_810 : decode code 810 = .ok (.iconst 1, 1) := by decide +kernel
theorem d_LW_law_811 : decode code 811 = .ok (.iadd, 1) := by decide +kernel
theorem d_LW_law_812 : decode code 812 = .ok (.iaload, 1) := by decide +kernel
theorem d_LW_law_813 : decode code 813 = .ok (.aload_n 0, 1) := by decide +kernel
theorem d_LW_law_814 : decode code 814 = .ok (.iload 4, 2) := by decide +kernel
theorem d_LW_law_816 : decode code 816 = .ok (.iconst 2, 1) := by decide +kernel
theorem d_LW_law_817 : decode code 817 = .ok (.iadd, 1) := by decide +kernel
theorem d_LW_law_818 : decode code 818 = .ok (.iaload, 1) := by decide +kernel
theorem d_LW_law_819 : decode code 819 = .ok (.invokevirtual 141, 3) := by decide +kernel
theorem d_LW_law_822 : decode code 822 = .ok (.aload_n 2, 1) := by decide +kernel
theorem d_LW_law_823 : decode code 823 = .ok (.invokevirtual 104, 3) := by decide +kernel
theorem d_LW_law_826 : decode code 826 = .ok (.iload 5, 2) := by decide +kernel
theorem d_LW_law_828 : decode code 828 = .ok (.if_icmp .eq 5, 3) := by decide +kernel
theorem d_LW_law_831 : decode code 831 = .ok (.iconst 0, 1) := by decide +kernel
theorem d_LW_law_833 : decode code 833 = .ok (.goto 690, 3) := by decide +kernel
theorem d_LW_law_836 : decode code 836 = .ok (.aload_n 1, 1) := by decide +kernel
theorem d_LW_law_837 : decode code 837 = .ok (.aload_n 0, 1) := by decide +kernel
theorem d_LW_law_838 : decode code 838 = .ok (.iload 4, 2) := by decide +kernel
theorem d_LW_law_840 : decode code 840 = .ok (.iconst 1, 1) := by decide +kernel
theorem d_LW_law_841 : decode code 841 = .ok (.iadd, 1) := by decide +kernel
theorem d_LW_law_842 : decode code 842 = .ok (.iaload, 1) := by decide +kernel
theorem d_LW_law_843 : decode code 843 = .ok (.aload_n 0, 1) := by decide +kernel
theorem d_LW_law_844 : decode code 844 = .ok (.iload 4, 2) := by decide +kernel
theorem d_LW_law_846 : decode code 846 = .ok (.iconst 2, 1) := by decide +kernel
theorem d_LW_law_847 : decode code 847 = .ok (.iadd, 1) := by decide +kernel
theorem d_LW_law_848 : decode code 848 = .ok (.iaload, 1) := by decide +kernel
theorem d_LW_law_849 : decode code 849 = .ok (.aload_n 3, 1) := by decide +kernel
theorem d_LW_law_850 : decode code 850 = .ok (.invokestatic 142, 3) := by decide +kernel
theorem d_LW_law_853 : decode code 853 = .ok (.istore 5, 2) := by decide +kernel
theorem d_LW_law_855 : decode code 855 = .ok (.aload_n 2, 1) := by decide +kernel
theorem d_LW_law_856 : decode code 856 = .ok (.aload_n 0, 1) := by decide +kernel
theorem d_LW_law_857 : decode code 857 = .ok (.iload 4, 2) := by decide +kernel
theorem d_LW_law_859 : decode code 859 = .ok (.iconst 1, 1) := by decide +kernel
theorem d_LW_law_860 : decode code 860 = .ok (.iadd, 1) := by decide +kernel
theorem d_LW_law_861 : decode code 861 = .ok (.iaload, 1) := by decide +kernel
theorem d_LW_law_862 : decode code 862 = .ok (.aload_n 0, 1) := by decide +kernel
theorem d_LW_law_863 : decode code 863 = .ok (.iload 4, 2) := by decide +kernel
theorem d_LW_law_865 : decode code 865 = .ok (.iconst 2, 1) := by decide +kernel
theorem d_LW_law_866 : decode code 866 = .ok (.iadd, 1) := by decide +kernel
theorem d_LW_law_867 : decode code 867 = .ok (.iaload, 1) := by decide +kernel
theorem d_LW_law_868 : decode code 868 = .ok (.invokevirtual 145, 3) := by decide +kernel
theorem d_LW_law_871 : decode code 871 = .ok (.istore 6, 2) := by decide +kernel
theorem d_LW_law_873 : decode code 873 = .ok (.aload_n 2, 1) := by decide +kernel
theorem d_LW_law_874 : decode code 874 = .ok (.invokevirtual 104, 3) := by decide +kernel
theorem d_LW_law_877 : decode code 877 = .ok (.iload 5, 2) := by decide +kernel
theorem d_LW_law_879 : decode code 879 = .ok (.if_icmp .eq 5, 3) := by decide +kernel
theorem d_LW_law_882 : decode code 882 = .ok (.iconst 0, 1) := by decide +kernel
theorem d_LW_law_884 : decode code 884 = .ok (.iload 5, 2) := by decide +kernel
theorem d_LW_law_886 : decode code 886 = .ok (.ifCond .ne 15, 3) := by decide +kernel
theorem d_LW_law_889 : decode code 889 = .ok (.aload_n 3, 1) := by decide +kernel
theorem d_LW_law_890 : decode code 890 = .ok (.iconst 0, 1) := by decide +kernel
theorem d_LW_law_891 : decode code 891 = .ok (.laload, 1) := by decide +kernel
theorem d_LW_law_892 : decode code 892 = .ok (.iload 6, 2) := by decide +kernel
theorem d_LW_law_894 : decode code 894 = .ok (.i2l, 1) := by decide +kernel
theorem d_LW_law_895 : decode code 895 = .ok (.lcmp, 1) := by decide +kernel
theorem d_LW_law_896 : decode code 896 = .ok (.ifCond .eq 5, 3) := by decide +kernel
theorem d_LW_law_899 : decode code 899 = .ok (.iconst 0, 1) := by decide +kernel
theorem d_LW_law_901 : decode code 901 = .ok (.goto 622, 3) := by decide +kernel
theorem d_LW_law_904 : decode code 904 = .ok (.aload_n 1, 1) := by decide +kernel
theorem d_LW_law_905 : decode code 905 = .ok (.aload_n 0, 1) := by decide +kernel
theorem d_LW_law_906 : decode code 906 = .ok (.iload 4, 2) := by decide +kernel
theorem d_LW_law_908 : decode code 908 = .ok (.iconst 1, 1) := by decide +kernel
theorem d_LW_law_909 : decode code 909 = .ok (.iadd, 1) := by decide +kernel
theorem d_LW_law_910 : decode code 910 = .ok (.iaload, 1) := by decide +kernel
theorem d_LW_law_911 : decode code 911 = .ok (.aload_n 0, 1) := by decide +kernel
theorem d_LW_law_912 : decode code 912 = .ok (.iload 4, 2) := by decide +kernel
theorem d_LW_law_914 : decode code 914 = .ok (.iconst 2, 1) := by decide +kernel
theorem d_LW_law_915 : decode code 915 = .ok (.iadd, 1) := by decide +kernel
theorem d_LW_law_916 : decode code 916 = .ok (.iaload, 1) := by decide +kernel
theorem d_LW_law_917 : decode code 917 = .ok (.i2l, 1) := by decide +kernel
theorem d_LW_law_918 : decode code 918 = .ok (.bipush 32, 2) := by decide +kernel
theorem d_LW_law_920 : decode code 920 = .ok (.lshl, 1) := by decide +kernel
theorem d_LW_law_921 : decode code 921 = .ok (.aload_n 0, 1) := by decide +kernel
theorem d_LW_law_922 : decode code 922 = .ok (.iload 4, 2) := by decide +kernel
theorem d_LW_law_924 : decode code 924 = .ok (.iconst 3, 1) := by decide +kernel
theorem d_LW_law_925 : decode code 925 = .ok (.iadd, 1) := by decide +kernel
theorem d_LW_law_926 : decode code 926 = .ok (.iaload, 1) := by decide +kernel
theorem d_LW_law_927 : decode code 927 = .ok (.i2l, 1) := by decide +kernel
theorem d_LW_law_928 : decode code 928 = .ok (.ldc2_w 96, 3) := by decide +kernel
theorem d_LW_law_931 : decode code 931 = .ok (.land, 1) := by decide +kernel
theorem d_LW_law_932 : decode code 932 = .ok (.lor, 1) := by decide +kernel
theorem d_LW_law_933 : decode code 933 = .ok (.aload_n 3, 1) := by decide +kernel
theorem d_LW_law_934 : decode code 934 = .ok (.invokestatic 146, 3) := by decide +kernel
theorem d_LW_law_937 : decode code 937 = .ok (.istore 5, 2) := by decide +kernel
theorem d_LW_law_939 : decode code 939 = .ok (.aload_n 2, 1) := by decide +kernel
theorem d_LW_law_940 : decode code 940 = .ok (.aload_n 0, 1) := by decide +kernel
theorem d_LW_law_941 : decode code 941 = .ok (.iload 4, 2) := by decide +kernel
theorem d_LW_law_943 : decode code 943 = .ok (.iconst 1, 1) := by decide +kernel
theorem d_LW_law_944 : decode code 944 = .ok (.iadd, 1) := by decide +kernel
theorem d_LW_law_945 : decode code 945 = .ok (.iaload, 1) := by decide +kernel
theorem d_LW_law_946 : decode code 946 = .ok (.aload_n 0, 1) := by decide +kernel
theorem d_LW_law_947 : decode code 947 = .ok (.iload 4, 2) := by decide +kernel
theorem d_LW_law_949 : decode code 949 = .ok (.iconst 2, 1) := by decide +kernel
theorem d_LW_law_950 : decode code 950 = .ok (.iadd, 1) := by decide +kernel
theorem d_LW_law_951 : decode code 951 = .ok (.iaload, 1) := by decide +kernel
theorem d_LW_law_952 : decode code 952 = .ok (.i2l, 1) := by decide +kernel
theorem d_LW_law_953 : decode code 953 = .ok (.bipush 32, 2) := by decide +kernel
theorem d_LW_law_955 : decode code 955 = .ok (.lshl, 1) := by decide +kernel
theorem d_LW_law_956 : decode code 956 = .ok (.aload_n 0, 1) := by decide +kernel
theorem d_LW_law_957 : decode code 957 = .ok (.iload 4, 2) := by decide +kernel
theorem d_LW_law_959 : decode code 959 = .ok (.iconst 3, 1) := by decide +kernel
theorem d_LW_law_960 : decode code 960 = .ok (.iadd, 1) := by decide +kernel
theorem d_LW_law_961 : decode code 961 = .ok (.iaload, 1) := by decide +kernel
theorem d_LW_law_962 : decode code 962 = .ok (.i2l, 1) := by decide +kernel
theorem d_LW_law_963 : decode code 963 = .ok (.ldc2_w 96, 3) := by decide +kernel
theorem d_LW_law_966 : decode code 966 = .ok (.land, 1) := by decide +kernel
theorem d_LW_law_967 : decode code 967 = .ok (.lor, 1) := by decide +kernel
theorem d_LW_law_968 : decode code 968 = .ok (.invokevirtual 149, 3) := by decide +kernel
theorem d_LW_law_971 : decode code 971 = .ok (.lstore 6, 2) := by decide +kernel
theorem d_LW_law_973 : decode code 973 = .ok (.aload_n 2, 1) := by decide +kernel
theorem d_LW_law_974 : decode code 974 = .ok (.invokevirtual 104, 3) := by decide +kernel
theorem d_LW_law_977 : decode code 977 = .ok (.iload 5, 2) := by decide +kernel
theorem d_LW_law_979 : decode code 979 = .ok (.if_icmp .eq 5, 3) := by decide +kernel
theorem d_LW_law_982 : decode code 982 = .ok (.iconst 0, 1) := by decide +kernel
theorem d_LW_law_984 : decode code 984 = .ok (.iload 5, 2) := by decide +kernel
theorem d_LW_law_986 : decode code 986 = .ok (.ifCond .ne 14, 3) := by decide +kernel
theorem d_LW_law_989 : decode code 989 = .ok (.aload_n 3, 1) := by decide +kernel
theorem d_LW_law_990 : decode code 990 = .ok (.iconst 0, 1) := by decide +kernel
theorem d_LW_law_991 : decode code 991 = .ok (.laload, 1) := by decide +kernel
theorem d_LW_law_992 : decode code 992 = .ok (.lload 6, 2) := by decide +kernel
theorem d_LW_law_994 : decode code 994 = .ok (.lcmp, 1) := by decide +kernel
theorem d_LW_law_995 : decode code 995 = .ok (.ifCond .eq 5, 3) := by decide +kernel
theorem d_LW_law_998 : decode code 998 = .ok (.iconst 0, 1) := by decide +kernel
theorem d_LW_law_1000 : decode code 1000 = .ok (.goto 523, 3) := by decide +kernel
theorem d_LW_law_1003 : decode code 1003 = .ok (.aload_n 1, 1) := by decide +kernel
theorem d_LW_law_1004 : decode code 1004 = .ok (.aload_n 0, 1) := by decide +kernel
theorem d_LW_law_1005 : decode code 1005 = .ok (.iload 4, 2) := by decide +kernel
theorem d_LW_law_1007 : decode code 1007 = .ok (.iconst 1, 1) := by decide +kernel
theorem d_LW_law_1008 : decode code 1008 = .ok (.iadd, 1) := by decide +kernel
theorem d_LW_law_1009 : decode code 1009 = .ok (.iaload, 1) := by decide +kernel
theorem d_LW_law_1010 : decode code 1010 = .ok (.aload_n 3, 1) := by decide +kernel
theorem d_LW_law_1011 : decode code 1011 = .ok (.invokestatic 150, 3) := by decide +kernel
theorem d_LW_law_1014 : decode code 1014 = .ok (.istore 5, 2) := by decide +kernel
theorem d_LW_law_1016 : decode code 1016 = .ok (.aload_n 2, 1) := by decide +kernel
theorem d_LW_law_1017 : decode code 1017 = .ok (.aload_n 0, 1) := by decide +kernel
theorem d_LW_law_1018 : decode code 1018 = .ok (.iload 4, 2) := by decide +kernel
theorem d_LW_law_1020 : decode code 1020 = .ok (.iconst 1, 1) := by decide +kernel
theorem d_LW_law_1021 : decode code 1021 = .ok (.iadd, 1) := by decide +kernel
theorem d_LW_law_1022 : decode code 1022 = .ok (.iaload, 1) := by decide +kernel
theorem d_LW_law_1023 : decode code 1023 = .ok (.invokevirtual 153, 3) := by decide +kernel
theorem d_LW_law_1026 : decode code 1026 = .ok (.lstore 6, 2) := by decide +kernel
theorem d_LW_law_1028 : decode code 1028 = .ok (.aload_n 2, 1) := by decide +kernel
theorem d_LW_law_1029 : decode code 1029 = .ok (.invokevirtual 104, 3) := by decide +kernel
theorem d_LW_law_1032 : decode code 1032 = .ok (.iload 5, 2) := by decide +kernel
theorem d_LW_law_1034 : decode code 1034 = .ok (.if_icmp .eq 5, 3) := by decide +kernel
theorem d_LW_law_1037 : decode code 1037 = .ok (.iconst 0, 1) := by decide +kernel
theorem d_LW_law_1039 : decode code 1039 = .ok (.iload 5, 2) := by decide +kernel
theorem d_LW_law_1041 : decode code 1041 = .ok (.ifCond .ne 14, 3) := by decide +kernel
theorem d_LW_law_1044 : decode code 1044 = .ok (.aload_n 3, 1) := by decide +kernel
theorem d_LW_law_1045 : decode code 1045 = .ok (.iconst 0, 1) := by decide +kernel
theorem d_LW_law_1046 : decode code 1046 = .ok (.laload, 1) := by decide +kernel
