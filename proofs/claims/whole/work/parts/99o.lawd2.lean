/-! the law: its instructions -/
theorem dL_650 : decode code 650 = .ok (.aload_n 0, 1) := by decide +kernel
theorem dL_651 : decode code 651 = .ok (.iload_n 3, 1) := by decide +kernel
theorem dL_652 : decode code 652 = .ok (.iconst 5, 1) := by decide +kernel
theorem dL_653 : decode code 653 = .ok (.iadd, 1) := by decide +kernel
theorem dL_654 : decode code 654 = .ok (.iaload, 1) := by decide +kernel
theorem dL_655 : decode code 655 = .ok (.invokevirtual 88, 3) := by decide +kernel
theorem dL_658 : decode code 658 = .ok (.aload_n 2, 1) := by decide +kernel
theorem dL_659 : decode code 659 = .ok (.aload_n 0, 1) := by decide +kernel
theorem dL_660 : decode code 660 = .ok (.iload_n 3, 1) := by decide +kernel
theorem dL_661 : decode code 661 = .ok (.iconst 1, 1) := by decide +kernel
theorem dL_662 : decode code 662 = .ok (.iadd, 1) := by decide +kernel
theorem dL_663 : decode code 663 = .ok (.iaload, 1) := by decide +kernel
theorem dL_664 : decode code 664 = .ok (.aload_n 0, 1) := by decide +kernel
theorem dL_665 : decode code 665 = .ok (.iload_n 3, 1) := by decide +kernel
theorem dL_666 : decode code 666 = .ok (.iconst 2, 1) := by decide +kernel
theorem dL_667 : decode code 667 = .ok (.iadd, 1) := by decide +kernel
theorem dL_668 : decode code 668 = .ok (.iaload, 1) := by decide +kernel
theorem dL_669 : decode code 669 = .ok (.aload_n 0, 1) := by decide +kernel
theorem dL_670 : decode code 670 = .ok (.iload_n 3, 1) := by decide +kernel
theorem dL_671 : decode code 671 = .ok (.iconst 3, 1) := by decide +kernel
theorem dL_672 : decode code 672 = .ok (.iadd, 1) := by decide +kernel
theorem dL_673 : decode code 673 = .ok (.iaload, 1) := by decide +kernel
theorem dL_674 : decode code 674 = .ok (.aload_n 0, 1) := by decide +kernel
theorem dL_675 : decode code 675 = .ok (.iload_n 3, 1) := by decide +kernel
theorem dL_676 : decode code 676 = .ok (.iconst 4, 1) := by decide +kernel
theorem dL_677 : decode code 677 = .ok (.iadd, 1) := by decide +kernel
theorem dL_678 : decode code 678 = .ok (.iaload, 1) := by decide +kernel
theorem dL_679 : decode code 679 = .ok (.aload_n 0, 1) := by decide +kernel
theorem dL_680 : decode code 680 = .ok (.iload_n 3, 1) := by decide +kernel
theorem dL_681 : decode code 681 = .ok (.iconst 5, 1) := by decide +kernel
theorem dL_682 : decode code 682 = .ok (.iadd, 1) := by decide +kernel
theorem dL_683 : decode code 683 = .ok (.iaload, 1) := by decide +kernel
theorem dL_684 : decode code 684 = .ok (.invokevirtual 91, 3) := by decide +kernel
theorem dL_687 : decode code 687 = .ok (.if_icmp .eq 216, 3) := by decide +kernel
theorem dL_690 : decode code 690 = .ok (.iconst 0, 1) := by decide +kernel
theorem dL_691 : decode code 691 = .ok (.ireturn, 1) := by decide +kernel
theorem dL_692 : decode code 692 = .ok (.aload_n 1, 1) := by decide +kernel
theorem dL_693 : decode code 693 = .ok (.invokevirtual 92, 3) := by decide +kernel
theorem dL_696 : decode code 696 = .ok (.aload_n 2, 1) := by decide +kernel
theorem dL_697 : decode code 697 = .ok (.invokevirtual 95, 3) := by decide +kernel
theorem dL_700 : decode code 700 = .ok (.if_icmp .eq 203, 3) := by decide +kernel
theorem dL_703 : decode code 703 = .ok (.iconst 0, 1) := by decide +kernel
theorem dL_704 : decode code 704 = .ok (.ireturn, 1) := by decide +kernel
theorem dL_705 : decode code 705 = .ok (.aload_n 1, 1) := by decide +kernel
theorem dL_706 : decode code 706 = .ok (.aload_n 0, 1) := by decide +kernel
theorem dL_707 : decode code 707 = .ok (.iload_n 3, 1) := by decide +kernel
theorem dL_708 : decode code 708 = .ok (.iconst 1, 1) := by decide +kernel
theorem dL_709 : decode code 709 = .ok (.iadd, 1) := by decide +kernel
theorem dL_710 : decode code 710 = .ok (.iaload, 1) := by decide +kernel
theorem dL_711 : decode code 711 = .ok (.aload_n 0, 1) := by decide +kernel
theorem dL_712 : decode code 712 = .ok (.iload_n 3, 1) := by decide +kernel
theorem dL_713 : decode code 713 = .ok (.iconst 2, 1) := by decide +kernel
theorem dL_714 : decode code 714 = .ok (.iadd, 1) := by decide +kernel
theorem dL_715 : decode code 715 = .ok (.iaload, 1) := by decide +kernel
theorem dL_716 : decode code 716 = .ok (.invokevirtual 96, 3) := by decide +kernel
theorem dL_719 : decode code 719 = .ok (.aload_n 2, 1) := by decide +kernel
theorem dL_720 : decode code 720 = .ok (.aload_n 0, 1) := by decide +kernel
theorem dL_721 : decode code 721 = .ok (.iload_n 3, 1) := by decide +kernel
theorem dL_722 : decode code 722 = .ok (.iconst 1, 1) := by decide +kernel
theorem dL_723 : decode code 723 = .ok (.iadd, 1) := by decide +kernel
theorem dL_724 : decode code 724 = .ok (.iaload, 1) := by decide +kernel
theorem dL_725 : decode code 725 = .ok (.aload_n 0, 1) := by decide +kernel
theorem dL_726 : decode code 726 = .ok (.iload_n 3, 1) := by decide +kernel
theorem dL_727 : decode code 727 = .ok (.iconst 2, 1) := by decide +kernel
theorem dL_728 : decode code 728 = .ok (.iadd, 1) := by decide +kernel
theorem dL_729 : decode code 729 = .ok (.iaload, 1) := by decide +kernel
theorem dL_730 : decode code 730 = .ok (.invokevirtual 99, 3) := by decide +kernel
theorem dL_733 : decode code 733 = .ok (.if_icmp .eq 170, 3) := by decide +kernel
theorem dL_736 : decode code 736 = .ok (.iconst 0, 1) := by decide +kernel
theorem dL_737 : decode code 737 = .ok (.ireturn, 1) := by decide +kernel
theorem dL_738 : decode code 738 = .ok (.aload_n 1, 1) := by decide +kernel
theorem dL_739 : decode code 739 = .ok (.aload_n 0, 1) := by decide +kernel
theorem dL_740 : decode code 740 = .ok (.iload_n 3, 1) := by decide +kernel
theorem dL_741 : decode code 741 = .ok (.iconst 1, 1) := by decide +kernel
theorem dL_742 : decode code 742 = .ok (.iadd, 1) := by decide +kernel
theorem dL_743 : decode code 743 = .ok (.iaload, 1) := by decide +kernel
theorem dL_744 : decode code 744 = .ok (.aload_n 0, 1) := by decide +kernel
theorem dL_745 : decode code 745 = .ok (.iload_n 3, 1) := by decide +kernel
theorem dL_746 : decode code 746 = .ok (.iconst 2, 1) := by decide +kernel
theorem dL_747 : decode code 747 = .ok (.iadd, 1) := by decide +kernel
theorem dL_748 : decode code 748 = .ok (.iaload, 1) := by decide +kernel
theorem dL_749 : decode code 749 = .ok (.invokevirtual 100, 3) := by decide +kernel
theorem dL_752 : decode code 752 = .ok (.aload_n 2, 1) := by decide +kernel
theorem dL_753 : decode code 753 = .ok (.aload_n 0, 1) := by decide +kernel
theorem dL_754 : decode code 754 = .ok (.iload_n 3, 1) := by decide +kernel
theorem dL_755 : decode code 755 = .ok (.iconst 1, 1) := by decide +kernel
theorem dL_756 : decode code 756 = .ok (.iadd, 1) := by decide +kernel
theorem dL_757 : decode code 757 = .ok (.iaload, 1) := by decide +kernel
theorem dL_758 : decode code 758 = .ok (.aload_n 0, 1) := by decide +kernel
theorem dL_759 : decode code 759 = .ok (.iload_n 3, 1) := by decide +kernel
theorem dL_760 : decode code 760 = .ok (.iconst 2, 1) := by decide +kernel
theorem dL_761 : decode code 761 = .ok (.iadd, 1) := by decide +kernel
theorem dL_762 : decode code 762 = .ok (.iaload, 1) := by decide +kernel
theorem dL_763 : decode code 763 = .ok (.invokevirtual 103, 3) := by decide +kernel
theorem dL_766 : decode code 766 = .ok (.if_icmp .eq 137, 3) := by decide +kernel
theorem dL_769 : decode code 769 = .ok (.iconst 0, 1) := by decide +kernel
theorem dL_770 : decode code 770 = .ok (.ireturn, 1) := by decide +kernel
theorem dL_771 : decode code 771 = .ok (.aload_n 1, 1) := by decide +kernel
theorem dL_772 : decode code 772 = .ok (.aload_n 0, 1) := by decide +kernel
theorem dL_773 : decode code 773 = .ok (.iload_n 3, 1) := by decide +kernel
theorem dL_774 : decode code 774 = .ok (.iconst 1, 1) := by decide +kernel
theorem dL_775 : decode code 775 = .ok (.iadd, 1) := by decide +kernel
theorem dL_776 : decode code 776 = .ok (.iaload, 1) := by decide +kernel
theorem dL_777 : decode code 777 = .ok (.aload_n 0, 1) := by decide +kernel
theorem dL_778 : decode code 778 = .ok (.iload_n 3, 1) := by decide +kernel
theorem dL_779 : decode code 779 = .ok (.iconst 2, 1) := by decide +kernel
theorem dL_780 : decode code 780 = .ok (.iadd, 1) := by decide +kernel
theorem dL_781 : decode code 781 = .ok (.iaload, 1) := by decide +kernel
theorem dL_782 : decode code 782 = .ok (.invokevirtual 104, 3) := by decide +kernel
theorem dL_785 : decode code 785 = .ok (.aload_n 2, 1) := by decide +kernel
theorem dL_786 : decode code 786 = .ok (.aload_n 0, 1) := by decide +kernel
theorem dL_787 : decode code 787 = .ok (.iload_n 3, 1) := by decide +kernel
theorem dL_788 : decode code 788 = .ok (.iconst 1, 1) := by decide +kernel
theorem dL_789 : decode code 789 = .ok (.iadd, 1) := by decide +kernel
theorem dL_790 : decode code 790 = .ok (.iaload, 1) := by decide +kernel
theorem dL_791 : decode code 791 = .ok (.aload_n 0, 1) := by decide +kernel
theorem dL_792 : decode code 792 = .ok (.iload_n 3, 1) := by decide +kernel
theorem dL_793 : decode code 793 = .ok (.iconst 2, 1) := by decide +kernel
theorem dL_794 : decode code 794 = .ok (.iadd, 1) := by decide +kernel
theorem dL_795 : decode code 795 = .ok (.iaload, 1) := by decide +kernel
theorem dL_796 : decode code 796 = .ok (.invokevirtual 107, 3) := by decide +kernel
theorem dL_799 : decode code 799 = .ok (.if_icmp .eq 104, 3) := by decide +kernel
theorem dL_802 : decode code 802 = .ok (.iconst 0, 1) := by decide +kernel
theorem dL_803 : decode code 803 = .ok (.ireturn, 1) := by decide +kernel
theorem dL_804 : decode code 804 = .ok (.aload_n 1, 1) := by decide +kernel
theorem dL_805 : decode code 805 = .ok (.aload_n 0, 1) := by decide +kernel
theorem dL_806 : decode code 806 = .ok (.iload_n 3, 1) := by decide +kernel
theorem dL_807 : decode code 807 = .ok (.iconst 1, 1) := by decide +kernel
theorem dL_808 : decode code 808 = .ok (.iadd, 1) := by decide +kernel
theorem dL_809 : decode code 809 = .ok (.iaload, 1) := by decide +kernel
theorem dL_810 : decode code 810 = .ok (.aload_n 0, 1) := by decide +kernel
theorem dL_811 : decode code 811 = .ok (.iload_n 3, 1) := by decide +kernel
theorem dL_812 : decode code 812 = .ok (.iconst 2, 1) := by decide +kernel
theorem dL_813 : decode code 813 = .ok (.iadd, 1) := by decide +kernel
theorem dL_814 : decode code 814 = .ok (.iaload, 1) := by decide +kernel
theorem dL_815 : decode code 815 = .ok (.aload_n 0, 1) := by decide +kernel
theorem dL_816 : decode code 816 = .ok (.iload_n 3, 1) := by decide +kernel
theorem dL_817 : decode code 817 = .ok (.iconst 3, 1) := by decide +kernel
theorem dL_818 : decode code 818 = .ok (.iadd, 1) := by decide +kernel
theorem dL_819 : decode code 819 = .ok (.iaload, 1) := by decide +kernel
theorem dL_820 : decode code 820 = .ok (.invokevirtual 108, 3) := by decide +kernel
theorem dL_823 : decode code 823 = .ok (.aload_n 2, 1) := by decide +kernel
theorem dL_824 : decode code 824 = .ok (.aload_n 0, 1) := by decide +kernel
theorem dL_825 : decode code 825 = .ok (.iload_n 3, 1) := by decide +kernel
theorem dL_826 : decode code 826 = .ok (.iconst 1, 1) := by decide +kernel
theorem dL_827 : decode code 827 = .ok (.iadd, 1) := by decide +kernel
theorem dL_828 : decode code 828 = .ok (.iaload, 1) := by decide +kernel
theorem dL_829 : decode code 829 = .ok (.aload_n 0, 1) := by decide +kernel
theorem dL_830 : decode code 830 = .ok (.iload_n 3, 1) := by decide +kernel
theorem dL_831 : decode code 831 = .ok (.iconst 2, 1) := by decide +kernel
theorem dL_832 : decode code 832 = .ok (.iadd, 1) := by decide +kernel
theorem dL_833 : decode code 833 = .ok (.iaload, 1) := by decide +kernel
theorem dL_834 : decode code 834 = .ok (.aload_n 0, 1) := by decide +kernel
theorem dL_835 : decode code 835 = .ok (.iload_n 3, 1) := by decide +kernel
theorem dL_836 : decode code 836 = .ok (.iconst 3, 1) := by decide +kernel
theorem dL_837 : decode code 837 = .ok (.iadd, 1) := by decide +kernel
theorem dL_838 : decode code 838 = .ok (.iaload, 1) := by decide +kernel
theorem dL_839 : decode code 839 = .ok (.invokevirtual 111, 3) := by decide +kernel
theorem dL_842 : decode code 842 = .ok (.if_icmp .eq 61, 3) := by decide +kernel
theorem dL_845 : decode code 845 = .ok (.iconst 0, 1) := by decide +kernel
theorem dL_846 : decode code 846 = .ok (.ireturn, 1) := by decide +kernel
theorem dL_847 : decode code 847 = .ok (.aload_n 1, 1) := by decide +kernel
theorem dL_848 : decode code 848 = .ok (.aload_n 0, 1) := by decide +kernel
theorem dL_849 : decode code 849 = .ok (.iload_n 3, 1) := by decide +kernel
theorem dL_850 : decode code 850 = .ok (.iconst 1, 1) := by decide +kernel
theorem dL_851 : decode code 851 = .ok (.iadd, 1) := by decide +kernel
theorem dL_852 : decode code 852 = .ok (.iaload, 1) := by decide +kernel
theorem dL_853 : decode code 853 = .ok (.aload_n 0, 1) := by decide +kernel
theorem dL_854 : decode code 854 = .ok (.iload_n 3, 1) := by decide +kernel
theorem dL_855 : decode code 855 = .ok (.iconst 2, 1) := by decide +kernel
theorem dL_856 : decode code 856 = .ok (.iadd, 1) := by decide +kernel
theorem dL_857 : decode code 857 = .ok (.iaload, 1) := by decide +kernel
theorem dL_858 : decode code 858 = .ok (.invokevirtual 112, 3) := by decide +kernel
theorem dL_861 : decode code 861 = .ok (.aload_n 2, 1) := by decide +kernel
theorem dL_862 : decode code 862 = .ok (.aload_n 0, 1) := by decide +kernel
theorem dL_863 : decode code 863 = .ok (.iload_n 3, 1) := by decide +kernel
theorem dL_864 : decode code 864 = .ok (.iconst 1, 1) := by decide +kernel
theorem dL_865 : decode code 865 = .ok (.iadd, 1) := by decide +kernel
theorem dL_866 : decode code 866 = .ok (.iaload, 1) := by decide +kernel
theorem dL_867 : decode code 867 = .ok (.aload_n 0, 1) := by decide +kernel
theorem dL_868 : decode code 868 = .ok (.iload_n 3, 1) := by decide +kernel
theorem dL_869 : decode code 869 = .ok (.iconst 2, 1) := by decide +kernel
theorem dL_870 : decode code 870 = .ok (.iadd, 1) := by decide +kernel
theorem dL_871 : decode code 871 = .ok (.iaload, 1) := by decide +kernel
theorem dL_872 : decode code 872 = .ok (.invokevirtual 115, 3) := by decide +kernel
theorem dL_875 : decode code 875 = .ok (.if_icmp .eq 28, 3) := by decide +kernel
theorem dL_878 : decode code 878 = .ok (.iconst 0, 1) := by decide +kernel
theorem dL_879 : decode code 879 = .ok (.ireturn, 1) := by decide +kernel
theorem dL_880 : decode code 880 = .ok (.aload_n 1, 1) := by decide +kernel
theorem dL_881 : decode code 881 = .ok (.aload_n 0, 1) := by decide +kernel
theorem dL_882 : decode code 882 = .ok (.iload_n 3, 1) := by decide +kernel
theorem dL_883 : decode code 883 = .ok (.iconst 1, 1) := by decide +kernel
theorem dL_884 : decode code 884 = .ok (.iadd, 1) := by decide +kernel
theorem dL_885 : decode code 885 = .ok (.iaload, 1) := by decide +kernel
theorem dL_886 : decode code 886 = .ok (.invokevirtual 116, 3) := by decide +kernel
theorem dL_889 : decode code 889 = .ok (.aload_n 2, 1) := by decide +kernel
theorem dL_890 : decode code 890 = .ok (.aload_n 0, 1) := by decide +kernel
theorem dL_891 : decode code 891 = .ok (.iload_n 3, 1) := by decide +kernel
theorem dL_892 : decode code 892 = .ok (.iconst 1, 1) := by decide +kernel
theorem dL_893 : decode code 893 = .ok (.iadd, 1) := by decide +kernel
theorem dL_894 : decode code 894 = .ok (.iaload, 1) := by decide +kernel
theorem dL_895 : decode code 895 = .ok (.invokevirtual 119, 3) := by decide +kernel
theorem dL_898 : decode code 898 = .ok (.if_icmp .eq 5, 3) := by decide +kernel
theorem dL_901 : decode code 901 = .ok (.iconst 0, 1) := by decide +kernel
theorem dL_902 : decode code 902 = .ok (.ireturn, 1) := by decide +kernel
theorem dL_903 : decode code 903 = .ok (.iinc 3 6, 3) := by decide +kernel
theorem dL_906 : decode code 906 = .ok (.goto (-888), 3) := by decide +kernel
theorem dL_909 : decode code 909 = .ok (.iconst 1, 1) := by decide +kernel
theorem dL_910 : decode code 910 = .ok (.ireturn, 1) := by decide +kernel
