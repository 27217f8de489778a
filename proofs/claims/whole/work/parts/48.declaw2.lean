theorem dL_law_623 : decode cL_law 623 = .ok (.iload 6, 2) := by decide +kernel
theorem dL_law_625 : decode cL_law 625 = .ok (.if_icmp .eq 5, 3) := by decide +kernel
theorem dL_law_628 : decode cL_law 628 = .ok (.iconst 0, 1) := by decide +kernel
theorem dL_law_629 : decode cL_law 629 = .ok (.ireturn, 1) := by decide +kernel
theorem dL_law_630 : decode cL_law 630 = .ok (.iload 6, 2) := by decide +kernel
theorem dL_law_632 : decode cL_law 632 = .ok (.ifCond .ne 15, 3) := by decide +kernel
theorem dL_law_635 : decode cL_law 635 = .ok (.aload_n 3, 1) := by decide +kernel
theorem dL_law_636 : decode cL_law 636 = .ok (.iconst 0, 1) := by decide +kernel
theorem dL_law_637 : decode cL_law 637 = .ok (.laload, 1) := by decide +kernel
theorem dL_law_638 : decode cL_law 638 = .ok (.iload 7, 2) := by decide +kernel
theorem dL_law_640 : decode cL_law 640 = .ok (.i2l, 1) := by decide +kernel
theorem dL_law_641 : decode cL_law 641 = .ok (.lcmp, 1) := by decide +kernel
theorem dL_law_642 : decode cL_law 642 = .ok (.ifCond .eq 5, 3) := by decide +kernel
theorem dL_law_645 : decode cL_law 645 = .ok (.iconst 0, 1) := by decide +kernel
theorem dL_law_646 : decode cL_law 646 = .ok (.ireturn, 1) := by decide +kernel
theorem dL_law_647 : decode cL_law 647 = .ok (.goto 526, 3) := by decide +kernel
theorem dL_law_650 : decode cL_law 650 = .ok (.aload_n 1, 1) := by decide +kernel
theorem dL_law_651 : decode cL_law 651 = .ok (.aload_n 0, 1) := by decide +kernel
theorem dL_law_652 : decode cL_law 652 = .ok (.iload 5, 2) := by decide +kernel
theorem dL_law_654 : decode cL_law 654 = .ok (.iconst 1, 1) := by decide +kernel
theorem dL_law_655 : decode cL_law 655 = .ok (.iadd, 1) := by decide +kernel
theorem dL_law_656 : decode cL_law 656 = .ok (.iaload, 1) := by decide +kernel
theorem dL_law_657 : decode cL_law 657 = .ok (.aload 4, 2) := by decide +kernel
theorem dL_law_659 : decode cL_law 659 = .ok (.invokestatic 96, 3) := by decide +kernel
theorem dL_law_662 : decode cL_law 662 = .ok (.istore 6, 2) := by decide +kernel
theorem dL_law_664 : decode cL_law 664 = .ok (.aload_n 2, 1) := by decide +kernel
theorem dL_law_665 : decode cL_law 665 = .ok (.aload_n 0, 1) := by decide +kernel
theorem dL_law_666 : decode cL_law 666 = .ok (.iload 5, 2) := by decide +kernel
theorem dL_law_668 : decode cL_law 668 = .ok (.iconst 1, 1) := by decide +kernel
theorem dL_law_669 : decode cL_law 669 = .ok (.iadd, 1) := by decide +kernel
theorem dL_law_670 : decode cL_law 670 = .ok (.iaload, 1) := by decide +kernel
theorem dL_law_671 : decode cL_law 671 = .ok (.invokevirtual 99, 3) := by decide +kernel
theorem dL_law_674 : decode cL_law 674 = .ok (.dstore 7, 2) := by decide +kernel
theorem dL_law_676 : decode cL_law 676 = .ok (.aload_n 2, 1) := by decide +kernel
theorem dL_law_677 : decode cL_law 677 = .ok (.invokevirtual 73, 3) := by decide +kernel
theorem dL_law_680 : decode cL_law 680 = .ok (.iload 6, 2) := by decide +kernel
theorem dL_law_682 : decode cL_law 682 = .ok (.if_icmp .eq 5, 3) := by decide +kernel
theorem dL_law_685 : decode cL_law 685 = .ok (.iconst 0, 1) := by decide +kernel
theorem dL_law_686 : decode cL_law 686 = .ok (.ireturn, 1) := by decide +kernel
theorem dL_law_687 : decode cL_law 687 = .ok (.iload 6, 2) := by decide +kernel
theorem dL_law_689 : decode cL_law 689 = .ok (.ifCond .ne 35, 3) := by decide +kernel
theorem dL_law_692 : decode cL_law 692 = .ok (.aload 4, 2) := by decide +kernel
theorem dL_law_694 : decode cL_law 694 = .ok (.iconst 0, 1) := by decide +kernel
theorem dL_law_695 : decode cL_law 695 = .ok (.daload, 1) := by decide +kernel
theorem dL_law_696 : decode cL_law 696 = .ok (.dload 7, 2) := by decide +kernel
theorem dL_law_698 : decode cL_law 698 = .ok (.dcmp .l, 1) := by decide +kernel
theorem dL_law_699 : decode cL_law 699 = .ok (.ifCond .eq 25, 3) := by decide +kernel
theorem dL_law_702 : decode cL_law 702 = .ok (.aload 4, 2) := by decide +kernel
theorem dL_law_704 : decode cL_law 704 = .ok (.iconst 0, 1) := by decide +kernel
theorem dL_law_705 : decode cL_law 705 = .ok (.daload, 1) := by decide +kernel
theorem dL_law_706 : decode cL_law 706 = .ok (.aload 4, 2) := by decide +kernel
theorem dL_law_708 : decode cL_law 708 = .ok (.iconst 0, 1) := by decide +kernel
theorem dL_law_709 : decode cL_law 709 = .ok (.daload, 1) := by decide +kernel
theorem dL_law_710 : decode cL_law 710 = .ok (.dcmp .l, 1) := by decide +kernel
theorem dL_law_711 : decode cL_law 711 = .ok (.ifCond .eq 11, 3) := by decide +kernel
theorem dL_law_714 : decode cL_law 714 = .ok (.dload 7, 2) := by decide +kernel
theorem dL_law_716 : decode cL_law 716 = .ok (.dload 7, 2) := by decide +kernel
theorem dL_law_718 : decode cL_law 718 = .ok (.dcmp .l, 1) := by decide +kernel
theorem dL_law_719 : decode cL_law 719 = .ok (.ifCond .ne 5, 3) := by decide +kernel
theorem dL_law_722 : decode cL_law 722 = .ok (.iconst 0, 1) := by decide +kernel
theorem dL_law_723 : decode cL_law 723 = .ok (.ireturn, 1) := by decide +kernel
theorem dL_law_724 : decode cL_law 724 = .ok (.goto 449, 3) := by decide +kernel
theorem dL_law_727 : decode cL_law 727 = .ok (.aload_n 1, 1) := by decide +kernel
theorem dL_law_728 : decode cL_law 728 = .ok (.aload_n 0, 1) := by decide +kernel
theorem dL_law_729 : decode cL_law 729 = .ok (.iload 5, 2) := by decide +kernel
theorem dL_law_731 : decode cL_law 731 = .ok (.iconst 1, 1) := by decide +kernel
theorem dL_law_732 : decode cL_law 732 = .ok (.iadd, 1) := by decide +kernel
theorem dL_law_733 : decode cL_law 733 = .ok (.iaload, 1) := by decide +kernel
theorem dL_law_734 : decode cL_law 734 = .ok (.aload 4, 2) := by decide +kernel
theorem dL_law_736 : decode cL_law 736 = .ok (.invokestatic 100, 3) := by decide +kernel
theorem dL_law_739 : decode cL_law 739 = .ok (.istore 6, 2) := by decide +kernel
theorem dL_law_741 : decode cL_law 741 = .ok (.aload_n 2, 1) := by decide +kernel
theorem dL_law_742 : decode cL_law 742 = .ok (.aload_n 0, 1) := by decide +kernel
theorem dL_law_743 : decode cL_law 743 = .ok (.iload 5, 2) := by decide +kernel
theorem dL_law_745 : decode cL_law 745 = .ok (.iconst 1, 1) := by decide +kernel
theorem dL_law_746 : decode cL_law 746 = .ok (.iadd, 1) := by decide +kernel
theorem dL_law_747 : decode cL_law 747 = .ok (.iaload, 1) := by decide +kernel
theorem dL_law_748 : decode cL_law 748 = .ok (.invokevirtual 102, 3) := by decide +kernel
theorem dL_law_751 : decode cL_law 751 = .ok (.dstore 7, 2) := by decide +kernel
theorem dL_law_753 : decode cL_law 753 = .ok (.aload_n 2, 1) := by decide +kernel
theorem dL_law_754 : decode cL_law 754 = .ok (.invokevirtual 73, 3) := by decide +kernel
theorem dL_law_757 : decode cL_law 757 = .ok (.iload 6, 2) := by decide +kernel
theorem dL_law_759 : decode cL_law 759 = .ok (.if_icmp .eq 5, 3) := by decide +kernel
theorem dL_law_762 : decode cL_law 762 = .ok (.iconst 0, 1) := by decide +kernel
theorem dL_law_763 : decode cL_law 763 = .ok (.ireturn, 1) := by decide +kernel
theorem dL_law_764 : decode cL_law 764 = .ok (.iload 6, 2) := by decide +kernel
theorem dL_law_766 : decode cL_law 766 = .ok (.ifCond .ne 35, 3) := by decide +kernel
theorem dL_law_769 : decode cL_law 769 = .ok (.aload 4, 2) := by decide +kernel
theorem dL_law_771 : decode cL_law 771 = .ok (.iconst 0, 1) := by decide +kernel
theorem dL_law_772 : decode cL_law 772 = .ok (.daload, 1) := by decide +kernel
theorem dL_law_773 : decode cL_law 773 = .ok (.dload 7, 2) := by decide +kernel
theorem dL_law_775 : decode cL_law 775 = .ok (.dcmp .l, 1) := by decide +kernel
theorem dL_law_776 : decode cL_law 776 = .ok (.ifCond .eq 25, 3) := by decide +kernel
theorem dL_law_779 : decode cL_law 779 = .ok (.aload 4, 2) := by decide +kernel
theorem dL_law_781 : decode cL_law 781 = .ok (.iconst 0, 1) := by decide +kernel
theorem dL_law_782 : decode cL_law 782 = .ok (.daload, 1) := by decide +kernel
theorem dL_law_783 : decode cL_law 783 = .ok (.aload 4, 2) := by decide +kernel
theorem dL_law_785 : decode cL_law 785 = .ok (.iconst 0, 1) := by decide +kernel
theorem dL_law_786 : decode cL_law 786 = .ok (.daload, 1) := by decide +kernel
theorem dL_law_787 : decode cL_law 787 = .ok (.dcmp .l, 1) := by decide +kernel
theorem dL_law_788 : decode cL_law 788 = .ok (.ifCond .eq 11, 3) := by decide +kernel
theorem dL_law_791 : decode cL_law 791 = .ok (.dload 7, 2) := by decide +kernel
theorem dL_law_793 : decode cL_law 793 = .ok (.dload 7, 2) := by decide +kernel
theorem dL_law_795 : decode cL_law 795 = .ok (.dcmp .l, 1) := by decide +kernel
theorem dL_law_796 : decode cL_law 796 = .ok (.ifCond .ne 5, 3) := by decide +kernel
theorem dL_law_799 : decode cL_law 799 = .ok (.iconst 0, 1) := by decide +kernel
theorem dL_law_800 : decode cL_law 800 = .ok (.ireturn, 1) := by decide +kernel
theorem dL_law_801 : decode cL_law 801 = .ok (.goto 372, 3) := by decide +kernel
theorem dL_law_804 : decode cL_law 804 = .ok (.aload_n 1, 1) := by decide +kernel
theorem dL_law_805 : decode cL_law 805 = .ok (.aload_n 0, 1) := by decide +kernel
theorem dL_law_806 : decode cL_law 806 = .ok (.iload 5, 2) := by decide +kernel
theorem dL_law_808 : decode cL_law 808 = .ok (.iconst 1, 1) := by decide +kernel
theorem dL_law_809 : decode cL_law 809 = .ok (.iadd, 1) := by decide +kernel
theorem dL_law_810 : decode cL_law 810 = .ok (.iaload, 1) := by decide +kernel
theorem dL_law_811 : decode cL_law 811 = .ok (.aload_n 0, 1) := by decide +kernel
theorem dL_law_812 : decode cL_law 812 = .ok (.iload 5, 2) := by decide +kernel
theorem dL_law_814 : decode cL_law 814 = .ok (.iconst 2, 1) := by decide +kernel
theorem dL_law_815 : decode cL_law 815 = .ok (.iadd, 1) := by decide +kernel
theorem dL_law_816 : decode cL_law 816 = .ok (.iaload, 1) := by decide +kernel
theorem dL_law_817 : decode cL_law 817 = .ok (.aload_n 3, 1) := by decide +kernel
theorem dL_law_818 : decode cL_law 818 = .ok (.invokestatic 103, 3) := by decide +kernel
theorem dL_law_821 : decode cL_law 821 = .ok (.istore 6, 2) := by decide +kernel
theorem dL_law_823 : decode cL_law 823 = .ok (.aload_n 2, 1) := by decide +kernel
theorem dL_law_824 : decode cL_law 824 = .ok (.aload_n 0, 1) := by decide +kernel
theorem dL_law_825 : decode cL_law 825 = .ok (.iload 5, 2) := by decide +kernel
theorem dL_law_827 : decode cL_law 827 = .ok (.iconst 1, 1) := by decide +kernel
theorem dL_law_828 : decode cL_law 828 = .ok (.iadd, 1) := by decide +kernel
theorem dL_law_829 : decode cL_law 829 = .ok (.iaload, 1) := by decide +kernel
theorem dL_law_830 : decode cL_law 830 = .ok (.aload_n 0, 1) := by decide +kernel
theorem dL_law_831 : decode cL_law 831 = .ok (.iload 5, 2) := by decide +kernel
theorem dL_law_833 : decode cL_law 833 = .ok (.iconst 2, 1) := by decide +kernel
theorem dL_law_834 : decode cL_law 834 = .ok (.iadd, 1) := by decide +kernel
theorem dL_law_835 : decode cL_law 835 = .ok (.iaload, 1) := by decide +kernel
theorem dL_law_836 : decode cL_law 836 = .ok (.invokevirtual 106, 3) := by decide +kernel
theorem dL_law_839 : decode cL_law 839 = .ok (.istore 7, 2) := by decide +kernel
theorem dL_law_841 : decode cL_law 841 = .ok (.aload_n 2, 1) := by decide +kernel
theorem dL_law_842 : decode cL_law 842 = .ok (.invokevirtual 73, 3) := by decide +kernel
theorem dL_law_845 : decode cL_law 845 = .ok (.iload 6, 2) := by decide +kernel
theorem dL_law_847 : decode cL_law 847 = .ok (.if_icmp .eq 5, 3) := by decide +kernel
theorem dL_law_850 : decode cL_law 850 = .ok (.iconst 0, 1) := by decide +kernel
theorem dL_law_851 : decode cL_law 851 = .ok (.ireturn, 1) := by decide +kernel
theorem dL_law_852 : decode cL_law 852 = .ok (.iload 6, 2) := by decide +kernel
theorem dL_law_854 : decode cL_law 854 = .ok (.ifCond .ne 15, 3) := by decide +kernel
theorem dL_law_857 : decode cL_law 857 = .ok (.aload_n 3, 1) := by decide +kernel
theorem dL_law_858 : decode cL_law 858 = .ok (.iconst 0, 1) := by decide +kernel
theorem dL_law_859 : decode cL_law 859 = .ok (.laload, 1) := by decide +kernel
theorem dL_law_860 : decode cL_law 860 = .ok (.iload 7, 2) := by decide +kernel
theorem dL_law_862 : decode cL_law 862 = .ok (.i2l, 1) := by decide +kernel
theorem dL_law_863 : decode cL_law 863 = .ok (.lcmp, 1) := by decide +kernel
theorem dL_law_864 : decode cL_law 864 = .ok (.ifCond .eq 5, 3) := by decide +kernel
theorem dL_law_867 : decode cL_law 867 = .ok (.iconst 0, 1) := by decide +kernel
theorem dL_law_868 : decode cL_law 868 = .ok (.ireturn, 1) := by decide +kernel
theorem dL_law_869 : decode cL_law 869 = .ok (.goto 304, 3) := by decide +kernel
theorem dL_law_872 : decode cL_law 872 = .ok (.aload_n 1, 1) := by decide +kernel
theorem dL_law_873 : decode cL_law 873 = .ok (.aload_n 0, 1) := by decide +kernel
theorem dL_law_874 : decode cL_law 874 = .ok (.iload 5, 2) := by decide +kernel
theorem dL_law_876 : decode cL_law 876 = .ok (.iconst 1, 1) := by decide +kernel
theorem dL_law_877 : decode cL_law 877 = .ok (.iadd, 1) := by decide +kernel
theorem dL_law_878 : decode cL_law 878 = .ok (.iaload, 1) := by decide +kernel
theorem dL_law_879 : decode cL_law 879 = .ok (.aload_n 0, 1) := by decide +kernel
theorem dL_law_880 : decode cL_law 880 = .ok (.iload 5, 2) := by decide +kernel
theorem dL_law_882 : decode cL_law 882 = .ok (.iconst 2, 1) := by decide +kernel
theorem dL_law_883 : decode cL_law 883 = .ok (.iadd, 1) := by decide +kernel
theorem dL_law_884 : decode cL_law 884 = .ok (.iaload, 1) := by decide +kernel
theorem dL_law_885 : decode cL_law 885 = .ok (.aload_n 3, 1) := by decide +kernel
theorem dL_law_886 : decode cL_law 886 = .ok (.invokestatic 107, 3) := by decide +kernel
theorem dL_law_889 : decode cL_law 889 = .ok (.istore 6, 2) := by decide +kernel
theorem dL_law_891 : decode cL_law 891 = .ok (.aload_n 2, 1) := by decide +kernel
theorem dL_law_892 : decode cL_law 892 = .ok (.aload_n 0, 1) := by decide +kernel
theorem dL_law_893 : decode cL_law 893 = .ok (.iload 5, 2) := by decide +kernel
theorem dL_law_895 : decode cL_law 895 = .ok (.iconst 1, 1) := by decide +kernel
theorem dL_law_896 : decode cL_law 896 = .ok (.iadd, 1) := by decide +kernel
theorem dL_law_897 : decode cL_law 897 = .ok (.iaload, 1) := by decide +kernel
theorem dL_law_898 : decode cL_law 898 = .ok (.aload_n 0, 1) := by decide +kernel
theorem dL_law_899 : decode cL_law 899 = .ok (.iload 5, 2) := by decide +kernel
theorem dL_law_901 : decode cL_law 901 = .ok (.iconst 2, 1) := by decide +kernel
theorem dL_law_902 : decode cL_law 902 = .ok (.iadd, 1) := by decide +kernel
theorem dL_law_903 : decode cL_law 903 = .ok (.iaload, 1) := by decide +kernel
theorem dL_law_904 : decode cL_law 904 = .ok (.invokevirtual 109, 3) := by decide +kernel
theorem dL_law_907 : decode cL_law 907 = .ok (.istore 7, 2) := by decide +kernel
theorem dL_law_909 : decode cL_law 909 = .ok (.aload_n 2, 1) := by decide +kernel
theorem dL_law_910 : decode cL_law 910 = .ok (.invokevirtual 73, 3) := by decide +kernel
theorem dL_law_913 : decode cL_law 913 = .ok (.iload 6, 2) := by decide +kernel
theorem dL_law_915 : decode cL_law 915 = .ok (.if_icmp .eq 5, 3) := by decide +kernel
theorem dL_law_918 : decode cL_law 918 = .ok (.iconst 0, 1) := by decide +kernel
theorem dL_law_919 : decode cL_law 919 = .ok (.ireturn, 1) := by decide +kernel
theorem dL_law_920 : decode cL_law 920 = .ok (.iload 6, 2) := by decide +kernel
theorem dL_law_922 : decode cL_law 922 = .ok (.ifCond .ne 15, 3) := by decide +kernel
theorem dL_law_925 : decode cL_law 925 = .ok (.aload_n 3, 1) := by decide +kernel
theorem dL_law_926 : decode cL_law 926 = .ok (.iconst 0, 1) := by decide +kernel
theorem dL_law_927 : decode cL_law 927 = .ok (.laload, 1) := by decide +kernel
theorem dL_law_928 : decode cL_law 928 = .ok (.iload 7, 2) := by decide +kernel
theorem dL_law_930 : decode cL_law 930 = .ok (.i2l, 1) := by decide +kernel
theorem dL_law_931 : decode cL_law 931 = .ok (.lcmp, 1) := by decide +kernel
theorem dL_law_932 : decode cL_law 932 = .ok (.ifCond .eq 5, 3) := by decide +kernel
theorem dL_law_935 : decode cL_law 935 = .ok (.iconst 0, 1) := by decide +kernel
theorem dL_law_936 : decode cL_law 936 = .ok (.ireturn, 1) := by decide +kernel
theorem dL_law_937 : decode cL_law 937 = .ok (.goto 236, 3) := by decide +kernel
theorem dL_law_940 : decode cL_law 940 = .ok (.aload_n 1, 1) := by decide +kernel
theorem dL_law_941 : decode cL_law 941 = .ok (.aload_n 0, 1) := by decide +kernel
theorem dL_law_942 : decode cL_law 942 = .ok (.iload 5, 2) := by decide +kernel
theorem dL_law_944 : decode cL_law 944 = .ok (.iconst 1, 1) := by decide +kernel
theorem dL_law_945 : decode cL_law 945 = .ok (.iadd, 1) := by decide +kernel
theorem dL_law_946 : decode cL_law 946 = .ok (.iaload, 1) := by decide +kernel
theorem dL_law_947 : decode cL_law 947 = .ok (.aload_n 0, 1) := by decide +kernel
theorem dL_law_948 : decode cL_law 948 = .ok (.iload 5, 2) := by decide +kernel
theorem dL_law_950 : decode cL_law 950 = .ok (.iconst 2, 1) := by decide +kernel
theorem dL_law_951 : decode cL_law 951 = .ok (.iadd, 1) := by decide +kernel
theorem dL_law_952 : decode cL_law 952 = .ok (.iaload, 1) := by decide +kernel
theorem dL_law_953 : decode cL_law 953 = .ok (.aload_n 3, 1) := by decide +kernel
theorem dL_law_954 : decode cL_law 954 = .ok (.invokestatic 110, 3) := by decide +kernel
theorem dL_law_957 : decode cL_law 957 = .ok (.istore 6, 2) := by decide +kernel
theorem dL_law_959 : decode cL_law 959 = .ok (.aload_n 2, 1) := by decide +kernel
theorem dL_law_960 : decode cL_law 960 = .ok (.aload_n 0, 1) := by decide +kernel
theorem dL_law_961 : decode cL_law 961 = .ok (.iload 5, 2) := by decide +kernel
theorem dL_law_963 : decode cL_law 963 = .ok (.iconst 1, 1) := by decide +kernel
theorem dL_law_964 : decode cL_law 964 = .ok (.iadd, 1) := by decide +kernel
theorem dL_law_965 : decode cL_law 965 = .ok (.iaload, 1) := by decide +kernel
theorem dL_law_966 : decode cL_law 966 = .ok (.aload_n 0, 1) := by decide +kernel
theorem dL_law_967 : decode cL_law 967 = .ok (.iload 5, 2) := by decide +kernel
theorem dL_law_969 : decode cL_law 969 = .ok (.iconst 2, 1) := by decide +kernel
theorem dL_law_970 : decode cL_law 970 = .ok (.iadd, 1) := by decide +kernel
theorem dL_law_971 : decode cL_law 971 = .ok (.iaload, 1) := by decide +kernel
theorem dL_law_972 : decode cL_law 972 = .ok (.invokevirtual 112, 3) := by decide +kernel
theorem dL_law_975 : decode cL_law 975 = .ok (.istore 7, 2) := by decide +kernel
theorem dL_law_977 : decode cL_law 977 = .ok (.aload_n 2, 1) := by decide +kernel
theorem dL_law_978 : decode cL_law 978 = .ok (.invokevirtual 73, 3) := by decide +kernel
theorem dL_law_981 : decode cL_law 981 = .ok (.iload 6, 2) := by decide +kernel
theorem dL_law_983 : decode cL_law 983 = .ok (.if_icmp .eq 5, 3) := by decide +kernel
theorem dL_law_986 : decode cL_law 986 = .ok (.iconst 0, 1) := by decide +kernel
theorem dL_law_987 : decode cL_law 987 = .ok (.ireturn, 1) := by decide +kernel
theorem dL_law_988 : decode cL_law 988 = .ok (.iload 6, 2) := by decide +kernel
theorem dL_law_990 : decode cL_law 990 = .ok (.ifCond .ne 15, 3) := by decide +kernel
theorem dL_law_993 : decode cL_law 993 = .ok (.aload_n 3, 1) := by decide +kernel
theorem dL_law_994 : decode cL_law 994 = .ok (.iconst 0, 1) := by decide +kernel
theorem dL_law_995 : decode cL_law 995 = .ok (.laload, 1) := by decide +kernel
theorem dL_law_996 : decode cL_law 996 = .ok (.iload 7, 2) := by decide +kernel
theorem dL_law_998 : decode cL_law 998 = .ok (.i2l, 1) := by decide +kernel
theorem dL_law_999 : decode cL_law 999 = .ok (.lcmp, 1) := by decide +kernel
theorem dL_law_1000 : decode cL_law 1000 = .ok (.ifCond .eq 5, 3) := by decide +kernel
theorem dL_law_1003 : decode cL_law 1003 = .ok (.iconst 0, 1) := by decide +kernel
theorem dL_law_1004 : decode cL_law 1004 = .ok (.ireturn, 1) := by decide +kernel
theorem dL_law_1005 : decode cL_law 1005 = .ok (.goto 168, 3) := by decide +kernel
theorem dL_law_1008 : decode cL_law 1008 = .ok (.aload_n 1, 1) := by decide +kernel
theorem dL_law_1009 : decode cL_law 1009 = .ok (.aload_n 0, 1) := by decide +kernel
theorem dL_law_1010 : decode cL_law 1010 = .ok (.iload 5, 2) := by decide +kernel
theorem dL_law_1012 : decode cL_law 1012 = .ok (.iconst 1, 1) := by decide +kernel
theorem dL_law_1013 : decode cL_law 1013 = .ok (.iadd, 1) := by decide +kernel
theorem dL_law_1014 : decode cL_law 1014 = .ok (.iaload, 1) := by decide +kernel
theorem dL_law_1015 : decode cL_law 1015 = .ok (.aload_n 0, 1) := by decide +kernel
theorem dL_law_1016 : decode cL_law 1016 = .ok (.iload 5, 2) := by decide +kernel
theorem dL_law_1018 : decode cL_law 1018 = .ok (.iconst 2, 1) := by decide +kernel
theorem dL_law_1019 : decode cL_law 1019 = .ok (.iadd, 1) := by decide +kernel
theorem dL_law_1020 : decode cL_law 1020 = .ok (.iaload, 1) := by decide +kernel
theorem dL_law_1021 : decode cL_law 1021 = .ok (.aload_n 3, 1) := by decide +kernel
theorem dL_law_1022 : decode cL_law 1022 = .ok (.invokestatic 113, 3) := by decide +kernel
theorem dL_law_1025 : decode cL_law 1025 = .ok (.istore 6, 2) := by decide +kernel
theorem dL_law_1027 : decode cL_law 1027 = .ok (.aload_n 2, 1) := by decide +kernel
theorem dL_law_1028 : decode cL_law 1028 = .ok (.aload_n 0, 1) := by decide +kernel
theorem dL_law_1029 : decode cL_law 1029 = .ok (.iload 5, 2) := by decide +kernel
theorem dL_law_1031 : decode cL_law 1031 = .ok (.iconst 1, 1) := by decide +kernel
theorem dL_law_1032 : decode cL_law 1032 = .ok (.iadd, 1) := by decide +kernel
theorem dL_law_1033 : decode cL_law 1033 = .ok (.iaload, 1) := by decide +kernel
theorem dL_law_1034 : decode cL_law 1034 = .ok (.aload_n 0, 1) := by decide +kernel
theorem dL_law_1035 : decode cL_law 1035 = .ok (.iload 5, 2) := by decide +kernel
theorem dL_law_1037 : decode cL_law 1037 = .ok (.iconst 2, 1) := by decide +kernel
theorem dL_law_1038 : decode cL_law 1038 = .ok (.iadd, 1) := by decide +kernel
theorem dL_law_1039 : decode cL_law 1039 = .ok (.iaload, 1) := by decide +kernel
theorem dL_law_1040 : decode cL_law 1040 = .ok (.invokevirtual 115, 3) := by decide +kernel
theorem dL_law_1043 : decode cL_law 1043 = .ok (.istore 7, 2) := by decide +kernel
theorem dL_law_1045 : decode cL_law 1045 = .ok (.aload_n 2, 1) := by decide +kernel
theorem dL_law_1046 : decode cL_law 1046 = .ok (.invokevirtual 73, 3) := by decide +kernel
theorem dL_law_1049 : decode cL_law 1049 = .ok (.iload 6, 2) := by decide +kernel
theorem dL_law_1051 : decode cL_law 1051 = .ok (.if_icmp .eq 5, 3) := by decide +kernel
theorem dL_law_1054 : decode cL_law 1054 = .ok (.iconst 0, 1) := by decide +kernel
theorem dL_law_1055 : decode cL_law 1055 = .ok (.ireturn, 1) := by decide +kernel
theorem dL_law_1056 : decode cL_law 1056 = .ok (.iload 6, 2) := by decide +kernel
theorem dL_law_1058 : decode cL_law 1058 = .ok (.ifCond .ne 15, 3) := by decide +kernel
theorem dL_law_1061 : decode cL_law 1061 = .ok (.aload_n 3, 1) := by decide +kernel
theorem dL_law_1062 : decode cL_law 1062 = .ok (.iconst 0, 1) := by decide +kernel
theorem dL_law_1063 : decode cL_law 1063 = .ok (.laload, 1) := by decide +kernel
theorem dL_law_1064 : decode cL_law 1064 = .ok (.iload 7, 2) := by decide +kernel
theorem dL_law_1066 : decode cL_law 1066 = .ok (.i2l, 1) := by decide +kernel
theorem dL_law_1067 : decode cL_law 1067 = .ok (.lcmp, 1) := by decide +kernel
theorem dL_law_1068 : decode cL_law 1068 = .ok (.ifCond .eq 5, 3) := by decide +kernel
theorem dL_law_1071 : decode cL_law 1071 = .ok (.iconst 0, 1) := by decide +kernel
theorem dL_law_1072 : decode cL_law 1072 = .ok (.ireturn, 1) := by decide +kernel
theorem dL_law_1073 : decode cL_law 1073 = .ok (.goto 100, 3) := by decide +kernel
theorem dL_law_1076 : decode cL_law 1076 = .ok (.aload_n 1, 1) := by decide +kernel
theorem dL_law_1077 : decode cL_law 1077 = .ok (.aload_n 0, 1) := by decide +kernel
theorem dL_law_1078 : decode cL_law 1078 = .ok (.iload 5, 2) := by decide +kernel
theorem dL_law_1080 : decode cL_law 1080 = .ok (.iconst 1, 1) := by decide +kernel
theorem dL_law_1081 : decode cL_law 1081 = .ok (.iadd, 1) := by decide +kernel
theorem dL_law_1082 : decode cL_law 1082 = .ok (.iaload, 1) := by decide +kernel
theorem dL_law_1083 : decode cL_law 1083 = .ok (.aload_n 3, 1) := by decide +kernel
theorem dL_law_1084 : decode cL_law 1084 = .ok (.invokestatic 116, 3) := by decide +kernel
theorem dL_law_1087 : decode cL_law 1087 = .ok (.istore 6, 2) := by decide +kernel
theorem dL_law_1089 : decode cL_law 1089 = .ok (.aload_n 2, 1) := by decide +kernel
theorem dL_law_1090 : decode cL_law 1090 = .ok (.aload_n 0, 1) := by decide +kernel
theorem dL_law_1091 : decode cL_law 1091 = .ok (.iload 5, 2) := by decide +kernel
theorem dL_law_1093 : decode cL_law 1093 = .ok (.iconst 1, 1) := by decide +kernel
theorem dL_law_1094 : decode cL_law 1094 = .ok (.iadd, 1) := by decide +kernel
theorem dL_law_1095 : decode cL_law 1095 = .ok (.iaload, 1) := by decide +kernel
theorem dL_law_1096 : decode cL_law 1096 = .ok (.invokevirtual 118, 3) := by decide +kernel
theorem dL_law_1099 : decode cL_law 1099 = .ok (.istore 7, 2) := by decide +kernel
theorem dL_law_1101 : decode cL_law 1101 = .ok (.aload_n 2, 1) := by decide +kernel
theorem dL_law_1102 : decode cL_law 1102 = .ok (.invokevirtual 73, 3) := by decide +kernel
theorem dL_law_1105 : decode cL_law 1105 = .ok (.iload 6, 2) := by decide +kernel
theorem dL_law_1107 : decode cL_law 1107 = .ok (.if_icmp .eq 5, 3) := by decide +kernel
theorem dL_law_1110 : decode cL_law 1110 = .ok (.iconst 0, 1) := by decide +kernel
theorem dL_law_1111 : decode cL_law 1111 = .ok (.ireturn, 1) := by decide +kernel
theorem dL_law_1112 : decode cL_law 1112 = .ok (.iload 6, 2) := by decide +kernel
theorem dL_law_1114 : decode cL_law 1114 = .ok (.ifCond .ne 15, 3) := by decide +kernel
theorem dL_law_1117 : decode cL_law 1117 = .ok (.aload_n 3, 1) := by decide +kernel
theorem dL_law_1118 : decode cL_law 1118 = .ok (.iconst 0, 1) := by decide +kernel
theorem dL_law_1119 : decode cL_law 1119 = .ok (.laload, 1) := by decide +kernel
theorem dL_law_1120 : decode cL_law 1120 = .ok (.iload 7, 2) := by decide +kernel
theorem dL_law_1122 : decode cL_law 1122 = .ok (.i2l, 1) := by decide +kernel
theorem dL_law_1123 : decode cL_law 1123 = .ok (.lcmp, 1) := by decide +kernel
theorem dL_law_1124 : decode cL_law 1124 = .ok (.ifCond .eq 5, 3) := by decide +kernel
theorem dL_law_1127 : decode cL_law 1127 = .ok (.iconst 0, 1) := by decide +kernel
theorem dL_law_1128 : decode cL_law 1128 = .ok (.ireturn, 1) := by decide +kernel
theorem dL_law_1129 : decode cL_law 1129 = .ok (.goto 44, 3) := by decide +kernel
theorem dL_law_1132 : decode cL_law 1132 = .ok (.aload_n 1, 1) := by decide +kernel
theorem dL_law_1133 : decode cL_law 1133 = .ok (.invokevirtual 119, 3) := by decide +kernel
theorem dL_law_1136 : decode cL_law 1136 = .ok (.dstore 6, 2) := by decide +kernel
theorem dL_law_1138 : decode cL_law 1138 = .ok (.aload_n 2, 1) := by decide +kernel
theorem dL_law_1139 : decode cL_law 1139 = .ok (.invokevirtual 123, 3) := by decide +kernel
theorem dL_law_1142 : decode cL_law 1142 = .ok (.dstore 8, 2) := by decide +kernel
theorem dL_law_1144 : decode cL_law 1144 = .ok (.dload 6, 2) := by decide +kernel
theorem dL_law_1146 : decode cL_law 1146 = .ok (.dload 8, 2) := by decide +kernel
theorem dL_law_1148 : decode cL_law 1148 = .ok (.dcmp .l, 1) := by decide +kernel
theorem dL_law_1149 : decode cL_law 1149 = .ok (.ifCond .eq 21, 3) := by decide +kernel
theorem dL_law_1152 : decode cL_law 1152 = .ok (.dload 6, 2) := by decide +kernel
theorem dL_law_1154 : decode cL_law 1154 = .ok (.dload 6, 2) := by decide +kernel
theorem dL_law_1156 : decode cL_law 1156 = .ok (.dcmp .l, 1) := by decide +kernel
theorem dL_law_1157 : decode cL_law 1157 = .ok (.ifCond .eq 11, 3) := by decide +kernel
theorem dL_law_1160 : decode cL_law 1160 = .ok (.dload 8, 2) := by decide +kernel
theorem dL_law_1162 : decode cL_law 1162 = .ok (.dload 8, 2) := by decide +kernel
theorem dL_law_1164 : decode cL_law 1164 = .ok (.dcmp .l, 1) := by decide +kernel
theorem dL_law_1165 : decode cL_law 1165 = .ok (.ifCond .ne 5, 3) := by decide +kernel
theorem dL_law_1168 : decode cL_law 1168 = .ok (.iconst 0, 1) := by decide +kernel
theorem dL_law_1169 : decode cL_law 1169 = .ok (.ireturn, 1) := by decide +kernel
theorem dL_law_1170 : decode cL_law 1170 = .ok (.goto 3, 3) := by decide +kernel
theorem dL_law_1173 : decode cL_law 1173 = .ok (.iinc 5 5, 3) := by decide +kernel
theorem dL_law_1176 : decode cL_law 1176 = .ok (.goto (-1148), 3) := by decide +kernel
theorem dL_law_1179 : decode cL_law 1179 = .ok (.iconst 1, 1) := by decide +kernel
theorem dL_law_1180 : decode cL_law 1180 = .ok (.ireturn, 1) := by decide +kernel
