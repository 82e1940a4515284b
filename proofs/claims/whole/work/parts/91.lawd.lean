/-! the law's instructions (by program, wip/whole/gen/law.py) -/
theorem dL_701 : decode code 701 = .ok (.if_icmp .eq 577, 3) := by decide +kernel
theorem dL_704 : decode code 704 = .ok (.iconst 0, 1) := by decide +kernel
theorem dL_705 : decode code 705 = .ok (.ireturn, 1) := by decide +kernel
theorem dL_706 : decode code 706 = .ok (.aload_n 1, 1) := by decide +kernel
theorem dL_707 : decode code 707 = .ok (.aload_n 0, 1) := by decide +kernel
theorem dL_708 : decode code 708 = .ok (.iload_n 3, 1) := by decide +kernel
theorem dL_709 : decode code 709 = .ok (.iconst 1, 1) := by decide +kernel
theorem dL_710 : decode code 710 = .ok (.iadd, 1) := by decide +kernel
theorem dL_711 : decode code 711 = .ok (.iaload, 1) := by decide +kernel
theorem dL_712 : decode code 712 = .ok (.invokevirtual 74, 3) := by decide +kernel
theorem dL_715 : decode code 715 = .ok (.aload_n 2, 1) := by decide +kernel
theorem dL_716 : decode code 716 = .ok (.aload_n 0, 1) := by decide +kernel
theorem dL_717 : decode code 717 = .ok (.iload_n 3, 1) := by decide +kernel
theorem dL_718 : decode code 718 = .ok (.iconst 1, 1) := by decide +kernel
theorem dL_719 : decode code 719 = .ok (.iadd, 1) := by decide +kernel
theorem dL_720 : decode code 720 = .ok (.iaload, 1) := by decide +kernel
theorem dL_721 : decode code 721 = .ok (.invokevirtual 77, 3) := by decide +kernel
theorem dL_724 : decode code 724 = .ok (.if_icmp .eq 554, 3) := by decide +kernel
theorem dL_727 : decode code 727 = .ok (.iconst 0, 1) := by decide +kernel
theorem dL_728 : decode code 728 = .ok (.ireturn, 1) := by decide +kernel
theorem dL_729 : decode code 729 = .ok (.aload_n 1, 1) := by decide +kernel
theorem dL_730 : decode code 730 = .ok (.aload_n 0, 1) := by decide +kernel
theorem dL_731 : decode code 731 = .ok (.iload_n 3, 1) := by decide +kernel
theorem dL_732 : decode code 732 = .ok (.iconst 1, 1) := by decide +kernel
theorem dL_733 : decode code 733 = .ok (.iadd, 1) := by decide +kernel
theorem dL_734 : decode code 734 = .ok (.iaload, 1) := by decide +kernel
theorem dL_735 : decode code 735 = .ok (.aload_n 0, 1) := by decide +kernel
theorem dL_736 : decode code 736 = .ok (.iload_n 3, 1) := by decide +kernel
theorem dL_737 : decode code 737 = .ok (.iconst 2, 1) := by decide +kernel
theorem dL_738 : decode code 738 = .ok (.iadd, 1) := by decide +kernel
theorem dL_739 : decode code 739 = .ok (.iaload, 1) := by decide +kernel
theorem dL_740 : decode code 740 = .ok (.aload_n 0, 1) := by decide +kernel
theorem dL_741 : decode code 741 = .ok (.iload_n 3, 1) := by decide +kernel
theorem dL_742 : decode code 742 = .ok (.iconst 3, 1) := by decide +kernel
theorem dL_743 : decode code 743 = .ok (.iadd, 1) := by decide +kernel
theorem dL_744 : decode code 744 = .ok (.iaload, 1) := by decide +kernel
theorem dL_745 : decode code 745 = .ok (.aload_n 0, 1) := by decide +kernel
theorem dL_746 : decode code 746 = .ok (.iload_n 3, 1) := by decide +kernel
theorem dL_747 : decode code 747 = .ok (.iconst 4, 1) := by decide +kernel
theorem dL_748 : decode code 748 = .ok (.iadd, 1) := by decide +kernel
theorem dL_749 : decode code 749 = .ok (.iaload, 1) := by decide +kernel
theorem dL_750 : decode code 750 = .ok (.aload_n 0, 1) := by decide +kernel
theorem dL_751 : decode code 751 = .ok (.iload_n 3, 1) := by decide +kernel
theorem dL_752 : decode code 752 = .ok (.iconst 5, 1) := by decide +kernel
theorem dL_753 : decode code 753 = .ok (.iadd, 1) := by decide +kernel
theorem dL_754 : decode code 754 = .ok (.iaload, 1) := by decide +kernel
theorem dL_755 : decode code 755 = .ok (.invokevirtual 78, 3) := by decide +kernel
theorem dL_758 : decode code 758 = .ok (.aload_n 2, 1) := by decide +kernel
theorem dL_759 : decode code 759 = .ok (.aload_n 0, 1) := by decide +kernel
theorem dL_760 : decode code 760 = .ok (.iload_n 3, 1) := by decide +kernel
theorem dL_761 : decode code 761 = .ok (.iconst 1, 1) := by decide +kernel
theorem dL_762 : decode code 762 = .ok (.iadd, 1) := by decide +kernel
theorem dL_763 : decode code 763 = .ok (.iaload, 1) := by decide +kernel
theorem dL_764 : decode code 764 = .ok (.aload_n 0, 1) := by decide +kernel
theorem dL_765 : decode code 765 = .ok (.iload_n 3, 1) := by decide +kernel
theorem dL_766 : decode code 766 = .ok (.iconst 2, 1) := by decide +kernel
theorem dL_767 : decode code 767 = .ok (.iadd, 1) := by decide +kernel
theorem dL_768 : decode code 768 = .ok (.iaload, 1) := by decide +kernel
theorem dL_769 : decode code 769 = .ok (.aload_n 0, 1) := by decide +kernel
theorem dL_770 : decode code 770 = .ok (.iload_n 3, 1) := by decide +kernel
theorem dL_771 : decode code 771 = .ok (.iconst 3, 1) := by decide +kernel
theorem dL_772 : decode code 772 = .ok (.iadd, 1) := by decide +kernel
theorem dL_773 : decode code 773 = .ok (.iaload, 1) := by decide +kernel
theorem dL_774 : decode code 774 = .ok (.aload_n 0, 1) := by decide +kernel
theorem dL_775 : decode code 775 = .ok (.iload_n 3, 1) := by decide +kernel
theorem dL_776 : decode code 776 = .ok (.iconst 4, 1) := by decide +kernel
theorem dL_777 : decode code 777 = .ok (.iadd, 1) := by decide +kernel
theorem dL_778 : decode code 778 = .ok (.iaload, 1) := by decide +kernel
theorem dL_779 : decode code 779 = .ok (.aload_n 0, 1) := by decide +kernel
theorem dL_780 : decode code 780 = .ok (.iload_n 3, 1) := by decide +kernel
theorem dL_781 : decode code 781 = .ok (.iconst 5, 1) := by decide +kernel
theorem dL_782 : decode code 782 = .ok (.iadd, 1) := by decide +kernel
theorem dL_783 : decode code 783 = .ok (.iaload, 1) := by decide +kernel
theorem dL_784 : decode code 784 = .ok (.invokevirtual 81, 3) := by decide +kernel
theorem dL_787 : decode code 787 = .ok (.if_icmp .eq 491, 3) := by decide +kernel
theorem dL_790 : decode code 790 = .ok (.iconst 0, 1) := by decide +kernel
theorem dL_791 : decode code 791 = .ok (.ireturn, 1) := by decide +kernel
theorem dL_792 : decode code 792 = .ok (.aload_n 1, 1) := by decide +kernel
theorem dL_793 : decode code 793 = .ok (.aload_n 0, 1) := by decide +kernel
theorem dL_794 : decode code 794 = .ok (.iload_n 3, 1) := by decide +kernel
theorem dL_795 : decode code 795 = .ok (.iconst 1, 1) := by decide +kernel
theorem dL_796 : decode code 796 = .ok (.iadd, 1) := by decide +kernel
theorem dL_797 : decode code 797 = .ok (.iaload, 1) := by decide +kernel
theorem dL_798 : decode code 798 = .ok (.aload_n 0, 1) := by decide +kernel
theorem dL_799 : decode code 799 = .ok (.iload_n 3, 1) := by decide +kernel
theorem dL_800 : decode code 800 = .ok (.iconst 2, 1) := by decide +kernel
theorem dL_801 : decode code 801 = .ok (.iadd, 1) := by decide +kernel
theorem dL_802 : decode code 802 = .ok (.iaload, 1) := by decide +kernel
theorem dL_803 : decode code 803 = .ok (.aload_n 0, 1) := by decide +kernel
theorem dL_804 : decode code 804 = .ok (.iload_n 3, 1) := by decide +kernel
theorem dL_805 : decode code 805 = .ok (.iconst 3, 1) := by decide +kernel
theorem dL_806 : decode code 806 = .ok (.iadd, 1) := by decide +kernel
theorem dL_807 : decode code 807 = .ok (.iaload, 1) := by decide +kernel
theorem dL_808 : decode code 808 = .ok (.invokevirtual 82, 3) := by decide +kernel
theorem dL_811 : decode code 811 = .ok (.aload_n 2, 1) := by decide +kernel
theorem dL_812 : decode code 812 = .ok (.aload_n 0, 1) := by decide +kernel
theorem dL_813 : decode code 813 = .ok (.iload_n 3, 1) := by decide +kernel
theorem dL_814 : decode code 814 = .ok (.iconst 1, 1) := by decide +kernel
theorem dL_815 : decode code 815 = .ok (.iadd, 1) := by decide +kernel
theorem dL_816 : decode code 816 = .ok (.iaload, 1) := by decide +kernel
theorem dL_817 : decode code 817 = .ok (.aload_n 0, 1) := by decide +kernel
theorem dL_818 : decode code 818 = .ok (.iload_n 3, 1) := by decide +kernel
theorem dL_819 : decode code 819 = .ok (.iconst 2, 1) := by decide +kernel
theorem dL_820 : decode code 820 = .ok (.iadd, 1) := by decide +kernel
theorem dL_821 : decode code 821 = .ok (.iaload, 1) := by decide +kernel
theorem dL_822 : decode code 822 = .ok (.aload_n 0, 1) := by decide +kernel
theorem dL_823 : decode code 823 = .ok (.iload_n 3, 1) := by decide +kernel
theorem dL_824 : decode code 824 = .ok (.iconst 3, 1) := by decide +kernel
theorem dL_825 : decode code 825 = .ok (.iadd, 1) := by decide +kernel
theorem dL_826 : decode code 826 = .ok (.iaload, 1) := by decide +kernel
theorem dL_827 : decode code 827 = .ok (.invokevirtual 86, 3) := by decide +kernel
theorem dL_830 : decode code 830 = .ok (.lcmp, 1) := by decide +kernel
theorem dL_831 : decode code 831 = .ok (.ifCond .eq 447, 3) := by decide +kernel
theorem dL_834 : decode code 834 = .ok (.iconst 0, 1) := by decide +kernel
theorem dL_835 : decode code 835 = .ok (.ireturn, 1) := by decide +kernel
theorem dL_836 : decode code 836 = .ok (.aload_n 1, 1) := by decide +kernel
theorem dL_837 : decode code 837 = .ok (.aload_n 0, 1) := by decide +kernel
theorem dL_838 : decode code 838 = .ok (.iload_n 3, 1) := by decide +kernel
theorem dL_839 : decode code 839 = .ok (.iconst 1, 1) := by decide +kernel
theorem dL_840 : decode code 840 = .ok (.iadd, 1) := by decide +kernel
theorem dL_841 : decode code 841 = .ok (.iaload, 1) := by decide +kernel
theorem dL_842 : decode code 842 = .ok (.aload_n 0, 1) := by decide +kernel
theorem dL_843 : decode code 843 = .ok (.iload_n 3, 1) := by decide +kernel
theorem dL_844 : decode code 844 = .ok (.iconst 2, 1) := by decide +kernel
theorem dL_845 : decode code 845 = .ok (.iadd, 1) := by decide +kernel
theorem dL_846 : decode code 846 = .ok (.iaload, 1) := by decide +kernel
theorem dL_847 : decode code 847 = .ok (.invokevirtual 87, 3) := by decide +kernel
theorem dL_850 : decode code 850 = .ok (.aload_n 2, 1) := by decide +kernel
theorem dL_851 : decode code 851 = .ok (.aload_n 0, 1) := by decide +kernel
theorem dL_852 : decode code 852 = .ok (.iload_n 3, 1) := by decide +kernel
theorem dL_853 : decode code 853 = .ok (.iconst 1, 1) := by decide +kernel
theorem dL_854 : decode code 854 = .ok (.iadd, 1) := by decide +kernel
theorem dL_855 : decode code 855 = .ok (.iaload, 1) := by decide +kernel
theorem dL_856 : decode code 856 = .ok (.aload_n 0, 1) := by decide +kernel
theorem dL_857 : decode code 857 = .ok (.iload_n 3, 1) := by decide +kernel
theorem dL_858 : decode code 858 = .ok (.iconst 2, 1) := by decide +kernel
theorem dL_859 : decode code 859 = .ok (.iadd, 1) := by decide +kernel
theorem dL_860 : decode code 860 = .ok (.iaload, 1) := by decide +kernel
theorem dL_861 : decode code 861 = .ok (.invokevirtual 90, 3) := by decide +kernel
theorem dL_864 : decode code 864 = .ok (.if_icmp .eq 414, 3) := by decide +kernel
theorem dL_867 : decode code 867 = .ok (.iconst 0, 1) := by decide +kernel
theorem dL_868 : decode code 868 = .ok (.ireturn, 1) := by decide +kernel
theorem dL_869 : decode code 869 = .ok (.aload_n 1, 1) := by decide +kernel
theorem dL_870 : decode code 870 = .ok (.aload_n 0, 1) := by decide +kernel
theorem dL_871 : decode code 871 = .ok (.iload_n 3, 1) := by decide +kernel
theorem dL_872 : decode code 872 = .ok (.iconst 1, 1) := by decide +kernel
theorem dL_873 : decode code 873 = .ok (.iadd, 1) := by decide +kernel
theorem dL_874 : decode code 874 = .ok (.iaload, 1) := by decide +kernel
theorem dL_875 : decode code 875 = .ok (.aload_n 0, 1) := by decide +kernel
theorem dL_876 : decode code 876 = .ok (.iload_n 3, 1) := by decide +kernel
theorem dL_877 : decode code 877 = .ok (.iconst 2, 1) := by decide +kernel
theorem dL_878 : decode code 878 = .ok (.iadd, 1) := by decide +kernel
theorem dL_879 : decode code 879 = .ok (.iaload, 1) := by decide +kernel
theorem dL_880 : decode code 880 = .ok (.aload_n 0, 1) := by decide +kernel
theorem dL_881 : decode code 881 = .ok (.iload_n 3, 1) := by decide +kernel
theorem dL_882 : decode code 882 = .ok (.iconst 3, 1) := by decide +kernel
theorem dL_883 : decode code 883 = .ok (.iadd, 1) := by decide +kernel
theorem dL_884 : decode code 884 = .ok (.iaload, 1) := by decide +kernel
theorem dL_885 : decode code 885 = .ok (.aload_n 0, 1) := by decide +kernel
theorem dL_886 : decode code 886 = .ok (.iload_n 3, 1) := by decide +kernel
theorem dL_887 : decode code 887 = .ok (.iconst 4, 1) := by decide +kernel
theorem dL_888 : decode code 888 = .ok (.iadd, 1) := by decide +kernel
theorem dL_889 : decode code 889 = .ok (.iaload, 1) := by decide +kernel
theorem dL_890 : decode code 890 = .ok (.invokevirtual 91, 3) := by decide +kernel
theorem dL_893 : decode code 893 = .ok (.aload_n 2, 1) := by decide +kernel
theorem dL_894 : decode code 894 = .ok (.aload_n 0, 1) := by decide +kernel
theorem dL_895 : decode code 895 = .ok (.iload_n 3, 1) := by decide +kernel
theorem dL_896 : decode code 896 = .ok (.iconst 1, 1) := by decide +kernel
theorem dL_897 : decode code 897 = .ok (.iadd, 1) := by decide +kernel
theorem dL_898 : decode code 898 = .ok (.iaload, 1) := by decide +kernel
theorem dL_899 : decode code 899 = .ok (.aload_n 0, 1) := by decide +kernel
theorem dL_900 : decode code 900 = .ok (.iload_n 3, 1) := by decide +kernel
theorem dL_901 : decode code 901 = .ok (.iconst 2, 1) := by decide +kernel
theorem dL_902 : decode code 902 = .ok (.iadd, 1) := by decide +kernel
theorem dL_903 : decode code 903 = .ok (.iaload, 1) := by decide +kernel
theorem dL_904 : decode code 904 = .ok (.aload_n 0, 1) := by decide +kernel
theorem dL_905 : decode code 905 = .ok (.iload_n 3, 1) := by decide +kernel
theorem dL_906 : decode code 906 = .ok (.iconst 3, 1) := by decide +kernel
theorem dL_907 : decode code 907 = .ok (.iadd, 1) := by decide +kernel
theorem dL_908 : decode code 908 = .ok (.iaload, 1) := by decide +kernel
theorem dL_909 : decode code 909 = .ok (.aload_n 0, 1) := by decide +kernel
theorem dL_910 : decode code 910 = .ok (.iload_n 3, 1) := by decide +kernel
theorem dL_911 : decode code 911 = .ok (.iconst 4, 1) := by decide +kernel
theorem dL_912 : decode code 912 = .ok (.iadd, 1) := by decide +kernel
theorem dL_913 : decode code 913 = .ok (.iaload, 1) := by decide +kernel
theorem dL_914 : decode code 914 = .ok (.invokevirtual 94, 3) := by decide +kernel
theorem dL_917 : decode code 917 = .ok (.if_icmp .eq 361, 3) := by decide +kernel
theorem dL_920 : decode code 920 = .ok (.iconst 0, 1) := by decide +kernel
theorem dL_921 : decode code 921 = .ok (.ireturn, 1) := by decide +kernel
theorem dL_922 : decode code 922 = .ok (.aload_n 1, 1) := by decide +kernel
theorem dL_923 : decode code 923 = .ok (.aload_n 0, 1) := by decide +kernel
theorem dL_924 : decode code 924 = .ok (.iload_n 3, 1) := by decide +kernel
theorem dL_925 : decode code 925 = .ok (.iconst 1, 1) := by decide +kernel
theorem dL_926 : decode code 926 = .ok (.iadd, 1) := by decide +kernel
theorem dL_927 : decode code 927 = .ok (.iaload, 1) := by decide +kernel
theorem dL_928 : decode code 928 = .ok (.aload_n 0, 1) := by decide +kernel
theorem dL_929 : decode code 929 = .ok (.iload_n 3, 1) := by decide +kernel
theorem dL_930 : decode code 930 = .ok (.iconst 2, 1) := by decide +kernel
theorem dL_931 : decode code 931 = .ok (.iadd, 1) := by decide +kernel
theorem dL_932 : decode code 932 = .ok (.iaload, 1) := by decide +kernel
theorem dL_933 : decode code 933 = .ok (.invokevirtual 95, 3) := by decide +kernel
theorem dL_936 : decode code 936 = .ok (.aload_n 2, 1) := by decide +kernel
theorem dL_937 : decode code 937 = .ok (.aload_n 0, 1) := by decide +kernel
theorem dL_938 : decode code 938 = .ok (.iload_n 3, 1) := by decide +kernel
theorem dL_939 : decode code 939 = .ok (.iconst 1, 1) := by decide +kernel
theorem dL_940 : decode code 940 = .ok (.iadd, 1) := by decide +kernel
theorem dL_941 : decode code 941 = .ok (.iaload, 1) := by decide +kernel
theorem dL_942 : decode code 942 = .ok (.aload_n 0, 1) := by decide +kernel
theorem dL_943 : decode code 943 = .ok (.iload_n 3, 1) := by decide +kernel
theorem dL_944 : decode code 944 = .ok (.iconst 2, 1) := by decide +kernel
theorem dL_945 : decode code 945 = .ok (.iadd, 1) := by decide +kernel
theorem dL_946 : decode code 946 = .ok (.iaload, 1) := by decide +kernel
theorem dL_947 : decode code 947 = .ok (.invokevirtual 98, 3) := by decide +kernel
theorem dL_950 : decode code 950 = .ok (.if_icmp .eq 328, 3) := by decide +kernel
theorem dL_953 : decode code 953 = .ok (.iconst 0, 1) := by decide +kernel
theorem dL_954 : decode code 954 = .ok (.ireturn, 1) := by decide +kernel
theorem dL_955 : decode code 955 = .ok (.aload_n 1, 1) := by decide +kernel
theorem dL_956 : decode code 956 = .ok (.aload_n 0, 1) := by decide +kernel
theorem dL_957 : decode code 957 = .ok (.iload_n 3, 1) := by decide +kernel
theorem dL_958 : decode code 958 = .ok (.iconst 1, 1) := by decide +kernel
theorem dL_959 : decode code 959 = .ok (.iadd, 1) := by decide +kernel
theorem dL_960 : decode code 960 = .ok (.iaload, 1) := by decide +kernel
theorem dL_961 : decode code 961 = .ok (.aload_n 0, 1) := by decide +kernel
theorem dL_962 : decode code 962 = .ok (.iload_n 3, 1) := by decide +kernel
theorem dL_963 : decode code 963 = .ok (.iconst 2, 1) := by decide +kernel
theorem dL_964 : decode code 964 = .ok (.iadd, 1) := by decide +kernel
theorem dL_965 : decode code 965 = .ok (.iaload, 1) := by decide +kernel
theorem dL_966 : decode code 966 = .ok (.invokevirtual 99, 3) := by decide +kernel
theorem dL_969 : decode code 969 = .ok (.aload_n 2, 1) := by decide +kernel
theorem dL_970 : decode code 970 = .ok (.aload_n 0, 1) := by decide +kernel
theorem dL_971 : decode code 971 = .ok (.iload_n 3, 1) := by decide +kernel
theorem dL_972 : decode code 972 = .ok (.iconst 1, 1) := by decide +kernel
theorem dL_973 : decode code 973 = .ok (.iadd, 1) := by decide +kernel
theorem dL_974 : decode code 974 = .ok (.iaload, 1) := by decide +kernel
theorem dL_975 : decode code 975 = .ok (.aload_n 0, 1) := by decide +kernel
theorem dL_976 : decode code 976 = .ok (.iload_n 3, 1) := by decide +kernel
theorem dL_977 : decode code 977 = .ok (.iconst 2, 1) := by decide +kernel
theorem dL_978 : decode code 978 = .ok (.iadd, 1) := by decide +kernel
theorem dL_979 : decode code 979 = .ok (.iaload, 1) := by decide +kernel
theorem dL_980 : decode code 980 = .ok (.invokevirtual 102, 3) := by decide +kernel
theorem dL_983 : decode code 983 = .ok (.if_icmp .eq 295, 3) := by decide +kernel
theorem dL_986 : decode code 986 = .ok (.iconst 0, 1) := by decide +kernel
theorem dL_987 : decode code 987 = .ok (.ireturn, 1) := by decide +kernel
theorem dL_988 : decode code 988 = .ok (.aload_n 1, 1) := by decide +kernel
theorem dL_989 : decode code 989 = .ok (.aload_n 0, 1) := by decide +kernel
theorem dL_990 : decode code 990 = .ok (.iload_n 3, 1) := by decide +kernel
theorem dL_991 : decode code 991 = .ok (.iconst 1, 1) := by decide +kernel
theorem dL_992 : decode code 992 = .ok (.iadd, 1) := by decide +kernel
theorem dL_993 : decode code 993 = .ok (.iaload, 1) := by decide +kernel
theorem dL_994 : decode code 994 = .ok (.aload_n 0, 1) := by decide +kernel
theorem dL_995 : decode code 995 = .ok (.iload_n 3, 1) := by decide +kernel
theorem dL_996 : decode code 996 = .ok (.iconst 2, 1) := by decide +kernel
theorem dL_997 : decode code 997 = .ok (.iadd, 1) := by decide +kernel
theorem dL_998 : decode code 998 = .ok (.iaload, 1) := by decide +kernel
theorem dL_999 : decode code 999 = .ok (.invokevirtual 103, 3) := by decide +kernel
theorem dL_1002 : decode code 1002 = .ok (.aload_n 2, 1) := by decide +kernel
theorem dL_1003 : decode code 1003 = .ok (.aload_n 0, 1) := by decide +kernel
theorem dL_1004 : decode code 1004 = .ok (.iload_n 3, 1) := by decide +kernel
theorem dL_1005 : decode code 1005 = .ok (.iconst 1, 1) := by decide +kernel
theorem dL_1006 : decode code 1006 = .ok (.iadd, 1) := by decide +kernel
theorem dL_1007 : decode code 1007 = .ok (.iaload, 1) := by decide +kernel
theorem dL_1008 : decode code 1008 = .ok (.aload_n 0, 1) := by decide +kernel
theorem dL_1009 : decode code 1009 = .ok (.iload_n 3, 1) := by decide +kernel
theorem dL_1010 : decode code 1010 = .ok (.iconst 2, 1) := by decide +kernel
theorem dL_1011 : decode code 1011 = .ok (.iadd, 1) := by decide +kernel
theorem dL_1012 : decode code 1012 = .ok (.iaload, 1) := by decide +kernel
theorem dL_1013 : decode code 1013 = .ok (.invokevirtual 106, 3) := by decide +kernel
theorem dL_1016 : decode code 1016 = .ok (.if_icmp .eq 262, 3) := by decide +kernel
theorem dL_1019 : decode code 1019 = .ok (.iconst 0, 1) := by decide +kernel
theorem dL_1020 : decode code 1020 = .ok (.ireturn, 1) := by decide +kernel
theorem dL_1021 : decode code 1021 = .ok (.aload_n 1, 1) := by decide +kernel
theorem dL_1022 : decode code 1022 = .ok (.aload_n 0, 1) := by decide +kernel
theorem dL_1023 : decode code 1023 = .ok (.iload_n 3, 1) := by decide +kernel
theorem dL_1024 : decode code 1024 = .ok (.iconst 1, 1) := by decide +kernel
theorem dL_1025 : decode code 1025 = .ok (.iadd, 1) := by decide +kernel
theorem dL_1026 : decode code 1026 = .ok (.iaload, 1) := by decide +kernel
theorem dL_1027 : decode code 1027 = .ok (.invokevirtual 107, 3) := by decide +kernel
theorem dL_1030 : decode code 1030 = .ok (.aload_n 2, 1) := by decide +kernel
theorem dL_1031 : decode code 1031 = .ok (.aload_n 0, 1) := by decide +kernel
theorem dL_1032 : decode code 1032 = .ok (.iload_n 3, 1) := by decide +kernel
theorem dL_1033 : decode code 1033 = .ok (.iconst 1, 1) := by decide +kernel
theorem dL_1034 : decode code 1034 = .ok (.iadd, 1) := by decide +kernel
theorem dL_1035 : decode code 1035 = .ok (.iaload, 1) := by decide +kernel
theorem dL_1036 : decode code 1036 = .ok (.invokevirtual 110, 3) := by decide +kernel
theorem dL_1039 : decode code 1039 = .ok (.if_icmp .eq 239, 3) := by decide +kernel
theorem dL_1042 : decode code 1042 = .ok (.iconst 0, 1) := by decide +kernel
theorem dL_1043 : decode code 1043 = .ok (.ireturn, 1) := by decide +kernel
theorem dL_1044 : decode code 1044 = .ok (.aload_n 1, 1) := by decide +kernel
theorem dL_1045 : decode code 1045 = .ok (.aload_n 0, 1) := by decide +kernel
theorem dL_1046 : decode code 1046 = .ok (.iload_n 3, 1) := by decide +kernel
theorem dL_1047 : decode code 1047 = .ok (.iconst 1, 1) := by decide +kernel
theorem dL_1048 : decode code 1048 = .ok (.iadd, 1) := by decide +kernel
theorem dL_1049 : decode code 1049 = .ok (.iaload, 1) := by decide +kernel
theorem dL_1050 : decode code 1050 = .ok (.aload_n 0, 1) := by decide +kernel
theorem dL_1051 : decode code 1051 = .ok (.iload_n 3, 1) := by decide +kernel
theorem dL_1052 : decode code 1052 = .ok (.iconst 2, 1) := by decide +kernel
theorem dL_1053 : decode code 1053 = .ok (.iadd, 1) := by decide +kernel
theorem dL_1054 : decode code 1054 = .ok (.iaload, 1) := by decide +kernel
theorem dL_1055 : decode code 1055 = .ok (.invokevirtual 111, 3) := by decide +kernel
theorem dL_1058 : decode code 1058 = .ok (.aload_n 2, 1) := by decide +kernel
theorem dL_1059 : decode code 1059 = .ok (.aload_n 0, 1) := by decide +kernel
theorem dL_1060 : decode code 1060 = .ok (.iload_n 3, 1) := by decide +kernel
theorem dL_1061 : decode code 1061 = .ok (.iconst 1, 1) := by decide +kernel
theorem dL_1062 : decode code 1062 = .ok (.iadd, 1) := by decide +kernel
theorem dL_1063 : decode code 1063 = .ok (.iaload, 1) := by decide +kernel
theorem dL_1064 : decode code 1064 = .ok (.aload_n 0, 1) := by decide +kernel
theorem dL_1065 : decode code 1065 = .ok (.iload_n 3, 1) := by decide +kernel
theorem dL_1066 : decode code 1066 = .ok (.iconst 2, 1) := by decide +kernel
theorem dL_1067 : decode code 1067 = .ok (.iadd, 1) := by decide +kernel
theorem dL_1068 : decode code 1068 = .ok (.iaload, 1) := by decide +kernel
theorem dL_1069 : decode code 1069 = .ok (.invokevirtual 114, 3) := by decide +kernel
theorem dL_1072 : decode code 1072 = .ok (.if_icmp .eq 206, 3) := by decide +kernel
theorem dL_1075 : decode code 1075 = .ok (.iconst 0, 1) := by decide +kernel
theorem dL_1076 : decode code 1076 = .ok (.ireturn, 1) := by decide +kernel
theorem dL_1077 : decode code 1077 = .ok (.aload_n 1, 1) := by decide +kernel
theorem dL_1078 : decode code 1078 = .ok (.aload_n 0, 1) := by decide +kernel
theorem dL_1079 : decode code 1079 = .ok (.iload_n 3, 1) := by decide +kernel
theorem dL_1080 : decode code 1080 = .ok (.iconst 1, 1) := by decide +kernel
theorem dL_1081 : decode code 1081 = .ok (.iadd, 1) := by decide +kernel
theorem dL_1082 : decode code 1082 = .ok (.iaload, 1) := by decide +kernel
theorem dL_1083 : decode code 1083 = .ok (.aload_n 0, 1) := by decide +kernel
theorem dL_1084 : decode code 1084 = .ok (.iload_n 3, 1) := by decide +kernel
theorem dL_1085 : decode code 1085 = .ok (.iconst 2, 1) := by decide +kernel
theorem dL_1086 : decode code 1086 = .ok (.iadd, 1) := by decide +kernel
theorem dL_1087 : decode code 1087 = .ok (.iaload, 1) := by decide +kernel
theorem dL_1088 : decode code 1088 = .ok (.invokevirtual 115, 3) := by decide +kernel
theorem dL_1091 : decode code 1091 = .ok (.aload_n 2, 1) := by decide +kernel
theorem dL_1092 : decode code 1092 = .ok (.aload_n 0, 1) := by decide +kernel
theorem dL_1093 : decode code 1093 = .ok (.iload_n 3, 1) := by decide +kernel
theorem dL_1094 : decode code 1094 = .ok (.iconst 1, 1) := by decide +kernel
theorem dL_1095 : decode code 1095 = .ok (.iadd, 1) := by decide +kernel
theorem dL_1096 : decode code 1096 = .ok (.iaload, 1) := by decide +kernel
theorem dL_1097 : decode code 1097 = .ok (.aload_n 0, 1) := by decide +kernel
theorem dL_1098 : decode code 1098 = .ok (.iload_n 3, 1) := by decide +kernel
theorem dL_1099 : decode code 1099 = .ok (.iconst 2, 1) := by decide +kernel
theorem dL_1100 : decode code 1100 = .ok (.iadd, 1) := by decide +kernel
theorem dL_1101 : decode code 1101 = .ok (.iaload, 1) := by decide +kernel
theorem dL_1102 : decode code 1102 = .ok (.invokevirtual 118, 3) := by decide +kernel
theorem dL_1105 : decode code 1105 = .ok (.if_icmp .eq 173, 3) := by decide +kernel
theorem dL_1108 : decode code 1108 = .ok (.iconst 0, 1) := by decide +kernel
theorem dL_1109 : decode code 1109 = .ok (.ireturn, 1) := by decide +kernel
theorem dL_1110 : decode code 1110 = .ok (.aload_n 1, 1) := by decide +kernel
theorem dL_1111 : decode code 1111 = .ok (.aload_n 0, 1) := by decide +kernel
theorem dL_1112 : decode code 1112 = .ok (.iload_n 3, 1) := by decide +kernel
theorem dL_1113 : decode code 1113 = .ok (.iconst 1, 1) := by decide +kernel
theorem dL_1114 : decode code 1114 = .ok (.iadd, 1) := by decide +kernel
theorem dL_1115 : decode code 1115 = .ok (.iaload, 1) := by decide +kernel
theorem dL_1116 : decode code 1116 = .ok (.invokevirtual 119, 3) := by decide +kernel
theorem dL_1119 : decode code 1119 = .ok (.aload_n 2, 1) := by decide +kernel
theorem dL_1120 : decode code 1120 = .ok (.aload_n 0, 1) := by decide +kernel
theorem dL_1121 : decode code 1121 = .ok (.iload_n 3, 1) := by decide +kernel
theorem dL_1122 : decode code 1122 = .ok (.iconst 1, 1) := by decide +kernel
theorem dL_1123 : decode code 1123 = .ok (.iadd, 1) := by decide +kernel
theorem dL_1124 : decode code 1124 = .ok (.iaload, 1) := by decide +kernel
theorem dL_1125 : decode code 1125 = .ok (.invokevirtual 122, 3) := by decide +kernel
theorem dL_1128 : decode code 1128 = .ok (.if_icmp .eq 150, 3) := by decide +kernel
theorem dL_1131 : decode code 1131 = .ok (.iconst 0, 1) := by decide +kernel
theorem dL_1132 : decode code 1132 = .ok (.ireturn, 1) := by decide +kernel
theorem dL_1133 : decode code 1133 = .ok (.aload_n 1, 1) := by decide +kernel
theorem dL_1134 : decode code 1134 = .ok (.aload_n 0, 1) := by decide +kernel
theorem dL_1135 : decode code 1135 = .ok (.iload_n 3, 1) := by decide +kernel
theorem dL_1136 : decode code 1136 = .ok (.iconst 1, 1) := by decide +kernel
theorem dL_1137 : decode code 1137 = .ok (.iadd, 1) := by decide +kernel
theorem dL_1138 : decode code 1138 = .ok (.iaload, 1) := by decide +kernel
theorem dL_1139 : decode code 1139 = .ok (.invokevirtual 123, 3) := by decide +kernel
theorem dL_1142 : decode code 1142 = .ok (.aload_n 2, 1) := by decide +kernel
theorem dL_1143 : decode code 1143 = .ok (.aload_n 0, 1) := by decide +kernel
theorem dL_1144 : decode code 1144 = .ok (.iload_n 3, 1) := by decide +kernel
theorem dL_1145 : decode code 1145 = .ok (.iconst 1, 1) := by decide +kernel
theorem dL_1146 : decode code 1146 = .ok (.iadd, 1) := by decide +kernel
theorem dL_1147 : decode code 1147 = .ok (.iaload, 1) := by decide +kernel
theorem dL_1148 : decode code 1148 = .ok (.invokevirtual 126, 3) := by decide +kernel
theorem dL_1151 : decode code 1151 = .ok (.if_icmp .eq 127, 3) := by decide +kernel
theorem dL_1154 : decode code 1154 = .ok (.iconst 0, 1) := by decide +kernel
theorem dL_1155 : decode code 1155 = .ok (.ireturn, 1) := by decide +kernel
theorem dL_1156 : decode code 1156 = .ok (.aload_n 1, 1) := by decide +kernel
theorem dL_1157 : decode code 1157 = .ok (.aload_n 0, 1) := by decide +kernel
theorem dL_1158 : decode code 1158 = .ok (.iload_n 3, 1) := by decide +kernel
theorem dL_1159 : decode code 1159 = .ok (.iconst 1, 1) := by decide +kernel
theorem dL_1160 : decode code 1160 = .ok (.iadd, 1) := by decide +kernel
theorem dL_1161 : decode code 1161 = .ok (.iaload, 1) := by decide +kernel
theorem dL_1162 : decode code 1162 = .ok (.invokevirtual 127, 3) := by decide +kernel
theorem dL_1165 : decode code 1165 = .ok (.aload_n 2, 1) := by decide +kernel
theorem dL_1166 : decode code 1166 = .ok (.aload_n 0, 1) := by decide +kernel
theorem dL_1167 : decode code 1167 = .ok (.iload_n 3, 1) := by decide +kernel
theorem dL_1168 : decode code 1168 = .ok (.iconst 1, 1) := by decide +kernel
theorem dL_1169 : decode code 1169 = .ok (.iadd, 1) := by decide +kernel
theorem dL_1170 : decode code 1170 = .ok (.iaload, 1) := by decide +kernel
theorem dL_1171 : decode code 1171 = .ok (.invokevirtual 130, 3) := by decide +kernel
theorem dL_1174 : decode code 1174 = .ok (.if_icmp .eq 104, 3) := by decide +kernel
theorem dL_1177 : decode code 1177 = .ok (.iconst 0, 1) := by decide +kernel
theorem dL_1178 : decode code 1178 = .ok (.ireturn, 1) := by decide +kernel
theorem dL_1179 : decode code 1179 = .ok (.aload_n 1, 1) := by decide +kernel
theorem dL_1180 : decode code 1180 = .ok (.aload_n 0, 1) := by decide +kernel
theorem dL_1181 : decode code 1181 = .ok (.iload_n 3, 1) := by decide +kernel
theorem dL_1182 : decode code 1182 = .ok (.iconst 1, 1) := by decide +kernel
theorem dL_1183 : decode code 1183 = .ok (.iadd, 1) := by decide +kernel
theorem dL_1184 : decode code 1184 = .ok (.iaload, 1) := by decide +kernel
theorem dL_1185 : decode code 1185 = .ok (.invokevirtual 131, 3) := by decide +kernel
theorem dL_1188 : decode code 1188 = .ok (.aload_n 2, 1) := by decide +kernel
theorem dL_1189 : decode code 1189 = .ok (.aload_n 0, 1) := by decide +kernel
theorem dL_1190 : decode code 1190 = .ok (.iload_n 3, 1) := by decide +kernel
theorem dL_1191 : decode code 1191 = .ok (.iconst 1, 1) := by decide +kernel
theorem dL_1192 : decode code 1192 = .ok (.iadd, 1) := by decide +kernel
theorem dL_1193 : decode code 1193 = .ok (.iaload, 1) := by decide +kernel
theorem dL_1194 : decode code 1194 = .ok (.invokevirtual 134, 3) := by decide +kernel
theorem dL_1197 : decode code 1197 = .ok (.if_icmp .eq 81, 3) := by decide +kernel
theorem dL_1200 : decode code 1200 = .ok (.iconst 0, 1) := by decide +kernel
theorem dL_1201 : decode code 1201 = .ok (.ireturn, 1) := by decide +kernel
theorem dL_1202 : decode code 1202 = .ok (.aload_n 1, 1) := by decide +kernel
theorem dL_1203 : decode code 1203 = .ok (.invokevirtual 135, 3) := by decide +kernel
theorem dL_1206 : decode code 1206 = .ok (.aload_n 2, 1) := by decide +kernel
theorem dL_1207 : decode code 1207 = .ok (.invokevirtual 139, 3) := by decide +kernel
theorem dL_1210 : decode code 1210 = .ok (.if_icmp .eq 68, 3) := by decide +kernel
theorem dL_1213 : decode code 1213 = .ok (.iconst 0, 1) := by decide +kernel
theorem dL_1214 : decode code 1214 = .ok (.ireturn, 1) := by decide +kernel
theorem dL_1215 : decode code 1215 = .ok (.aload_n 1, 1) := by decide +kernel
theorem dL_1216 : decode code 1216 = .ok (.invokevirtual 140, 3) := by decide +kernel
theorem dL_1219 : decode code 1219 = .ok (.aload_n 2, 1) := by decide +kernel
theorem dL_1220 : decode code 1220 = .ok (.invokevirtual 143, 3) := by decide +kernel
theorem dL_1223 : decode code 1223 = .ok (.if_icmp .eq 55, 3) := by decide +kernel
theorem dL_1226 : decode code 1226 = .ok (.iconst 0, 1) := by decide +kernel
theorem dL_1227 : decode code 1227 = .ok (.ireturn, 1) := by decide +kernel
theorem dL_1228 : decode code 1228 = .ok (.aload_n 1, 1) := by decide +kernel
theorem dL_1229 : decode code 1229 = .ok (.invokevirtual 144, 3) := by decide +kernel
theorem dL_1232 : decode code 1232 = .ok (.aload_n 2, 1) := by decide +kernel
theorem dL_1233 : decode code 1233 = .ok (.invokevirtual 147, 3) := by decide +kernel
theorem dL_1236 : decode code 1236 = .ok (.if_icmp .eq 42, 3) := by decide +kernel
theorem dL_1239 : decode code 1239 = .ok (.iconst 0, 1) := by decide +kernel
theorem dL_1240 : decode code 1240 = .ok (.ireturn, 1) := by decide +kernel
theorem dL_1241 : decode code 1241 = .ok (.aload_n 1, 1) := by decide +kernel
theorem dL_1242 : decode code 1242 = .ok (.aload_n 0, 1) := by decide +kernel
theorem dL_1243 : decode code 1243 = .ok (.iload_n 3, 1) := by decide +kernel
theorem dL_1244 : decode code 1244 = .ok (.iconst 1, 1) := by decide +kernel
theorem dL_1245 : decode code 1245 = .ok (.iadd, 1) := by decide +kernel
theorem dL_1246 : decode code 1246 = .ok (.iaload, 1) := by decide +kernel
theorem dL_1247 : decode code 1247 = .ok (.invokevirtual 148, 3) := by decide +kernel
theorem dL_1250 : decode code 1250 = .ok (.aload_n 2, 1) := by decide +kernel
theorem dL_1251 : decode code 1251 = .ok (.aload_n 0, 1) := by decide +kernel
theorem dL_1252 : decode code 1252 = .ok (.iload_n 3, 1) := by decide +kernel
theorem dL_1253 : decode code 1253 = .ok (.iconst 1, 1) := by decide +kernel
theorem dL_1254 : decode code 1254 = .ok (.iadd, 1) := by decide +kernel
theorem dL_1255 : decode code 1255 = .ok (.iaload, 1) := by decide +kernel
theorem dL_1256 : decode code 1256 = .ok (.invokevirtual 151, 3) := by decide +kernel
theorem dL_1259 : decode code 1259 = .ok (.if_icmp .eq 19, 3) := by decide +kernel
theorem dL_1262 : decode code 1262 = .ok (.iconst 0, 1) := by decide +kernel
theorem dL_1263 : decode code 1263 = .ok (.ireturn, 1) := by decide +kernel
theorem dL_1264 : decode code 1264 = .ok (.aload_n 1, 1) := by decide +kernel
theorem dL_1265 : decode code 1265 = .ok (.invokevirtual 152, 3) := by decide +kernel
theorem dL_1268 : decode code 1268 = .ok (.aload_n 2, 1) := by decide +kernel
theorem dL_1269 : decode code 1269 = .ok (.invokevirtual 156, 3) := by decide +kernel
theorem dL_1272 : decode code 1272 = .ok (.lcmp, 1) := by decide +kernel
theorem dL_1273 : decode code 1273 = .ok (.ifCond .eq 5, 3) := by decide +kernel
theorem dL_1276 : decode code 1276 = .ok (.iconst 0, 1) := by decide +kernel
theorem dL_1277 : decode code 1277 = .ok (.ireturn, 1) := by decide +kernel
theorem dL_1278 : decode code 1278 = .ok (.iinc 3 6, 3) := by decide +kernel
theorem dL_1281 : decode code 1281 = .ok (.goto (-1263), 3) := by decide +kernel
theorem dL_1284 : decode code 1284 = .ok (.iconst 1, 1) := by decide +kernel
theorem dL_1285 : decode code 1285 = .ok (.ireturn, 1) := by decide +kernel
