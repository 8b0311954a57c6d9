theorem dL_law_714 : decode code 714 = .ok (.dload 4, 2) := by decide +kernel
theorem dL_law_716 : decode code 716 = .ok (.dcmp .l, 1) := by decide +kernel
theorem dL_law_717 : decode code 717 = .ok (.ifCond .eq 11, 3) := by decide +kernel
theorem dL_law_720 : decode code 720 = .ok (.dload 6, 2) := by decide +kernel
theorem dL_law_722 : decode code 722 = .ok (.dload 6, 2) := by decide +kernel
theorem dL_law_724 : decode code 724 = .ok (.dcmp .l, 1) := by decide +kernel
theorem dL_law_725 : decode code 725 = .ok (.ifCond .ne 5, 3) := by decide +kernel
theorem dL_law_728 : decode code 728 = .ok (.iconst 0, 1) := by decide +kernel
theorem dL_law_729 : decode code 729 = .ok (.ireturn, 1) := by decide +kernel
theorem dL_law_730 : decode code 730 = .ok (.goto 563, 3) := by decide +kernel
theorem dL_law_733 : decode code 733 = .ok (.aload_n 1, 1) := by decide +kernel
theorem dL_law_734 : decode code 734 = .ok (.aload_n 0, 1) := by decide +kernel
theorem dL_law_735 : decode code 735 = .ok (.iload_n 3, 1) := by decide +kernel
theorem dL_law_736 : decode code 736 = .ok (.iconst 1, 1) := by decide +kernel
theorem dL_law_737 : decode code 737 = .ok (.iadd, 1) := by decide +kernel
theorem dL_law_738 : decode code 738 = .ok (.iaload, 1) := by decide +kernel
theorem dL_law_739 : decode code 739 = .ok (.aload_n 0, 1) := by decide +kernel
theorem dL_law_740 : decode code 740 = .ok (.iload_n 3, 1) := by decide +kernel
theorem dL_law_741 : decode code 741 = .ok (.iconst 2, 1) := by decide +kernel
theorem dL_law_742 : decode code 742 = .ok (.iadd, 1) := by decide +kernel
theorem dL_law_743 : decode code 743 = .ok (.iaload, 1) := by decide +kernel
theorem dL_law_744 : decode code 744 = .ok (.invokevirtual 78, 3) := by decide +kernel
theorem dL_law_747 : decode code 747 = .ok (.aload_n 2, 1) := by decide +kernel
theorem dL_law_748 : decode code 748 = .ok (.aload_n 0, 1) := by decide +kernel
theorem dL_law_749 : decode code 749 = .ok (.iload_n 3, 1) := by decide +kernel
theorem dL_law_750 : decode code 750 = .ok (.iconst 1, 1) := by decide +kernel
theorem dL_law_751 : decode code 751 = .ok (.iadd, 1) := by decide +kernel
theorem dL_law_752 : decode code 752 = .ok (.iaload, 1) := by decide +kernel
theorem dL_law_753 : decode code 753 = .ok (.aload_n 0, 1) := by decide +kernel
theorem dL_law_754 : decode code 754 = .ok (.iload_n 3, 1) := by decide +kernel
theorem dL_law_755 : decode code 755 = .ok (.iconst 2, 1) := by decide +kernel
theorem dL_law_756 : decode code 756 = .ok (.iadd, 1) := by decide +kernel
theorem dL_law_757 : decode code 757 = .ok (.iaload, 1) := by decide +kernel
theorem dL_law_758 : decode code 758 = .ok (.invokevirtual 81, 3) := by decide +kernel
theorem dL_law_761 : decode code 761 = .ok (.if_icmp .eq 532, 3) := by decide +kernel
theorem dL_law_764 : decode code 764 = .ok (.iconst 0, 1) := by decide +kernel
theorem dL_law_765 : decode code 765 = .ok (.ireturn, 1) := by decide +kernel
theorem dL_law_766 : decode code 766 = .ok (.aload_n 1, 1) := by decide +kernel
theorem dL_law_767 : decode code 767 = .ok (.aload_n 0, 1) := by decide +kernel
theorem dL_law_768 : decode code 768 = .ok (.iload_n 3, 1) := by decide +kernel
theorem dL_law_769 : decode code 769 = .ok (.iconst 1, 1) := by decide +kernel
theorem dL_law_770 : decode code 770 = .ok (.iadd, 1) := by decide +kernel
theorem dL_law_771 : decode code 771 = .ok (.iaload, 1) := by decide +kernel
theorem dL_law_772 : decode code 772 = .ok (.aload_n 0, 1) := by decide +kernel
theorem dL_law_773 : decode code 773 = .ok (.iload_n 3, 1) := by decide +kernel
theorem dL_law_774 : decode code 774 = .ok (.iconst 2, 1) := by decide +kernel
theorem dL_law_775 : decode code 775 = .ok (.iadd, 1) := by decide +kernel
theorem dL_law_776 : decode code 776 = .ok (.iaload, 1) := by decide +kernel
theorem dL_law_777 : decode code 777 = .ok (.invokevirtual 82, 3) := by decide +kernel
theorem dL_law_780 : decode code 780 = .ok (.aload_n 2, 1) := by decide +kernel
theorem dL_law_781 : decode code 781 = .ok (.aload_n 0, 1) := by decide +kernel
theorem dL_law_782 : decode code 782 = .ok (.iload_n 3, 1) := by decide +kernel
theorem dL_law_783 : decode code 783 = .ok (.iconst 1, 1) := by decide +kernel
theorem dL_law_784 : decode code 784 = .ok (.iadd, 1) := by decide +kernel
theorem dL_law_785 : decode code 785 = .ok (.iaload, 1) := by decide +kernel
theorem dL_law_786 : decode code 786 = .ok (.aload_n 0, 1) := by decide +kernel
theorem dL_law_787 : decode code 787 = .ok (.iload_n 3, 1) := by decide +kernel
theorem dL_law_788 : decode code 788 = .ok (.iconst 2, 1) := by decide +kernel
theorem dL_law_789 : decode code 789 = .ok (.iadd, 1) := by decide +kernel
theorem dL_law_790 : decode code 790 = .ok (.iaload, 1) := by decide +kernel
theorem dL_law_791 : decode code 791 = .ok (.invokevirtual 85, 3) := by decide +kernel
theorem dL_law_794 : decode code 794 = .ok (.if_icmp .eq 499, 3) := by decide +kernel
theorem dL_law_797 : decode code 797 = .ok (.iconst 0, 1) := by decide +kernel
theorem dL_law_798 : decode code 798 = .ok (.ireturn, 1) := by decide +kernel
theorem dL_law_799 : decode code 799 = .ok (.aload_n 1, 1) := by decide +kernel
theorem dL_law_800 : decode code 800 = .ok (.aload_n 0, 1) := by decide +kernel
theorem dL_law_801 : decode code 801 = .ok (.iload_n 3, 1) := by decide +kernel
theorem dL_law_802 : decode code 802 = .ok (.iconst 1, 1) := by decide +kernel
theorem dL_law_803 : decode code 803 = .ok (.iadd, 1) := by decide +kernel
theorem dL_law_804 : decode code 804 = .ok (.iaload, 1) := by decide +kernel
theorem dL_law_805 : decode code 805 = .ok (.invokevirtual 86, 3) := by decide +kernel
theorem dL_law_808 : decode code 808 = .ok (.aload_n 2, 1) := by decide +kernel
theorem dL_law_809 : decode code 809 = .ok (.aload_n 0, 1) := by decide +kernel
theorem dL_law_810 : decode code 810 = .ok (.iload_n 3, 1) := by decide +kernel
theorem dL_law_811 : decode code 811 = .ok (.iconst 1, 1) := by decide +kernel
theorem dL_law_812 : decode code 812 = .ok (.iadd, 1) := by decide +kernel
theorem dL_law_813 : decode code 813 = .ok (.iaload, 1) := by decide +kernel
theorem dL_law_814 : decode code 814 = .ok (.invokevirtual 89, 3) := by decide +kernel
theorem dL_law_817 : decode code 817 = .ok (.if_icmp .eq 476, 3) := by decide +kernel
theorem dL_law_820 : decode code 820 = .ok (.iconst 0, 1) := by decide +kernel
theorem dL_law_821 : decode code 821 = .ok (.ireturn, 1) := by decide +kernel
theorem dL_law_822 : decode code 822 = .ok (.aload_n 1, 1) := by decide +kernel
theorem dL_law_823 : decode code 823 = .ok (.aload_n 0, 1) := by decide +kernel
theorem dL_law_824 : decode code 824 = .ok (.iload_n 3, 1) := by decide +kernel
theorem dL_law_825 : decode code 825 = .ok (.iconst 1, 1) := by decide +kernel
theorem dL_law_826 : decode code 826 = .ok (.iadd, 1) := by decide +kernel
theorem dL_law_827 : decode code 827 = .ok (.iaload, 1) := by decide +kernel
theorem dL_law_828 : decode code 828 = .ok (.aload_n 0, 1) := by decide +kernel
theorem dL_law_829 : decode code 829 = .ok (.iload_n 3, 1) := by decide +kernel
theorem dL_law_830 : decode code 830 = .ok (.iconst 2, 1) := by decide +kernel
theorem dL_law_831 : decode code 831 = .ok (.iadd, 1) := by decide +kernel
theorem dL_law_832 : decode code 832 = .ok (.iaload, 1) := by decide +kernel
theorem dL_law_833 : decode code 833 = .ok (.invokevirtual 90, 3) := by decide +kernel
theorem dL_law_836 : decode code 836 = .ok (.aload_n 2, 1) := by decide +kernel
theorem dL_law_837 : decode code 837 = .ok (.aload_n 0, 1) := by decide +kernel
theorem dL_law_838 : decode code 838 = .ok (.iload_n 3, 1) := by decide +kernel
theorem dL_law_839 : decode code 839 = .ok (.iconst 1, 1) := by decide +kernel
theorem dL_law_840 : decode code 840 = .ok (.iadd, 1) := by decide +kernel
theorem dL_law_841 : decode code 841 = .ok (.iaload, 1) := by decide +kernel
theorem dL_law_842 : decode code 842 = .ok (.aload_n 0, 1) := by decide +kernel
theorem dL_law_843 : decode code 843 = .ok (.iload_n 3, 1) := by decide +kernel
theorem dL_law_844 : decode code 844 = .ok (.iconst 2, 1) := by decide +kernel
theorem dL_law_845 : decode code 845 = .ok (.iadd, 1) := by decide +kernel
theorem dL_law_846 : decode code 846 = .ok (.iaload, 1) := by decide +kernel
theorem dL_law_847 : decode code 847 = .ok (.invokevirtual 93, 3) := by decide +kernel
theorem dL_law_850 : decode code 850 = .ok (.if_icmp .eq 443, 3) := by decide +kernel
theorem dL_law_853 : decode code 853 = .ok (.iconst 0, 1) := by decide +kernel
theorem dL_law_854 : decode code 854 = .ok (.ireturn, 1) := by decide +kernel
theorem dL_law_855 : decode code 855 = .ok (.aload_n 1, 1) := by decide +kernel
theorem dL_law_856 : decode code 856 = .ok (.aload_n 0, 1) := by decide +kernel
theorem dL_law_857 : decode code 857 = .ok (.iload_n 3, 1) := by decide +kernel
theorem dL_law_858 : decode code 858 = .ok (.iconst 1, 1) := by decide +kernel
theorem dL_law_859 : decode code 859 = .ok (.iadd, 1) := by decide +kernel
theorem dL_law_860 : decode code 860 = .ok (.iaload, 1) := by decide +kernel
theorem dL_law_861 : decode code 861 = .ok (.aload_n 0, 1) := by decide +kernel
theorem dL_law_862 : decode code 862 = .ok (.iload_n 3, 1) := by decide +kernel
theorem dL_law_863 : decode code 863 = .ok (.iconst 2, 1) := by decide +kernel
theorem dL_law_864 : decode code 864 = .ok (.iadd, 1) := by decide +kernel
theorem dL_law_865 : decode code 865 = .ok (.iaload, 1) := by decide +kernel
theorem dL_law_866 : decode code 866 = .ok (.aload_n 0, 1) := by decide +kernel
theorem dL_law_867 : decode code 867 = .ok (.iload_n 3, 1) := by decide +kernel
theorem dL_law_868 : decode code 868 = .ok (.iconst 3, 1) := by decide +kernel
theorem dL_law_869 : decode code 869 = .ok (.iadd, 1) := by decide +kernel
theorem dL_law_870 : decode code 870 = .ok (.iaload, 1) := by decide +kernel
theorem dL_law_871 : decode code 871 = .ok (.aload_n 0, 1) := by decide +kernel
theorem dL_law_872 : decode code 872 = .ok (.iload_n 3, 1) := by decide +kernel
theorem dL_law_873 : decode code 873 = .ok (.iconst 4, 1) := by decide +kernel
theorem dL_law_874 : decode code 874 = .ok (.iadd, 1) := by decide +kernel
theorem dL_law_875 : decode code 875 = .ok (.iaload, 1) := by decide +kernel
theorem dL_law_876 : decode code 876 = .ok (.invokevirtual 94, 3) := by decide +kernel
theorem dL_law_879 : decode code 879 = .ok (.aload_n 2, 1) := by decide +kernel
theorem dL_law_880 : decode code 880 = .ok (.aload_n 0, 1) := by decide +kernel
theorem dL_law_881 : decode code 881 = .ok (.iload_n 3, 1) := by decide +kernel
theorem dL_law_882 : decode code 882 = .ok (.iconst 1, 1) := by decide +kernel
theorem dL_law_883 : decode code 883 = .ok (.iadd, 1) := by decide +kernel
theorem dL_law_884 : decode code 884 = .ok (.iaload, 1) := by decide +kernel
theorem dL_law_885 : decode code 885 = .ok (.aload_n 0, 1) := by decide +kernel
theorem dL_law_886 : decode code 886 = .ok (.iload_n 3, 1) := by decide +kernel
theorem dL_law_887 : decode code 887 = .ok (.iconst 2, 1) := by decide +kernel
theorem dL_law_888 : decode code 888 = .ok (.iadd, 1) := by decide +kernel
theorem dL_law_889 : decode code 889 = .ok (.iaload, 1) := by decide +kernel
theorem dL_law_890 : decode code 890 = .ok (.aload_n 0, 1) := by decide +kernel
theorem dL_law_891 : decode code 891 = .ok (.iload_n 3, 1) := by decide +kernel
theorem dL_law_892 : decode code 892 = .ok (.iconst 3, 1) := by decide +kernel
theorem dL_law_893 : decode code 893 = .ok (.iadd, 1) := by decide +kernel
theorem dL_law_894 : decode code 894 = .ok (.iaload, 1) := by decide +kernel
theorem dL_law_895 : decode code 895 = .ok (.aload_n 0, 1) := by decide +kernel
theorem dL_law_896 : decode code 896 = .ok (.iload_n 3, 1) := by decide +kernel
theorem dL_law_897 : decode code 897 = .ok (.iconst 4, 1) := by decide +kernel
theorem dL_law_898 : decode code 898 = .ok (.iadd, 1) := by decide +kernel
theorem dL_law_899 : decode code 899 = .ok (.iaload, 1) := by decide +kernel
theorem dL_law_900 : decode code 900 = .ok (.invokevirtual 98, 3) := by decide +kernel
theorem dL_law_903 : decode code 903 = .ok (.if_icmp .eq 390, 3) := by decide +kernel
theorem dL_law_906 : decode code 906 = .ok (.iconst 0, 1) := by decide +kernel
theorem dL_law_907 : decode code 907 = .ok (.ireturn, 1) := by decide +kernel
theorem dL_law_908 : decode code 908 = .ok (.aload_n 1, 1) := by decide +kernel
theorem dL_law_909 : decode code 909 = .ok (.aload_n 0, 1) := by decide +kernel
theorem dL_law_910 : decode code 910 = .ok (.iload_n 3, 1) := by decide +kernel
theorem dL_law_911 : decode code 911 = .ok (.iconst 1, 1) := by decide +kernel
theorem dL_law_912 : decode code 912 = .ok (.iadd, 1) := by decide +kernel
theorem dL_law_913 : decode code 913 = .ok (.iaload, 1) := by decide +kernel
theorem dL_law_914 : decode code 914 = .ok (.aload_n 0, 1) := by decide +kernel
theorem dL_law_915 : decode code 915 = .ok (.iload_n 3, 1) := by decide +kernel
theorem dL_law_916 : decode code 916 = .ok (.iconst 2, 1) := by decide +kernel
theorem dL_law_917 : decode code 917 = .ok (.iadd, 1) := by decide +kernel
theorem dL_law_918 : decode code 918 = .ok (.iaload, 1) := by decide +kernel
theorem dL_law_919 : decode code 919 = .ok (.invokevirtual 99, 3) := by decide +kernel
theorem dL_law_922 : decode code 922 = .ok (.aload_n 2, 1) := by decide +kernel
theorem dL_law_923 : decode code 923 = .ok (.aload_n 0, 1) := by decide +kernel
theorem dL_law_924 : decode code 924 = .ok (.iload_n 3, 1) := by decide +kernel
theorem dL_law_925 : decode code 925 = .ok (.iconst 1, 1) := by decide +kernel
theorem dL_law_926 : decode code 926 = .ok (.iadd, 1) := by decide +kernel
theorem dL_law_927 : decode code 927 = .ok (.iaload, 1) := by decide +kernel
theorem dL_law_928 : decode code 928 = .ok (.aload_n 0, 1) := by decide +kernel
theorem dL_law_929 : decode code 929 = .ok (.iload_n 3, 1) := by decide +kernel
theorem dL_law_930 : decode code 930 = .ok (.iconst 2, 1) := by decide +kernel
theorem dL_law_931 : decode code 931 = .ok (.iadd, 1) := by decide +kernel
theorem dL_law_932 : decode code 932 = .ok (.iaload, 1) := by decide +kernel
theorem dL_law_933 : decode code 933 = .ok (.invokevirtual 102, 3) := by decide +kernel
theorem dL_law_936 : decode code 936 = .ok (.if_icmp .eq 357, 3) := by decide +kernel
theorem dL_law_939 : decode code 939 = .ok (.iconst 0, 1) := by decide +kernel
theorem dL_law_940 : decode code 940 = .ok (.ireturn, 1) := by decide +kernel
theorem dL_law_941 : decode code 941 = .ok (.aload_n 1, 1) := by decide +kernel
theorem dL_law_942 : decode code 942 = .ok (.aload_n 0, 1) := by decide +kernel
theorem dL_law_943 : decode code 943 = .ok (.iload_n 3, 1) := by decide +kernel
theorem dL_law_944 : decode code 944 = .ok (.iconst 1, 1) := by decide +kernel
theorem dL_law_945 : decode code 945 = .ok (.iadd, 1) := by decide +kernel
theorem dL_law_946 : decode code 946 = .ok (.iaload, 1) := by decide +kernel
theorem dL_law_947 : decode code 947 = .ok (.aload_n 0, 1) := by decide +kernel
theorem dL_law_948 : decode code 948 = .ok (.iload_n 3, 1) := by decide +kernel
theorem dL_law_949 : decode code 949 = .ok (.iconst 2, 1) := by decide +kernel
theorem dL_law_950 : decode code 950 = .ok (.iadd, 1) := by decide +kernel
theorem dL_law_951 : decode code 951 = .ok (.iaload, 1) := by decide +kernel
theorem dL_law_952 : decode code 952 = .ok (.invokevirtual 103, 3) := by decide +kernel
theorem dL_law_955 : decode code 955 = .ok (.aload_n 2, 1) := by decide +kernel
theorem dL_law_956 : decode code 956 = .ok (.aload_n 0, 1) := by decide +kernel
theorem dL_law_957 : decode code 957 = .ok (.iload_n 3, 1) := by decide +kernel
theorem dL_law_958 : decode code 958 = .ok (.iconst 1, 1) := by decide +kernel
theorem dL_law_959 : decode code 959 = .ok (.iadd, 1) := by decide +kernel
theorem dL_law_960 : decode code 960 = .ok (.iaload, 1) := by decide +kernel
theorem dL_law_961 : decode code 961 = .ok (.aload_n 0, 1) := by decide +kernel
theorem dL_law_962 : decode code 962 = .ok (.iload_n 3, 1) := by decide +kernel
theorem dL_law_963 : decode code 963 = .ok (.iconst 2, 1) := by decide +kernel
theorem dL_law_964 : decode code 964 = .ok (.iadd, 1) := by decide +kernel
theorem dL_law_965 : decode code 965 = .ok (.iaload, 1) := by decide +kernel
theorem dL_law_966 : decode code 966 = .ok (.invokevirtual 106, 3) := by decide +kernel
theorem dL_law_969 : decode code 969 = .ok (.if_icmp .eq 324, 3) := by decide +kernel
theorem dL_law_972 : decode code 972 = .ok (.iconst 0, 1) := by decide +kernel
theorem dL_law_973 : decode code 973 = .ok (.ireturn, 1) := by decide +kernel
theorem dL_law_974 : decode code 974 = .ok (.aload_n 1, 1) := by decide +kernel
theorem dL_law_975 : decode code 975 = .ok (.aload_n 0, 1) := by decide +kernel
theorem dL_law_976 : decode code 976 = .ok (.iload_n 3, 1) := by decide +kernel
theorem dL_law_977 : decode code 977 = .ok (.iconst 1, 1) := by decide +kernel
theorem dL_law_978 : decode code 978 = .ok (.iadd, 1) := by decide +kernel
theorem dL_law_979 : decode code 979 = .ok (.iaload, 1) := by decide +kernel
theorem dL_law_980 : decode code 980 = .ok (.invokevirtual 107, 3) := by decide +kernel
theorem dL_law_983 : decode code 983 = .ok (.aload_n 2, 1) := by decide +kernel
theorem dL_law_984 : decode code 984 = .ok (.aload_n 0, 1) := by decide +kernel
theorem dL_law_985 : decode code 985 = .ok (.iload_n 3, 1) := by decide +kernel
theorem dL_law_986 : decode code 986 = .ok (.iconst 1, 1) := by decide +kernel
theorem dL_law_987 : decode code 987 = .ok (.iadd, 1) := by decide +kernel
theorem dL_law_988 : decode code 988 = .ok (.iaload, 1) := by decide +kernel
theorem dL_law_989 : decode code 989 = .ok (.invokevirtual 110, 3) := by decide +kernel
theorem dL_law_992 : decode code 992 = .ok (.if_icmp .eq 301, 3) := by decide +kernel
theorem dL_law_995 : decode code 995 = .ok (.iconst 0, 1) := by decide +kernel
theorem dL_law_996 : decode code 996 = .ok (.ireturn, 1) := by decide +kernel
theorem dL_law_997 : decode code 997 = .ok (.aload_n 1, 1) := by decide +kernel
theorem dL_law_998 : decode code 998 = .ok (.aload_n 0, 1) := by decide +kernel
theorem dL_law_999 : decode code 999 = .ok (.iload_n 3, 1) := by decide +kernel
theorem dL_law_1000 : decode code 1000 = .ok (.iconst 1, 1) := by decide +kernel
theorem dL_law_1001 : decode code 1001 = .ok (.iadd, 1) := by decide +kernel
theorem dL_law_1002 : decode code 1002 = .ok (.iaload, 1) := by decide +kernel
theorem dL_law_1003 : decode code 1003 = .ok (.aload_n 0, 1) := by decide +kernel
theorem dL_law_1004 : decode code 1004 = .ok (.iload_n 3, 1) := by decide +kernel
theorem dL_law_1005 : decode code 1005 = .ok (.iconst 2, 1) := by decide +kernel
theorem dL_law_1006 : decode code 1006 = .ok (.iadd, 1) := by decide +kernel
theorem dL_law_1007 : decode code 1007 = .ok (.iaload, 1) := by decide +kernel
theorem dL_law_1008 : decode code 1008 = .ok (.aload_n 0, 1) := by decide +kernel
theorem dL_law_1009 : decode code 1009 = .ok (.iload_n 3, 1) := by decide +kernel
theorem dL_law_1010 : decode code 1010 = .ok (.iconst 3, 1) := by decide +kernel
theorem dL_law_1011 : decode code 1011 = .ok (.iadd, 1) := by decide +kernel
theorem dL_law_1012 : decode code 1012 = .ok (.iaload, 1) := by decide +kernel
theorem dL_law_1013 : decode code 1013 = .ok (.invokevirtual 111, 3) := by decide +kernel
theorem dL_law_1016 : decode code 1016 = .ok (.aload_n 2, 1) := by decide +kernel
theorem dL_law_1017 : decode code 1017 = .ok (.aload_n 0, 1) := by decide +kernel
theorem dL_law_1018 : decode code 1018 = .ok (.iload_n 3, 1) := by decide +kernel
theorem dL_law_1019 : decode code 1019 = .ok (.iconst 1, 1) := by decide +kernel
theorem dL_law_1020 : decode code 1020 = .ok (.iadd, 1) := by decide +kernel
theorem dL_law_1021 : decode code 1021 = .ok (.iaload, 1) := by decide +kernel
theorem dL_law_1022 : decode code 1022 = .ok (.aload_n 0, 1) := by decide +kernel
theorem dL_law_1023 : decode code 1023 = .ok (.iload_n 3, 1) := by decide +kernel
theorem dL_law_1024 : decode code 1024 = .ok (.iconst 2, 1) := by decide +kernel
theorem dL_law_1025 : decode code 1025 = .ok (.iadd, 1) := by decide +kernel
theorem dL_law_1026 : decode code 1026 = .ok (.iaload, 1) := by decide +kernel
theorem dL_law_1027 : decode code 1027 = .ok (.aload_n 0, 1) := by decide +kernel
theorem dL_law_1028 : decode code 1028 = .ok (.iload_n 3, 1) := by decide +kernel
theorem dL_law_1029 : decode code 1029 = .ok (.iconst 3, 1) := by decide +kernel
theorem dL_law_1030 : decode code 1030 = .ok (.iadd, 1) := by decide +kernel
theorem dL_law_1031 : decode code 1031 = .ok (.iaload, 1) := by decide +kernel
theorem dL_law_1032 : decode code 1032 = .ok (.invokevirtual 114, 3) := by decide +kernel
theorem dL_law_1035 : decode code 1035 = .ok (.if_icmp .eq 258, 3) := by decide +kernel
theorem dL_law_1038 : decode code 1038 = .ok (.iconst 0, 1) := by decide +kernel
theorem dL_law_1039 : decode code 1039 = .ok (.ireturn, 1) := by decide +kernel
theorem dL_law_1040 : decode code 1040 = .ok (.aload_n 1, 1) := by decide +kernel
theorem dL_law_1041 : decode code 1041 = .ok (.aload_n 0, 1) := by decide +kernel
theorem dL_law_1042 : decode code 1042 = .ok (.iload_n 3, 1) := by decide +kernel
theorem dL_law_1043 : decode code 1043 = .ok (.iconst 1, 1) := by decide +kernel
theorem dL_law_1044 : decode code 1044 = .ok (.iadd, 1) := by decide +kernel
theorem dL_law_1045 : decode code 1045 = .ok (.iaload, 1) := by decide +kernel
theorem dL_law_1046 : decode code 1046 = .ok (.aload_n 0, 1) := by decide +kernel
theorem dL_law_1047 : decode code 1047 = .ok (.iload_n 3, 1) := by decide +kernel
theorem dL_law_1048 : decode code 1048 = .ok (.iconst 2, 1) := by decide +kernel
theorem dL_law_1049 : decode code 1049 = .ok (.iadd, 1) := by decide +kernel
theorem dL_law_1050 : decode code 1050 = .ok (.iaload, 1) := by decide +kernel
theorem dL_law_1051 : decode code 1051 = .ok (.invokevirtual 115, 3) := by decide +kernel
theorem dL_law_1054 : decode code 1054 = .ok (.aload_n 2, 1) := by decide +kernel
theorem dL_law_1055 : decode code 1055 = .ok (.aload_n 0, 1) := by decide +kernel
theorem dL_law_1056 : decode code 1056 = .ok (.iload_n 3, 1) := by decide +kernel
theorem dL_law_1057 : decode code 1057 = .ok (.iconst 1, 1) := by decide +kernel
theorem dL_law_1058 : decode code 1058 = .ok (.iadd, 1) := by decide +kernel
theorem dL_law_1059 : decode code 1059 = .ok (.iaload, 1) := by decide +kernel
theorem dL_law_1060 : decode code 1060 = .ok (.aload_n 0, 1) := by decide +kernel
theorem dL_law_1061 : decode code 1061 = .ok (.iload_n 3, 1) := by decide +kernel
theorem dL_law_1062 : decode code 1062 = .ok (.iconst 2, 1) := by decide +kernel
theorem dL_law_1063 : decode code 1063 = .ok (.iadd, 1) := by decide +kernel
theorem dL_law_1064 : decode code 1064 = .ok (.iaload, 1) := by decide +kernel
theorem dL_law_1065 : decode code 1065 = .ok (.invokevirtual 118, 3) := by decide +kernel
theorem dL_law_1068 : decode code 1068 = .ok (.if_icmp .eq 225, 3) := by decide +kernel
theorem dL_law_1071 : decode code 1071 = .ok (.iconst 0, 1) := by decide +kernel
theorem dL_law_1072 : decode code 1072 = .ok (.ireturn, 1) := by decide +kernel
theorem dL_law_1073 : decode code 1073 = .ok (.aload_n 1, 1) := by decide +kernel
theorem dL_law_1074 : decode code 1074 = .ok (.invokevirtual 119, 3) := by decide +kernel
theorem dL_law_1077 : decode code 1077 = .ok (.aload_n 2, 1) := by decide +kernel
theorem dL_law_1078 : decode code 1078 = .ok (.invokevirtual 122, 3) := by decide +kernel
theorem dL_law_1081 : decode code 1081 = .ok (.if_icmp .eq 212, 3) := by decide +kernel
theorem dL_law_1084 : decode code 1084 = .ok (.iconst 0, 1) := by decide +kernel
theorem dL_law_1085 : decode code 1085 = .ok (.ireturn, 1) := by decide +kernel
theorem dL_law_1086 : decode code 1086 = .ok (.aload_n 1, 1) := by decide +kernel
theorem dL_law_1087 : decode code 1087 = .ok (.aload_n 0, 1) := by decide +kernel
theorem dL_law_1088 : decode code 1088 = .ok (.iload_n 3, 1) := by decide +kernel
theorem dL_law_1089 : decode code 1089 = .ok (.iconst 1, 1) := by decide +kernel
theorem dL_law_1090 : decode code 1090 = .ok (.iadd, 1) := by decide +kernel
theorem dL_law_1091 : decode code 1091 = .ok (.iaload, 1) := by decide +kernel
theorem dL_law_1092 : decode code 1092 = .ok (.invokevirtual 123, 3) := by decide +kernel
theorem dL_law_1095 : decode code 1095 = .ok (.aload_n 2, 1) := by decide +kernel
theorem dL_law_1096 : decode code 1096 = .ok (.aload_n 0, 1) := by decide +kernel
theorem dL_law_1097 : decode code 1097 = .ok (.iload_n 3, 1) := by decide +kernel
theorem dL_law_1098 : decode code 1098 = .ok (.iconst 1, 1) := by decide +kernel
theorem dL_law_1099 : decode code 1099 = .ok (.iadd, 1) := by decide +kernel
theorem dL_law_1100 : decode code 1100 = .ok (.iaload, 1) := by decide +kernel
theorem dL_law_1101 : decode code 1101 = .ok (.invokevirtual 126, 3) := by decide +kernel
theorem dL_law_1104 : decode code 1104 = .ok (.if_icmp .eq 189, 3) := by decide +kernel
theorem dL_law_1107 : decode code 1107 = .ok (.iconst 0, 1) := by decide +kernel
theorem dL_law_1108 : decode code 1108 = .ok (.ireturn, 1) := by decide +kernel
theorem dL_law_1109 : decode code 1109 = .ok (.aload_n 1, 1) := by decide +kernel
theorem dL_law_1110 : decode code 1110 = .ok (.aload_n 0, 1) := by decide +kernel
theorem dL_law_1111 : decode code 1111 = .ok (.iload_n 3, 1) := by decide +kernel
theorem dL_law_1112 : decode code 1112 = .ok (.iconst 1, 1) := by decide +kernel
theorem dL_law_1113 : decode code 1113 = .ok (.iadd, 1) := by decide +kernel
theorem dL_law_1114 : decode code 1114 = .ok (.iaload, 1) := by decide +kernel
theorem dL_law_1115 : decode code 1115 = .ok (.aload_n 0, 1) := by decide +kernel
theorem dL_law_1116 : decode code 1116 = .ok (.iload_n 3, 1) := by decide +kernel
theorem dL_law_1117 : decode code 1117 = .ok (.iconst 2, 1) := by decide +kernel
theorem dL_law_1118 : decode code 1118 = .ok (.iadd, 1) := by decide +kernel
theorem dL_law_1119 : decode code 1119 = .ok (.iaload, 1) := by decide +kernel
theorem dL_law_1120 : decode code 1120 = .ok (.invokevirtual 127, 3) := by decide +kernel
theorem dL_law_1123 : decode code 1123 = .ok (.aload_n 2, 1) := by decide +kernel
theorem dL_law_1124 : decode code 1124 = .ok (.aload_n 0, 1) := by decide +kernel
theorem dL_law_1125 : decode code 1125 = .ok (.iload_n 3, 1) := by decide +kernel
theorem dL_law_1126 : decode code 1126 = .ok (.iconst 1, 1) := by decide +kernel
theorem dL_law_1127 : decode code 1127 = .ok (.iadd, 1) := by decide +kernel
theorem dL_law_1128 : decode code 1128 = .ok (.iaload, 1) := by decide +kernel
theorem dL_law_1129 : decode code 1129 = .ok (.aload_n 0, 1) := by decide +kernel
theorem dL_law_1130 : decode code 1130 = .ok (.iload_n 3, 1) := by decide +kernel
theorem dL_law_1131 : decode code 1131 = .ok (.iconst 2, 1) := by decide +kernel
theorem dL_law_1132 : decode code 1132 = .ok (.iadd, 1) := by decide +kernel
theorem dL_law_1133 : decode code 1133 = .ok (.iaload, 1) := by decide +kernel
theorem dL_law_1134 : decode code 1134 = .ok (.invokevirtual 130, 3) := by decide +kernel
theorem dL_law_1137 : decode code 1137 = .ok (.if_icmp .eq 156, 3) := by decide +kernel
theorem dL_law_1140 : decode code 1140 = .ok (.iconst 0, 1) := by decide +kernel
theorem dL_law_1141 : decode code 1141 = .ok (.ireturn, 1) := by decide +kernel
theorem dL_law_1142 : decode code 1142 = .ok (.aload_n 1, 1) := by decide +kernel
theorem dL_law_1143 : decode code 1143 = .ok (.aload_n 0, 1) := by decide +kernel
theorem dL_law_1144 : decode code 1144 = .ok (.iload_n 3, 1) := by decide +kernel
theorem dL_law_1145 : decode code 1145 = .ok (.iconst 1, 1) := by decide +kernel
theorem dL_law_1146 : decode code 1146 = .ok (.iadd, 1) := by decide +kernel
theorem dL_law_1147 : decode code 1147 = .ok (.iaload, 1) := by decide +kernel
theorem dL_law_1148 : decode code 1148 = .ok (.invokevirtual 131, 3) := by decide +kernel
theorem dL_law_1151 : decode code 1151 = .ok (.aload_n 2, 1) := by decide +kernel
theorem dL_law_1152 : decode code 1152 = .ok (.aload_n 0, 1) := by decide +kernel
theorem dL_law_1153 : decode code 1153 = .ok (.iload_n 3, 1) := by decide +kernel
theorem dL_law_1154 : decode code 1154 = .ok (.iconst 1, 1) := by decide +kernel
theorem dL_law_1155 : decode code 1155 = .ok (.iadd, 1) := by decide +kernel
theorem dL_law_1156 : decode code 1156 = .ok (.iaload, 1) := by decide +kernel
theorem dL_law_1157 : decode code 1157 = .ok (.invokevirtual 134, 3) := by decide +kernel
theorem dL_law_1160 : decode code 1160 = .ok (.if_icmp .eq 133, 3) := by decide +kernel
theorem dL_law_1163 : decode code 1163 = .ok (.iconst 0, 1) := by decide +kernel
theorem dL_law_1164 : decode code 1164 = .ok (.ireturn, 1) := by decide +kernel
theorem dL_law_1165 : decode code 1165 = .ok (.aload_n 1, 1) := by decide +kernel
theorem dL_law_1166 : decode code 1166 = .ok (.aload_n 0, 1) := by decide +kernel
theorem dL_law_1167 : decode code 1167 = .ok (.iload_n 3, 1) := by decide +kernel
theorem dL_law_1168 : decode code 1168 = .ok (.iconst 1, 1) := by decide +kernel
theorem dL_law_1169 : decode code 1169 = .ok (.iadd, 1) := by decide +kernel
theorem dL_law_1170 : decode code 1170 = .ok (.iaload, 1) := by decide +kernel
theorem dL_law_1171 : decode code 1171 = .ok (.invokevirtual 135, 3) := by decide +kernel
theorem dL_law_1174 : decode code 1174 = .ok (.aload_n 2, 1) := by decide +kernel
theorem dL_law_1175 : decode code 1175 = .ok (.aload_n 0, 1) := by decide +kernel
theorem dL_law_1176 : decode code 1176 = .ok (.iload_n 3, 1) := by decide +kernel
theorem dL_law_1177 : decode code 1177 = .ok (.iconst 1, 1) := by decide +kernel
theorem dL_law_1178 : decode code 1178 = .ok (.iadd, 1) := by decide +kernel
theorem dL_law_1179 : decode code 1179 = .ok (.iaload, 1) := by decide +kernel
theorem dL_law_1180 : decode code 1180 = .ok (.invokevirtual 138, 3) := by decide +kernel
theorem dL_law_1183 : decode code 1183 = .ok (.if_icmp .eq 110, 3) := by decide +kernel
theorem dL_law_1186 : decode code 1186 = .ok (.iconst 0, 1) := by decide +kernel
theorem dL_law_1187 : decode code 1187 = .ok (.ireturn, 1) := by decide +kernel
theorem dL_law_1188 : decode code 1188 = .ok (.aload_n 1, 1) := by decide +kernel
theorem dL_law_1189 : decode code 1189 = .ok (.aload_n 0, 1) := by decide +kernel
theorem dL_law_1190 : decode code 1190 = .ok (.iload_n 3, 1) := by decide +kernel
theorem dL_law_1191 : decode code 1191 = .ok (.iconst 1, 1) := by decide +kernel
theorem dL_law_1192 : decode code 1192 = .ok (.iadd, 1) := by decide +kernel
theorem dL_law_1193 : decode code 1193 = .ok (.iaload, 1) := by decide +kernel
theorem dL_law_1194 : decode code 1194 = .ok (.aload_n 0, 1) := by decide +kernel
theorem dL_law_1195 : decode code 1195 = .ok (.iload_n 3, 1) := by decide +kernel
theorem dL_law_1196 : decode code 1196 = .ok (.iconst 2, 1) := by decide +kernel
theorem dL_law_1197 : decode code 1197 = .ok (.iadd, 1) := by decide +kernel
theorem dL_law_1198 : decode code 1198 = .ok (.iaload, 1) := by decide +kernel
theorem dL_law_1199 : decode code 1199 = .ok (.invokevirtual 139, 3) := by decide +kernel
theorem dL_law_1202 : decode code 1202 = .ok (.aload_n 2, 1) := by decide +kernel
theorem dL_law_1203 : decode code 1203 = .ok (.aload_n 0, 1) := by decide +kernel
theorem dL_law_1204 : decode code 1204 = .ok (.iload_n 3, 1) := by decide +kernel
theorem dL_law_1205 : decode code 1205 = .ok (.iconst 1, 1) := by decide +kernel
theorem dL_law_1206 : decode code 1206 = .ok (.iadd, 1) := by decide +kernel
theorem dL_law_1207 : decode code 1207 = .ok (.iaload, 1) := by decide +kernel
theorem dL_law_1208 : decode code 1208 = .ok (.aload_n 0, 1) := by decide +kernel
theorem dL_law_1209 : decode code 1209 = .ok (.iload_n 3, 1) := by decide +kernel
theorem dL_law_1210 : decode code 1210 = .ok (.iconst 2, 1) := by decide +kernel
theorem dL_law_1211 : decode code 1211 = .ok (.iadd, 1) := by decide +kernel
theorem dL_law_1212 : decode code 1212 = .ok (.iaload, 1) := by decide +kernel
theorem dL_law_1213 : decode code 1213 = .ok (.invokevirtual 142, 3) := by decide +kernel
theorem dL_law_1216 : decode code 1216 = .ok (.if_icmp .eq 77, 3) := by decide +kernel
theorem dL_law_1219 : decode code 1219 = .ok (.iconst 0, 1) := by decide +kernel
theorem dL_law_1220 : decode code 1220 = .ok (.ireturn, 1) := by decide +kernel
theorem dL_law_1221 : decode code 1221 = .ok (.aload_n 1, 1) := by decide +kernel
theorem dL_law_1222 : decode code 1222 = .ok (.aload_n 0, 1) := by decide +kernel
theorem dL_law_1223 : decode code 1223 = .ok (.iload_n 3, 1) := by decide +kernel
theorem dL_law_1224 : decode code 1224 = .ok (.iconst 1, 1) := by decide +kernel
theorem dL_law_1225 : decode code 1225 = .ok (.iadd, 1) := by decide +kernel
theorem dL_law_1226 : decode code 1226 = .ok (.iaload, 1) := by decide +kernel
theorem dL_law_1227 : decode code 1227 = .ok (.invokevirtual 143, 3) := by decide +kernel
theorem dL_law_1230 : decode code 1230 = .ok (.aload_n 2, 1) := by decide +kernel
theorem dL_law_1231 : decode code 1231 = .ok (.aload_n 0, 1) := by decide +kernel
theorem dL_law_1232 : decode code 1232 = .ok (.iload_n 3, 1) := by decide +kernel
theorem dL_law_1233 : decode code 1233 = .ok (.iconst 1, 1) := by decide +kernel
theorem dL_law_1234 : decode code 1234 = .ok (.iadd, 1) := by decide +kernel
theorem dL_law_1235 : decode code 1235 = .ok (.iaload, 1) := by decide +kernel
theorem dL_law_1236 : decode code 1236 = .ok (.invokevirtual 146, 3) := by decide +kernel
theorem dL_law_1239 : decode code 1239 = .ok (.if_icmp .eq 54, 3) := by decide +kernel
theorem dL_law_1242 : decode code 1242 = .ok (.iconst 0, 1) := by decide +kernel
theorem dL_law_1243 : decode code 1243 = .ok (.ireturn, 1) := by decide +kernel
theorem dL_law_1244 : decode code 1244 = .ok (.aload_n 1, 1) := by decide +kernel
theorem dL_law_1245 : decode code 1245 = .ok (.invokevirtual 147, 3) := by decide +kernel
theorem dL_law_1248 : decode code 1248 = .ok (.aload_n 2, 1) := by decide +kernel
theorem dL_law_1249 : decode code 1249 = .ok (.invokevirtual 150, 3) := by decide +kernel
theorem dL_law_1252 : decode code 1252 = .ok (.if_icmp .eq 41, 3) := by decide +kernel
theorem dL_law_1255 : decode code 1255 = .ok (.iconst 0, 1) := by decide +kernel
theorem dL_law_1256 : decode code 1256 = .ok (.ireturn, 1) := by decide +kernel
theorem dL_law_1257 : decode code 1257 = .ok (.aload_n 1, 1) := by decide +kernel
theorem dL_law_1258 : decode code 1258 = .ok (.invokevirtual 151, 3) := by decide +kernel
theorem dL_law_1261 : decode code 1261 = .ok (.aload_n 2, 1) := by decide +kernel
theorem dL_law_1262 : decode code 1262 = .ok (.invokevirtual 154, 3) := by decide +kernel
theorem dL_law_1265 : decode code 1265 = .ok (.if_icmp .eq 28, 3) := by decide +kernel
theorem dL_law_1268 : decode code 1268 = .ok (.iconst 0, 1) := by decide +kernel
theorem dL_law_1269 : decode code 1269 = .ok (.ireturn, 1) := by decide +kernel
theorem dL_law_1270 : decode code 1270 = .ok (.aload_n 1, 1) := by decide +kernel
theorem dL_law_1271 : decode code 1271 = .ok (.aload_n 0, 1) := by decide +kernel
theorem dL_law_1272 : decode code 1272 = .ok (.iload_n 3, 1) := by decide +kernel
theorem dL_law_1273 : decode code 1273 = .ok (.iconst 1, 1) := by decide +kernel
theorem dL_law_1274 : decode code 1274 = .ok (.iadd, 1) := by decide +kernel
theorem dL_law_1275 : decode code 1275 = .ok (.iaload, 1) := by decide +kernel
theorem dL_law_1276 : decode code 1276 = .ok (.invokevirtual 155, 3) := by decide +kernel
theorem dL_law_1279 : decode code 1279 = .ok (.aload_n 2, 1) := by decide +kernel
theorem dL_law_1280 : decode code 1280 = .ok (.aload_n 0, 1) := by decide +kernel
theorem dL_law_1281 : decode code 1281 = .ok (.iload_n 3, 1) := by decide +kernel
theorem dL_law_1282 : decode code 1282 = .ok (.iconst 1, 1) := by decide +kernel
theorem dL_law_1283 : decode code 1283 = .ok (.iadd, 1) := by decide +kernel
theorem dL_law_1284 : decode code 1284 = .ok (.iaload, 1) := by decide +kernel
theorem dL_law_1285 : decode code 1285 = .ok (.invokevirtual 158, 3) := by decide +kernel
theorem dL_law_1288 : decode code 1288 = .ok (.if_icmp .eq 5, 3) := by decide +kernel
theorem dL_law_1291 : decode code 1291 = .ok (.iconst 0, 1) := by decide +kernel
theorem dL_law_1292 : decode code 1292 = .ok (.ireturn, 1) := by decide +kernel
theorem dL_law_1293 : decode code 1293 = .ok (.iinc 3 5, 3) := by decide +kernel
theorem dL_law_1296 : decode code 1296 = .ok (.goto (-1278), 3) := by decide +kernel
theorem dL_law_1299 : decode code 1299 = .ok (.iconst 1, 1) := by decide +kernel
theorem dL_law_1300 : decode code 1300 = .ok (.ireturn, 1) := by decide +kernel
