/-! THE LAW: decode rows -/
theorem dL_760 : decode code 760 = .ok (.iload_n 3, 1) := by decide +kernel
theorem dL_761 : decode code 761 = .ok (.iconst 1, 1) := by decide +kernel
theorem dL_762 : decode code 762 = .ok (.iadd, 1) := by decide +kernel
theorem dL_763 : decode code 763 = .ok (.iaload, 1) := by decide +kernel
theorem dL_764 : decode code 764 = .ok (.aload_n 0, 1) := by decide +kernel
theorem dL_765 : decode code 765 = .ok (.iload_n 3, 1) := by decide +kernel
theorem dL_766 : decode code 766 = .ok (.iconst 2, 1) := by decide +kernel
theorem dL_767 : decode code 767 = .ok (.iadd, 1) := by decide +kernel
theorem dL_768 : decode code 768 = .ok (.iaload, 1) := by decide +kernel
theorem dL_769 : decode code 769 = .ok (.aload_n 0, 1) := by decide +kernel
theorem dL_770 : decode code 770 = .ok (.iload_n 3, 1) := by decide +kernel
theorem dL_771 : decode code 771 = .ok (.iconst 3, 1) := by decide +kernel
theorem dL_772 : decode code 772 = .ok (.iadd, 1) := by decide +kernel
theorem dL_773 : decode code 773 = .ok (.iaload, 1) := by decide +kernel
theorem dL_774 : decode code 774 = .ok (.aload_n 0, 1) := by decide +kernel
theorem dL_775 : decode code 775 = .ok (.iload_n 3, 1) := by decide +kernel
theorem dL_776 : decode code 776 = .ok (.iconst 4, 1) := by decide +kernel
theorem dL_777 : decode code 777 = .ok (.iadd, 1) := by decide +kernel
theorem dL_778 : decode code 778 = .ok (.iaload, 1) := by decide +kernel
theorem dL_779 : decode code 779 = .ok (.aload_n 0, 1) := by decide +kernel
theorem dL_780 : decode code 780 = .ok (.iload_n 3, 1) := by decide +kernel
theorem dL_781 : decode code 781 = .ok (.iconst 5, 1) := by decide +kernel
theorem dL_782 : decode code 782 = .ok (.iadd, 1) := by decide +kernel
theorem dL_783 : decode code 783 = .ok (.iaload, 1) := by decide +kernel
theorem dL_784 : decode code 784 = .ok (.invokevirtual 69, 3) := by decide +kernel
theorem dL_787 : decode code 787 = .ok (.if_icmp .eq 1512, 3) := by decide +kernel
theorem dL_790 : decode code 790 = .ok (.iconst 0, 1) := by decide +kernel
theorem dL_791 : decode code 791 = .ok (.ireturn, 1) := by decide +kernel
theorem dL_792 : decode code 792 = .ok (.aload_n 1, 1) := by decide +kernel
theorem dL_793 : decode code 793 = .ok (.aload_n 0, 1) := by decide +kernel
theorem dL_794 : decode code 794 = .ok (.iload_n 3, 1) := by decide +kernel
theorem dL_795 : decode code 795 = .ok (.iconst 1, 1) := by decide +kernel
theorem dL_796 : decode code 796 = .ok (.iadd, 1) := by decide +kernel
theorem dL_797 : decode code 797 = .ok (.iaload, 1) := by decide +kernel
theorem dL_798 : decode code 798 = .ok (.aload_n 0, 1) := by decide +kernel
theorem dL_799 : decode code 799 = .ok (.iload_n 3, 1) := by decide +kernel
theorem dL_800 : decode code 800 = .ok (.iconst 2, 1) := by decide +kernel
theorem dL_801 : decode code 801 = .ok (.iadd, 1) := by decide +kernel
theorem dL_802 : decode code 802 = .ok (.iaload, 1) := by decide +kernel
theorem dL_803 : decode code 803 = .ok (.invokevirtual 70, 3) := by decide +kernel
theorem dL_806 : decode code 806 = .ok (.aload_n 2, 1) := by decide +kernel
theorem dL_807 : decode code 807 = .ok (.aload_n 0, 1) := by decide +kernel
theorem dL_808 : decode code 808 = .ok (.iload_n 3, 1) := by decide +kernel
theorem dL_809 : decode code 809 = .ok (.iconst 1, 1) := by decide +kernel
theorem dL_810 : decode code 810 = .ok (.iadd, 1) := by decide +kernel
theorem dL_811 : decode code 811 = .ok (.iaload, 1) := by decide +kernel
theorem dL_812 : decode code 812 = .ok (.aload_n 0, 1) := by decide +kernel
theorem dL_813 : decode code 813 = .ok (.iload_n 3, 1) := by decide +kernel
theorem dL_814 : decode code 814 = .ok (.iconst 2, 1) := by decide +kernel
theorem dL_815 : decode code 815 = .ok (.iadd, 1) := by decide +kernel
theorem dL_816 : decode code 816 = .ok (.iaload, 1) := by decide +kernel
theorem dL_817 : decode code 817 = .ok (.invokevirtual 74, 3) := by decide +kernel
theorem dL_820 : decode code 820 = .ok (.lcmp, 1) := by decide +kernel
theorem dL_821 : decode code 821 = .ok (.ifCond .eq 1478, 3) := by decide +kernel
theorem dL_824 : decode code 824 = .ok (.iconst 0, 1) := by decide +kernel
theorem dL_825 : decode code 825 = .ok (.ireturn, 1) := by decide +kernel
theorem dL_826 : decode code 826 = .ok (.aload_n 1, 1) := by decide +kernel
theorem dL_827 : decode code 827 = .ok (.aload_n 0, 1) := by decide +kernel
theorem dL_828 : decode code 828 = .ok (.iload_n 3, 1) := by decide +kernel
theorem dL_829 : decode code 829 = .ok (.iconst 1, 1) := by decide +kernel
theorem dL_830 : decode code 830 = .ok (.iadd, 1) := by decide +kernel
theorem dL_831 : decode code 831 = .ok (.iaload, 1) := by decide +kernel
theorem dL_832 : decode code 832 = .ok (.aload_n 0, 1) := by decide +kernel
theorem dL_833 : decode code 833 = .ok (.iload_n 3, 1) := by decide +kernel
theorem dL_834 : decode code 834 = .ok (.iconst 2, 1) := by decide +kernel
theorem dL_835 : decode code 835 = .ok (.iadd, 1) := by decide +kernel
theorem dL_836 : decode code 836 = .ok (.iaload, 1) := by decide +kernel
theorem dL_837 : decode code 837 = .ok (.invokevirtual 75, 3) := by decide +kernel
theorem dL_840 : decode code 840 = .ok (.aload_n 2, 1) := by decide +kernel
theorem dL_841 : decode code 841 = .ok (.aload_n 0, 1) := by decide +kernel
theorem dL_842 : decode code 842 = .ok (.iload_n 3, 1) := by decide +kernel
theorem dL_843 : decode code 843 = .ok (.iconst 1, 1) := by decide +kernel
theorem dL_844 : decode code 844 = .ok (.iadd, 1) := by decide +kernel
theorem dL_845 : decode code 845 = .ok (.iaload, 1) := by decide +kernel
theorem dL_846 : decode code 846 = .ok (.aload_n 0, 1) := by decide +kernel
theorem dL_847 : decode code 847 = .ok (.iload_n 3, 1) := by decide +kernel
theorem dL_848 : decode code 848 = .ok (.iconst 2, 1) := by decide +kernel
theorem dL_849 : decode code 849 = .ok (.iadd, 1) := by decide +kernel
theorem dL_850 : decode code 850 = .ok (.iaload, 1) := by decide +kernel
theorem dL_851 : decode code 851 = .ok (.invokevirtual 78, 3) := by decide +kernel
theorem dL_854 : decode code 854 = .ok (.if_icmp .eq 1445, 3) := by decide +kernel
theorem dL_857 : decode code 857 = .ok (.iconst 0, 1) := by decide +kernel
theorem dL_858 : decode code 858 = .ok (.ireturn, 1) := by decide +kernel
theorem dL_859 : decode code 859 = .ok (.aload_n 1, 1) := by decide +kernel
theorem dL_860 : decode code 860 = .ok (.aload_n 0, 1) := by decide +kernel
theorem dL_861 : decode code 861 = .ok (.iload_n 3, 1) := by decide +kernel
theorem dL_862 : decode code 862 = .ok (.iconst 1, 1) := by decide +kernel
theorem dL_863 : decode code 863 = .ok (.iadd, 1) := by decide +kernel
theorem dL_864 : decode code 864 = .ok (.iaload, 1) := by decide +kernel
theorem dL_865 : decode code 865 = .ok (.invokevirtual 79, 3) := by decide +kernel
theorem dL_868 : decode code 868 = .ok (.aload_n 2, 1) := by decide +kernel
theorem dL_869 : decode code 869 = .ok (.aload_n 0, 1) := by decide +kernel
theorem dL_870 : decode code 870 = .ok (.iload_n 3, 1) := by decide +kernel
theorem dL_871 : decode code 871 = .ok (.iconst 1, 1) := by decide +kernel
theorem dL_872 : decode code 872 = .ok (.iadd, 1) := by decide +kernel
theorem dL_873 : decode code 873 = .ok (.iaload, 1) := by decide +kernel
theorem dL_874 : decode code 874 = .ok (.invokevirtual 82, 3) := by decide +kernel
theorem dL_877 : decode code 877 = .ok (.if_icmp .eq 1422, 3) := by decide +kernel
theorem dL_880 : decode code 880 = .ok (.iconst 0, 1) := by decide +kernel
theorem dL_881 : decode code 881 = .ok (.ireturn, 1) := by decide +kernel
theorem dL_882 : decode code 882 = .ok (.aload_n 1, 1) := by decide +kernel
theorem dL_883 : decode code 883 = .ok (.aload_n 0, 1) := by decide +kernel
theorem dL_884 : decode code 884 = .ok (.iload_n 3, 1) := by decide +kernel
theorem dL_885 : decode code 885 = .ok (.iconst 1, 1) := by decide +kernel
theorem dL_886 : decode code 886 = .ok (.iadd, 1) := by decide +kernel
theorem dL_887 : decode code 887 = .ok (.iaload, 1) := by decide +kernel
theorem dL_888 : decode code 888 = .ok (.invokevirtual 83, 3) := by decide +kernel
theorem dL_891 : decode code 891 = .ok (.aload_n 2, 1) := by decide +kernel
theorem dL_892 : decode code 892 = .ok (.aload_n 0, 1) := by decide +kernel
theorem dL_893 : decode code 893 = .ok (.iload_n 3, 1) := by decide +kernel
theorem dL_894 : decode code 894 = .ok (.iconst 1, 1) := by decide +kernel
theorem dL_895 : decode code 895 = .ok (.iadd, 1) := by decide +kernel
theorem dL_896 : decode code 896 = .ok (.iaload, 1) := by decide +kernel
theorem dL_897 : decode code 897 = .ok (.invokevirtual 86, 3) := by decide +kernel
theorem dL_900 : decode code 900 = .ok (.if_icmp .eq 1399, 3) := by decide +kernel
theorem dL_903 : decode code 903 = .ok (.iconst 0, 1) := by decide +kernel
theorem dL_904 : decode code 904 = .ok (.ireturn, 1) := by decide +kernel
theorem dL_905 : decode code 905 = .ok (.aload_n 1, 1) := by decide +kernel
theorem dL_906 : decode code 906 = .ok (.aload_n 0, 1) := by decide +kernel
theorem dL_907 : decode code 907 = .ok (.iload_n 3, 1) := by decide +kernel
theorem dL_908 : decode code 908 = .ok (.iconst 1, 1) := by decide +kernel
theorem dL_909 : decode code 909 = .ok (.iadd, 1) := by decide +kernel
theorem dL_910 : decode code 910 = .ok (.iaload, 1) := by decide +kernel
theorem dL_911 : decode code 911 = .ok (.aload_n 0, 1) := by decide +kernel
theorem dL_912 : decode code 912 = .ok (.iload_n 3, 1) := by decide +kernel
theorem dL_913 : decode code 913 = .ok (.iconst 2, 1) := by decide +kernel
theorem dL_914 : decode code 914 = .ok (.iadd, 1) := by decide +kernel
theorem dL_915 : decode code 915 = .ok (.iaload, 1) := by decide +kernel
theorem dL_916 : decode code 916 = .ok (.invokevirtual 87, 3) := by decide +kernel
theorem dL_919 : decode code 919 = .ok (.aload_n 2, 1) := by decide +kernel
theorem dL_920 : decode code 920 = .ok (.aload_n 0, 1) := by decide +kernel
theorem dL_921 : decode code 921 = .ok (.iload_n 3, 1) := by decide +kernel
theorem dL_922 : decode code 922 = .ok (.iconst 1, 1) := by decide +kernel
theorem dL_923 : decode code 923 = .ok (.iadd, 1) := by decide +kernel
theorem dL_924 : decode code 924 = .ok (.iaload, 1) := by decide +kernel
theorem dL_925 : decode code 925 = .ok (.aload_n 0, 1) := by decide +kernel
theorem dL_926 : decode code 926 = .ok (.iload_n 3, 1) := by decide +kernel
theorem dL_927 : decode code 927 = .ok (.iconst 2, 1) := by decide +kernel
theorem dL_928 : decode code 928 = .ok (.iadd, 1) := by decide +kernel
theorem dL_929 : decode code 929 = .ok (.iaload, 1) := by decide +kernel
theorem dL_930 : decode code 930 = .ok (.invokevirtual 90, 3) := by decide +kernel
theorem dL_933 : decode code 933 = .ok (.if_icmp .eq 1366, 3) := by decide +kernel
theorem dL_936 : decode code 936 = .ok (.iconst 0, 1) := by decide +kernel
theorem dL_937 : decode code 937 = .ok (.ireturn, 1) := by decide +kernel
theorem dL_938 : decode code 938 = .ok (.aload_n 1, 1) := by decide +kernel
theorem dL_939 : decode code 939 = .ok (.aload_n 0, 1) := by decide +kernel
theorem dL_940 : decode code 940 = .ok (.iload_n 3, 1) := by decide +kernel
theorem dL_941 : decode code 941 = .ok (.iconst 1, 1) := by decide +kernel
theorem dL_942 : decode code 942 = .ok (.iadd, 1) := by decide +kernel
theorem dL_943 : decode code 943 = .ok (.iaload, 1) := by decide +kernel
theorem dL_944 : decode code 944 = .ok (.aload_n 0, 1) := by decide +kernel
theorem dL_945 : decode code 945 = .ok (.iload_n 3, 1) := by decide +kernel
theorem dL_946 : decode code 946 = .ok (.iconst 2, 1) := by decide +kernel
theorem dL_947 : decode code 947 = .ok (.iadd, 1) := by decide +kernel
theorem dL_948 : decode code 948 = .ok (.iaload, 1) := by decide +kernel
theorem dL_949 : decode code 949 = .ok (.aload_n 0, 1) := by decide +kernel
theorem dL_950 : decode code 950 = .ok (.iload_n 3, 1) := by decide +kernel
theorem dL_951 : decode code 951 = .ok (.iconst 3, 1) := by decide +kernel
theorem dL_952 : decode code 952 = .ok (.iadd, 1) := by decide +kernel
theorem dL_953 : decode code 953 = .ok (.iaload, 1) := by decide +kernel
theorem dL_954 : decode code 954 = .ok (.aload_n 0, 1) := by decide +kernel
theorem dL_955 : decode code 955 = .ok (.iload_n 3, 1) := by decide +kernel
theorem dL_956 : decode code 956 = .ok (.iconst 4, 1) := by decide +kernel
theorem dL_957 : decode code 957 = .ok (.iadd, 1) := by decide +kernel
theorem dL_958 : decode code 958 = .ok (.iaload, 1) := by decide +kernel
theorem dL_959 : decode code 959 = .ok (.invokevirtual 91, 3) := by decide +kernel
theorem dL_962 : decode code 962 = .ok (.aload_n 2, 1) := by decide +kernel
theorem dL_963 : decode code 963 = .ok (.aload_n 0, 1) := by decide +kernel
theorem dL_964 : decode code 964 = .ok (.iload_n 3, 1) := by decide +kernel
theorem dL_965 : decode code 965 = .ok (.iconst 1, 1) := by decide +kernel
theorem dL_966 : decode code 966 = .ok (.iadd, 1) := by decide +kernel
theorem dL_967 : decode code 967 = .ok (.iaload, 1) := by decide +kernel
theorem dL_968 : decode code 968 = .ok (.aload_n 0, 1) := by decide +kernel
theorem dL_969 : decode code 969 = .ok (.iload_n 3, 1) := by decide +kernel
theorem dL_970 : decode code 970 = .ok (.iconst 2, 1) := by decide +kernel
theorem dL_971 : decode code 971 = .ok (.iadd, 1) := by decide +kernel
theorem dL_972 : decode code 972 = .ok (.iaload, 1) := by decide +kernel
theorem dL_973 : decode code 973 = .ok (.aload_n 0, 1) := by decide +kernel
theorem dL_974 : decode code 974 = .ok (.iload_n 3, 1) := by decide +kernel
theorem dL_975 : decode code 975 = .ok (.iconst 3, 1) := by decide +kernel
theorem dL_976 : decode code 976 = .ok (.iadd, 1) := by decide +kernel
theorem dL_977 : decode code 977 = .ok (.iaload, 1) := by decide +kernel
theorem dL_978 : decode code 978 = .ok (.aload_n 0, 1) := by decide +kernel
theorem dL_979 : decode code 979 = .ok (.iload_n 3, 1) := by decide +kernel
theorem dL_980 : decode code 980 = .ok (.iconst 4, 1) := by decide +kernel
theorem dL_981 : decode code 981 = .ok (.iadd, 1) := by decide +kernel
theorem dL_982 : decode code 982 = .ok (.iaload, 1) := by decide +kernel
theorem dL_983 : decode code 983 = .ok (.invokevirtual 94, 3) := by decide +kernel
theorem dL_986 : decode code 986 = .ok (.if_icmp .eq 1313, 3) := by decide +kernel
theorem dL_989 : decode code 989 = .ok (.iconst 0, 1) := by decide +kernel
theorem dL_990 : decode code 990 = .ok (.ireturn, 1) := by decide +kernel
theorem dL_991 : decode code 991 = .ok (.aload_n 1, 1) := by decide +kernel
theorem dL_992 : decode code 992 = .ok (.aload_n 0, 1) := by decide +kernel
theorem dL_993 : decode code 993 = .ok (.iload_n 3, 1) := by decide +kernel
theorem dL_994 : decode code 994 = .ok (.iconst 1, 1) := by decide +kernel
theorem dL_995 : decode code 995 = .ok (.iadd, 1) := by decide +kernel
theorem dL_996 : decode code 996 = .ok (.iaload, 1) := by decide +kernel
theorem dL_997 : decode code 997 = .ok (.aload_n 0, 1) := by decide +kernel
theorem dL_998 : decode code 998 = .ok (.iload_n 3, 1) := by decide +kernel
theorem dL_999 : decode code 999 = .ok (.iconst 2, 1) := by decide +kernel
theorem dL_1000 : decode code 1000 = .ok (.iadd, 1) := by decide +kernel
theorem dL_1001 : decode code 1001 = .ok (.iaload, 1) := by decide +kernel
theorem dL_1002 : decode code 1002 = .ok (.aload_n 0, 1) := by decide +kernel
theorem dL_1003 : decode code 1003 = .ok (.iload_n 3, 1) := by decide +kernel
theorem dL_1004 : decode code 1004 = .ok (.iconst 3, 1) := by decide +kernel
theorem dL_1005 : decode code 1005 = .ok (.iadd, 1) := by decide +kernel
theorem dL_1006 : decode code 1006 = .ok (.iaload, 1) := by decide +kernel
theorem dL_1007 : decode code 1007 = .ok (.aload_n 0, 1) := by decide +kernel
theorem dL_1008 : decode code 1008 = .ok (.iload_n 3, 1) := by decide +kernel
theorem dL_1009 : decode code 1009 = .ok (.iconst 4, 1) := by decide +kernel
theorem dL_1010 : decode code 1010 = .ok (.iadd, 1) := by decide +kernel
theorem dL_1011 : decode code 1011 = .ok (.iaload, 1) := by decide +kernel
theorem dL_1012 : decode code 1012 = .ok (.invokevirtual 95, 3) := by decide +kernel
theorem dL_1015 : decode code 1015 = .ok (.aload_n 2, 1) := by decide +kernel
theorem dL_1016 : decode code 1016 = .ok (.aload_n 0, 1) := by decide +kernel
theorem dL_1017 : decode code 1017 = .ok (.iload_n 3, 1) := by decide +kernel
theorem dL_1018 : decode code 1018 = .ok (.iconst 1, 1) := by decide +kernel
theorem dL_1019 : decode code 1019 = .ok (.iadd, 1) := by decide +kernel
theorem dL_1020 : decode code 1020 = .ok (.iaload, 1) := by decide +kernel
theorem dL_1021 : decode code 1021 = .ok (.aload_n 0, 1) := by decide +kernel
theorem dL_1022 : decode code 1022 = .ok (.iload_n 3, 1) := by decide +kernel
theorem dL_1023 : decode code 1023 = .ok (.iconst 2, 1) := by decide +kernel
theorem dL_1024 : decode code 1024 = .ok (.iadd, 1) := by decide +kernel
theorem dL_1025 : decode code 1025 = .ok (.iaload, 1) := by decide +kernel
theorem dL_1026 : decode code 1026 = .ok (.aload_n 0, 1) := by decide +kernel
theorem dL_1027 : decode code 1027 = .ok (.iload_n 3, 1) := by decide +kernel
theorem dL_1028 : decode code 1028 = .ok (.iconst 3, 1) := by decide +kernel
theorem dL_1029 : decode code 1029 = .ok (.iadd, 1) := by decide +kernel
theorem dL_1030 : decode code 1030 = .ok (.iaload, 1) := by decide +kernel
theorem dL_1031 : decode code 1031 = .ok (.aload_n 0, 1) := by decide +kernel
theorem dL_1032 : decode code 1032 = .ok (.iload_n 3, 1) := by decide +kernel
theorem dL_1033 : decode code 1033 = .ok (.iconst 4, 1) := by decide +kernel
theorem dL_1034 : decode code 1034 = .ok (.iadd, 1) := by decide +kernel
theorem dL_1035 : decode code 1035 = .ok (.iaload, 1) := by decide +kernel
theorem dL_1036 : decode code 1036 = .ok (.invokevirtual 98, 3) := by decide +kernel
theorem dL_1039 : decode code 1039 = .ok (.if_icmp .eq 1260, 3) := by decide +kernel
theorem dL_1042 : decode code 1042 = .ok (.iconst 0, 1) := by decide +kernel
theorem dL_1043 : decode code 1043 = .ok (.ireturn, 1) := by decide +kernel
theorem dL_1044 : decode code 1044 = .ok (.aload_n 1, 1) := by decide +kernel
theorem dL_1045 : decode code 1045 = .ok (.aload_n 0, 1) := by decide +kernel
theorem dL_1046 : decode code 1046 = .ok (.iload_n 3, 1) := by decide +kernel
theorem dL_1047 : decode code 1047 = .ok (.iconst 1, 1) := by decide +kernel
theorem dL_1048 : decode code 1048 = .ok (.iadd, 1) := by decide +kernel
theorem dL_1049 : decode code 1049 = .ok (.iaload, 1) := by decide +kernel
theorem dL_1050 : decode code 1050 = .ok (.aload_n 0, 1) := by decide +kernel
theorem dL_1051 : decode code 1051 = .ok (.iload_n 3, 1) := by decide +kernel
theorem dL_1052 : decode code 1052 = .ok (.iconst 2, 1) := by decide +kernel
theorem dL_1053 : decode code 1053 = .ok (.iadd, 1) := by decide +kernel
theorem dL_1054 : decode code 1054 = .ok (.iaload, 1) := by decide +kernel
theorem dL_1055 : decode code 1055 = .ok (.aload_n 0, 1) := by decide +kernel
theorem dL_1056 : decode code 1056 = .ok (.iload_n 3, 1) := by decide +kernel
theorem dL_1057 : decode code 1057 = .ok (.iconst 3, 1) := by decide +kernel
theorem dL_1058 : decode code 1058 = .ok (.iadd, 1) := by decide +kernel
theorem dL_1059 : decode code 1059 = .ok (.iaload, 1) := by decide +kernel
theorem dL_1060 : decode code 1060 = .ok (.invokevirtual 99, 3) := by decide +kernel
theorem dL_1063 : decode code 1063 = .ok (.aload_n 2, 1) := by decide +kernel
theorem dL_1064 : decode code 1064 = .ok (.aload_n 0, 1) := by decide +kernel
theorem dL_1065 : decode code 1065 = .ok (.iload_n 3, 1) := by decide +kernel
theorem dL_1066 : decode code 1066 = .ok (.iconst 1, 1) := by decide +kernel
theorem dL_1067 : decode code 1067 = .ok (.iadd, 1) := by decide +kernel
theorem dL_1068 : decode code 1068 = .ok (.iaload, 1) := by decide +kernel
theorem dL_1069 : decode code 1069 = .ok (.aload_n 0, 1) := by decide +kernel
theorem dL_1070 : decode code 1070 = .ok (.iload_n 3, 1) := by decide +kernel
theorem dL_1071 : decode code 1071 = .ok (.iconst 2, 1) := by decide +kernel
theorem dL_1072 : decode code 1072 = .ok (.iadd, 1) := by decide +kernel
theorem dL_1073 : decode code 1073 = .ok (.iaload, 1) := by decide +kernel
theorem dL_1074 : decode code 1074 = .ok (.aload_n 0, 1) := by decide +kernel
theorem dL_1075 : decode code 1075 = .ok (.iload_n 3, 1) := by decide +kernel
theorem dL_1076 : decode code 1076 = .ok (.iconst 3, 1) := by decide +kernel
theorem dL_1077 : decode code 1077 = .ok (.iadd, 1) := by decide +kernel
theorem dL_1078 : decode code 1078 = .ok (.iaload, 1) := by decide +kernel
theorem dL_1079 : decode code 1079 = .ok (.invokevirtual 102, 3) := by decide +kernel
theorem dL_1082 : decode code 1082 = .ok (.if_icmp .eq 1217, 3) := by decide +kernel
theorem dL_1085 : decode code 1085 = .ok (.iconst 0, 1) := by decide +kernel
theorem dL_1086 : decode code 1086 = .ok (.ireturn, 1) := by decide +kernel
theorem dL_1087 : decode code 1087 = .ok (.aload_n 1, 1) := by decide +kernel
theorem dL_1088 : decode code 1088 = .ok (.aload_n 0, 1) := by decide +kernel
theorem dL_1089 : decode code 1089 = .ok (.iload_n 3, 1) := by decide +kernel
theorem dL_1090 : decode code 1090 = .ok (.iconst 1, 1) := by decide +kernel
theorem dL_1091 : decode code 1091 = .ok (.iadd, 1) := by decide +kernel
theorem dL_1092 : decode code 1092 = .ok (.iaload, 1) := by decide +kernel
theorem dL_1093 : decode code 1093 = .ok (.aload_n 0, 1) := by decide +kernel
theorem dL_1094 : decode code 1094 = .ok (.iload_n 3, 1) := by decide +kernel
theorem dL_1095 : decode code 1095 = .ok (.iconst 2, 1) := by decide +kernel
theorem dL_1096 : decode code 1096 = .ok (.iadd, 1) := by decide +kernel
theorem dL_1097 : decode code 1097 = .ok (.iaload, 1) := by decide +kernel
theorem dL_1098 : decode code 1098 = .ok (.aload_n 0, 1) := by decide +kernel
theorem dL_1099 : decode code 1099 = .ok (.iload_n 3, 1) := by decide +kernel
theorem dL_1100 : decode code 1100 = .ok (.iconst 3, 1) := by decide +kernel
theorem dL_1101 : decode code 1101 = .ok (.iadd, 1) := by decide +kernel
theorem dL_1102 : decode code 1102 = .ok (.iaload, 1) := by decide +kernel
theorem dL_1103 : decode code 1103 = .ok (.invokevirtual 103, 3) := by decide +kernel
theorem dL_1106 : decode code 1106 = .ok (.aload_n 2, 1) := by decide +kernel
theorem dL_1107 : decode code 1107 = .ok (.aload_n 0, 1) := by decide +kernel
theorem dL_1108 : decode code 1108 = .ok (.iload_n 3, 1) := by decide +kernel
theorem dL_1109 : decode code 1109 = .ok (.iconst 1, 1) := by decide +kernel
theorem dL_1110 : decode code 1110 = .ok (.iadd, 1) := by decide +kernel
theorem dL_1111 : decode code 1111 = .ok (.iaload, 1) := by decide +kernel
theorem dL_1112 : decode code 1112 = .ok (.aload_n 0, 1) := by decide +kernel
theorem dL_1113 : decode code 1113 = .ok (.iload_n 3, 1) := by decide +kernel
theorem dL_1114 : decode code 1114 = .ok (.iconst 2, 1) := by decide +kernel
theorem dL_1115 : decode code 1115 = .ok (.iadd, 1) := by decide +kernel
theorem dL_1116 : decode code 1116 = .ok (.iaload, 1) := by decide +kernel
theorem dL_1117 : decode code 1117 = .ok (.aload_n 0, 1) := by decide +kernel
theorem dL_1118 : decode code 1118 = .ok (.iload_n 3, 1) := by decide +kernel
theorem dL_1119 : decode code 1119 = .ok (.iconst 3, 1) := by decide +kernel
theorem dL_1120 : decode code 1120 = .ok (.iadd, 1) := by decide +kernel
theorem dL_1121 : decode code 1121 = .ok (.iaload, 1) := by decide +kernel
theorem dL_1122 : decode code 1122 = .ok (.invokevirtual 106, 3) := by decide +kernel
theorem dL_1125 : decode code 1125 = .ok (.if_icmp .eq 1174, 3) := by decide +kernel
theorem dL_1128 : decode code 1128 = .ok (.iconst 0, 1) := by decide +kernel
theorem dL_1129 : decode code 1129 = .ok (.ireturn, 1) := by decide +kernel
theorem dL_1130 : decode code 1130 = .ok (.aload_n 1, 1) := by decide +kernel
theorem dL_1131 : decode code 1131 = .ok (.aload_n 0, 1) := by decide +kernel
theorem dL_1132 : decode code 1132 = .ok (.iload_n 3, 1) := by decide +kernel
theorem dL_1133 : decode code 1133 = .ok (.iconst 1, 1) := by decide +kernel
theorem dL_1134 : decode code 1134 = .ok (.iadd, 1) := by decide +kernel
theorem dL_1135 : decode code 1135 = .ok (.iaload, 1) := by decide +kernel
theorem dL_1136 : decode code 1136 = .ok (.aload_n 0, 1) := by decide +kernel
theorem dL_1137 : decode code 1137 = .ok (.iload_n 3, 1) := by decide +kernel
theorem dL_1138 : decode code 1138 = .ok (.iconst 2, 1) := by decide +kernel
theorem dL_1139 : decode code 1139 = .ok (.iadd, 1) := by decide +kernel
theorem dL_1140 : decode code 1140 = .ok (.iaload, 1) := by decide +kernel
theorem dL_1141 : decode code 1141 = .ok (.aload_n 0, 1) := by decide +kernel
theorem dL_1142 : decode code 1142 = .ok (.iload_n 3, 1) := by decide +kernel
theorem dL_1143 : decode code 1143 = .ok (.iconst 3, 1) := by decide +kernel
theorem dL_1144 : decode code 1144 = .ok (.iadd, 1) := by decide +kernel
theorem dL_1145 : decode code 1145 = .ok (.iaload, 1) := by decide +kernel
theorem dL_1146 : decode code 1146 = .ok (.aload_n 0, 1) := by decide +kernel
theorem dL_1147 : decode code 1147 = .ok (.iload_n 3, 1) := by decide +kernel
theorem dL_1148 : decode code 1148 = .ok (.iconst 4, 1) := by decide +kernel
theorem dL_1149 : decode code 1149 = .ok (.iadd, 1) := by decide +kernel
theorem dL_1150 : decode code 1150 = .ok (.iaload, 1) := by decide +kernel
theorem dL_1151 : decode code 1151 = .ok (.invokevirtual 107, 3) := by decide +kernel
theorem dL_1154 : decode code 1154 = .ok (.aload_n 2, 1) := by decide +kernel
theorem dL_1155 : decode code 1155 = .ok (.aload_n 0, 1) := by decide +kernel
theorem dL_1156 : decode code 1156 = .ok (.iload_n 3, 1) := by decide +kernel
theorem dL_1157 : decode code 1157 = .ok (.iconst 1, 1) := by decide +kernel
theorem dL_1158 : decode code 1158 = .ok (.iadd, 1) := by decide +kernel
theorem dL_1159 : decode code 1159 = .ok (.iaload, 1) := by decide +kernel
theorem dL_1160 : decode code 1160 = .ok (.aload_n 0, 1) := by decide +kernel
theorem dL_1161 : decode code 1161 = .ok (.iload_n 3, 1) := by decide +kernel
theorem dL_1162 : decode code 1162 = .ok (.iconst 2, 1) := by decide +kernel
theorem dL_1163 : decode code 1163 = .ok (.iadd, 1) := by decide +kernel
theorem dL_1164 : decode code 1164 = .ok (.iaload, 1) := by decide +kernel
theorem dL_1165 : decode code 1165 = .ok (.aload_n 0, 1) := by decide +kernel
theorem dL_1166 : decode code 1166 = .ok (.iload_n 3, 1) := by decide +kernel
theorem dL_1167 : decode code 1167 = .ok (.iconst 3, 1) := by decide +kernel
theorem dL_1168 : decode code 1168 = .ok (.iadd, 1) := by decide +kernel
theorem dL_1169 : decode code 1169 = .ok (.iaload, 1) := by decide +kernel
theorem dL_1170 : decode code 1170 = .ok (.aload_n 0, 1) := by decide +kernel
theorem dL_1171 : decode code 1171 = .ok (.iload_n 3, 1) := by decide +kernel
theorem dL_1172 : decode code 1172 = .ok (.iconst 4, 1) := by decide +kernel
theorem dL_1173 : decode code 1173 = .ok (.iadd, 1) := by decide +kernel
theorem dL_1174 : decode code 1174 = .ok (.iaload, 1) := by decide +kernel
theorem dL_1175 : decode code 1175 = .ok (.invokevirtual 110, 3) := by decide +kernel
theorem dL_1178 : decode code 1178 = .ok (.if_icmp .eq 1121, 3) := by decide +kernel
theorem dL_1181 : decode code 1181 = .ok (.iconst 0, 1) := by decide +kernel
theorem dL_1182 : decode code 1182 = .ok (.ireturn, 1) := by decide +kernel
theorem dL_1183 : decode code 1183 = .ok (.aload_n 1, 1) := by decide +kernel
theorem dL_1184 : decode code 1184 = .ok (.aload_n 0, 1) := by decide +kernel
theorem dL_1185 : decode code 1185 = .ok (.iload_n 3, 1) := by decide +kernel
theorem dL_1186 : decode code 1186 = .ok (.iconst 1, 1) := by decide +kernel
theorem dL_1187 : decode code 1187 = .ok (.iadd, 1) := by decide +kernel
theorem dL_1188 : decode code 1188 = .ok (.iaload, 1) := by decide +kernel
theorem dL_1189 : decode code 1189 = .ok (.aload_n 0, 1) := by decide +kernel
theorem dL_1190 : decode code 1190 = .ok (.iload_n 3, 1) := by decide +kernel
theorem dL_1191 : decode code 1191 = .ok (.iconst 2, 1) := by decide +kernel
theorem dL_1192 : decode code 1192 = .ok (.iadd, 1) := by decide +kernel
theorem dL_1193 : decode code 1193 = .ok (.iaload, 1) := by decide +kernel
theorem dL_1194 : decode code 1194 = .ok (.aload_n 0, 1) := by decide +kernel
theorem dL_1195 : decode code 1195 = .ok (.iload_n 3, 1) := by decide +kernel
theorem dL_1196 : decode code 1196 = .ok (.iconst 3, 1) := by decide +kernel
theorem dL_1197 : decode code 1197 = .ok (.iadd, 1) := by decide +kernel
theorem dL_1198 : decode code 1198 = .ok (.iaload, 1) := by decide +kernel
theorem dL_1199 : decode code 1199 = .ok (.aload_n 0, 1) := by decide +kernel
theorem dL_1200 : decode code 1200 = .ok (.iload_n 3, 1) := by decide +kernel
theorem dL_1201 : decode code 1201 = .ok (.iconst 4, 1) := by decide +kernel
theorem dL_1202 : decode code 1202 = .ok (.iadd, 1) := by decide +kernel
theorem dL_1203 : decode code 1203 = .ok (.iaload, 1) := by decide +kernel
theorem dL_1204 : decode code 1204 = .ok (.aload_n 0, 1) := by decide +kernel
theorem dL_1205 : decode code 1205 = .ok (.iload_n 3, 1) := by decide +kernel
theorem dL_1206 : decode code 1206 = .ok (.iconst 5, 1) := by decide +kernel
theorem dL_1207 : decode code 1207 = .ok (.iadd, 1) := by decide +kernel
theorem dL_1208 : decode code 1208 = .ok (.iaload, 1) := by decide +kernel
theorem dL_1209 : decode code 1209 = .ok (.invokevirtual 111, 3) := by decide +kernel
theorem dL_1212 : decode code 1212 = .ok (.aload_n 2, 1) := by decide +kernel
theorem dL_1213 : decode code 1213 = .ok (.aload_n 0, 1) := by decide +kernel
theorem dL_1214 : decode code 1214 = .ok (.iload_n 3, 1) := by decide +kernel
theorem dL_1215 : decode code 1215 = .ok (.iconst 1, 1) := by decide +kernel
theorem dL_1216 : decode code 1216 = .ok (.iadd, 1) := by decide +kernel
theorem dL_1217 : decode code 1217 = .ok (.iaload, 1) := by decide +kernel
theorem dL_1218 : decode code 1218 = .ok (.aload_n 0, 1) := by decide +kernel
theorem dL_1219 : decode code 1219 = .ok (.iload_n 3, 1) := by decide +kernel
theorem dL_1220 : decode code 1220 = .ok (.iconst 2, 1) := by decide +kernel
theorem dL_1221 : decode code 1221 = .ok (.iadd, 1) := by decide +kernel
theorem dL_1222 : decode code 1222 = .ok (.iaload, 1) := by decide +kernel
theorem dL_1223 : decode code 1223 = .ok (.aload_n 0, 1) := by decide +kernel
theorem dL_1224 : decode code 1224 = .ok (.iload_n 3, 1) := by decide +kernel
theorem dL_1225 : decode code 1225 = .ok (.iconst 3, 1) := by decide +kernel
theorem dL_1226 : decode code 1226 = .ok (.iadd, 1) := by decide +kernel
theorem dL_1227 : decode code 1227 = .ok (.iaload, 1) := by decide +kernel
theorem dL_1228 : decode code 1228 = .ok (.aload_n 0, 1) := by decide +kernel
theorem dL_1229 : decode code 1229 = .ok (.iload_n 3, 1) := by decide +kernel
theorem dL_1230 : decode code 1230 = .ok (.iconst 4, 1) := by decide +kernel
theorem dL_1231 : decode code 1231 = .ok (.iadd, 1) := by decide +kernel
theorem dL_1232 : decode code 1232 = .ok (.iaload, 1) := by decide +kernel
theorem dL_1233 : decode code 1233 = .ok (.aload_n 0, 1) := by decide +kernel
theorem dL_1234 : decode code 1234 = .ok (.iload_n 3, 1) := by decide +kernel
theorem dL_1235 : decode code 1235 = .ok (.iconst 5, 1) := by decide +kernel
theorem dL_1236 : decode code 1236 = .ok (.iadd, 1) := by decide +kernel
theorem dL_1237 : decode code 1237 = .ok (.iaload, 1) := by decide +kernel
theorem dL_1238 : decode code 1238 = .ok (.invokevirtual 114, 3) := by decide +kernel
theorem dL_1241 : decode code 1241 = .ok (.if_icmp .eq 1058, 3) := by decide +kernel
theorem dL_1244 : decode code 1244 = .ok (.iconst 0, 1) := by decide +kernel
theorem dL_1245 : decode code 1245 = .ok (.ireturn, 1) := by decide +kernel
theorem dL_1246 : decode code 1246 = .ok (.aload_n 1, 1) := by decide +kernel
theorem dL_1247 : decode code 1247 = .ok (.aload_n 0, 1) := by decide +kernel
theorem dL_1248 : decode code 1248 = .ok (.iload_n 3, 1) := by decide +kernel
theorem dL_1249 : decode code 1249 = .ok (.iconst 1, 1) := by decide +kernel
