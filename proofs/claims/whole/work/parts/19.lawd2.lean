theorem d_W_law_773 : decode code 773 = .ok (.goto 674, 3) := by decide +kernel
theorem d_W_law_776 : decode code 776 = .ok (.aload_n 1, 1) := by decide +kernel
theorem d_W_law_777 : decode code 777 = .ok (.aload_n 0, 1) := by decide +kernel
theorem d_W_law_778 : decode code 778 = .ok (.iload 4, 2) := by decide +kernel
theorem d_W_law_780 : decode code 780 = .ok (.iconst 1, 1) := by decide +kernel
theorem d_W_law_781 : decode code 781 = .ok (.iadd, 1) := by decide +kernel
theorem d_W_law_782 : decode code 782 = .ok (.iaload, 1) := by decide +kernel
theorem d_W_law_783 : decode code 783 = .ok (.aload_n 3, 1) := by decide +kernel
theorem d_W_law_784 : decode code 784 = .ok (.invokestatic 119, 3) := by decide +kernel
theorem d_W_law_787 : decode code 787 = .ok (.istore 5, 2) := by decide +kernel
theorem d_W_law_789 : decode code 789 = .ok (.aload_n 2, 1) := by decide +kernel
theorem d_W_law_790 : decode code 790 = .ok (.aload_n 0, 1) := by decide +kernel
theorem d_W_law_791 : decode code 791 = .ok (.iload 4, 2) := by decide +kernel
theorem d_W_law_793 : decode code 793 = .ok (.iconst 1, 1) := by decide +kernel
theorem d_W_law_794 : decode code 794 = .ok (.iadd, 1) := by decide +kernel
theorem d_W_law_795 : decode code 795 = .ok (.iaload, 1) := by decide +kernel
theorem d_W_law_796 : decode code 796 = .ok (.invokevirtual 121, 3) := by decide +kernel
theorem d_W_law_799 : decode code 799 = .ok (.istore 6, 2) := by decide +kernel
theorem d_W_law_801 : decode code 801 = .ok (.aload_n 2, 1) := by decide +kernel
theorem d_W_law_802 : decode code 802 = .ok (.invokevirtual 85, 3) := by decide +kernel
theorem d_W_law_805 : decode code 805 = .ok (.iload 5, 2) := by decide +kernel
theorem d_W_law_807 : decode code 807 = .ok (.if_icmp .eq 5, 3) := by decide +kernel
theorem d_W_law_810 : decode code 810 = .ok (.iconst 0, 1) := by decide +kernel
theorem d_W_law_811 : decode code 811 = .ok (.ireturn, 1) := by decide +kernel
theorem d_W_law_812 : decode code 812 = .ok (.iload 5, 2) := by decide +kernel
theorem d_W_law_814 : decode code 814 = .ok (.ifCond .ne 15, 3) := by decide +kernel
theorem d_W_law_817 : decode code 817 = .ok (.aload_n 3, 1) := by decide +kernel
theorem d_W_law_818 : decode code 818 = .ok (.iconst 0, 1) := by decide +kernel
theorem d_W_law_819 : decode code 819 = .ok (.laload, 1) := by decide +kernel
theorem d_W_law_820 : decode code 820 = .ok (.iload 6, 2) := by decide +kernel
theorem d_W_law_822 : decode code 822 = .ok (.i2l, 1) := by decide +kernel
theorem d_W_law_823 : decode code 823 = .ok (.lcmp, 1) := by decide +kernel
theorem d_W_law_824 : decode code 824 = .ok (.ifCond .eq 5, 3) := by decide +kernel
theorem d_W_law_827 : decode code 827 = .ok (.iconst 0, 1) := by decide +kernel
theorem d_W_law_828 : decode code 828 = .ok (.ireturn, 1) := by decide +kernel
theorem d_W_law_829 : decode code 829 = .ok (.goto 618, 3) := by decide +kernel
theorem d_W_law_832 : decode code 832 = .ok (.aload_n 1, 1) := by decide +kernel
theorem d_W_law_833 : decode code 833 = .ok (.aload_n 0, 1) := by decide +kernel
theorem d_W_law_834 : decode code 834 = .ok (.iload 4, 2) := by decide +kernel
theorem d_W_law_836 : decode code 836 = .ok (.iconst 1, 1) := by decide +kernel
theorem d_W_law_837 : decode code 837 = .ok (.iadd, 1) := by decide +kernel
theorem d_W_law_838 : decode code 838 = .ok (.iaload, 1) := by decide +kernel
theorem d_W_law_839 : decode code 839 = .ok (.aload_n 3, 1) := by decide +kernel
theorem d_W_law_840 : decode code 840 = .ok (.invokestatic 122, 3) := by decide +kernel
theorem d_W_law_843 : decode code 843 = .ok (.istore 5, 2) := by decide +kernel
theorem d_W_law_845 : decode code 845 = .ok (.aload_n 2, 1) := by decide +kernel
theorem d_W_law_846 : decode code 846 = .ok (.aload_n 0, 1) := by decide +kernel
theorem d_W_law_847 : decode code 847 = .ok (.iload 4, 2) := by decide +kernel
theorem d_W_law_849 : decode code 849 = .ok (.iconst 1, 1) := by decide +kernel
theorem d_W_law_850 : decode code 850 = .ok (.iadd, 1) := by decide +kernel
theorem d_W_law_851 : decode code 851 = .ok (.iaload, 1) := by decide +kernel
theorem d_W_law_852 : decode code 852 = .ok (.invokevirtual 124, 3) := by decide +kernel
theorem d_W_law_855 : decode code 855 = .ok (.istore 6, 2) := by decide +kernel
theorem d_W_law_857 : decode code 857 = .ok (.aload_n 2, 1) := by decide +kernel
theorem d_W_law_858 : decode code 858 = .ok (.invokevirtual 85, 3) := by decide +kernel
theorem d_W_law_861 : decode code 861 = .ok (.iload 5, 2) := by decide +kernel
theorem d_W_law_863 : decode code 863 = .ok (.if_icmp .eq 5, 3) := by decide +kernel
theorem d_W_law_866 : decode code 866 = .ok (.iconst 0, 1) := by decide +kernel
theorem d_W_law_867 : decode code 867 = .ok (.ireturn, 1) := by decide +kernel
theorem d_W_law_868 : decode code 868 = .ok (.iload 5, 2) := by decide +kernel
theorem d_W_law_870 : decode code 870 = .ok (.ifCond .ne 15, 3) := by decide +kernel
theorem d_W_law_873 : decode code 873 = .ok (.aload_n 3, 1) := by decide +kernel
theorem d_W_law_874 : decode code 874 = .ok (.iconst 0, 1) := by decide +kernel
theorem d_W_law_875 : decode code 875 = .ok (.laload, 1) := by decide +kernel
theorem d_W_law_876 : decode code 876 = .ok (.iload 6, 2) := by decide +kernel
theorem d_W_law_878 : decode code 878 = .ok (.i2l, 1) := by decide +kernel
theorem d_W_law_879 : decode code 879 = .ok (.lcmp, 1) := by decide +kernel
theorem d_W_law_880 : decode code 880 = .ok (.ifCond .eq 5, 3) := by decide +kernel
theorem d_W_law_883 : decode code 883 = .ok (.iconst 0, 1) := by decide +kernel
theorem d_W_law_884 : decode code 884 = .ok (.ireturn, 1) := by decide +kernel
theorem d_W_law_885 : decode code 885 = .ok (.goto 562, 3) := by decide +kernel
theorem d_W_law_888 : decode code 888 = .ok (.aload_n 1, 1) := by decide +kernel
theorem d_W_law_889 : decode code 889 = .ok (.aload_n 0, 1) := by decide +kernel
theorem d_W_law_890 : decode code 890 = .ok (.iload 4, 2) := by decide +kernel
theorem d_W_law_892 : decode code 892 = .ok (.iconst 1, 1) := by decide +kernel
theorem d_W_law_893 : decode code 893 = .ok (.iadd, 1) := by decide +kernel
theorem d_W_law_894 : decode code 894 = .ok (.iaload, 1) := by decide +kernel
theorem d_W_law_895 : decode code 895 = .ok (.aload_n 3, 1) := by decide +kernel
theorem d_W_law_896 : decode code 896 = .ok (.invokestatic 125, 3) := by decide +kernel
theorem d_W_law_899 : decode code 899 = .ok (.istore 5, 2) := by decide +kernel
theorem d_W_law_901 : decode code 901 = .ok (.aload_n 2, 1) := by decide +kernel
theorem d_W_law_902 : decode code 902 = .ok (.aload_n 0, 1) := by decide +kernel
theorem d_W_law_903 : decode code 903 = .ok (.iload 4, 2) := by decide +kernel
theorem d_W_law_905 : decode code 905 = .ok (.iconst 1, 1) := by decide +kernel
theorem d_W_law_906 : decode code 906 = .ok (.iadd, 1) := by decide +kernel
theorem d_W_law_907 : decode code 907 = .ok (.iaload, 1) := by decide +kernel
theorem d_W_law_908 : decode code 908 = .ok (.invokevirtual 127, 3) := by decide +kernel
theorem d_W_law_911 : decode code 911 = .ok (.istore 6, 2) := by decide +kernel
theorem d_W_law_913 : decode code 913 = .ok (.aload_n 2, 1) := by decide +kernel
theorem d_W_law_914 : decode code 914 = .ok (.invokevirtual 85, 3) := by decide +kernel
theorem d_W_law_917 : decode code 917 = .ok (.iload 5, 2) := by decide +kernel
theorem d_W_law_919 : decode code 919 = .ok (.if_icmp .eq 5, 3) := by decide +kernel
theorem d_W_law_922 : decode code 922 = .ok (.iconst 0, 1) := by decide +kernel
theorem d_W_law_923 : decode code 923 = .ok (.ireturn, 1) := by decide +kernel
theorem d_W_law_924 : decode code 924 = .ok (.iload 5, 2) := by decide +kernel
theorem d_W_law_926 : decode code 926 = .ok (.ifCond .ne 15, 3) := by decide +kernel
theorem d_W_law_929 : decode code 929 = .ok (.aload_n 3, 1) := by decide +kernel
theorem d_W_law_930 : decode code 930 = .ok (.iconst 0, 1) := by decide +kernel
theorem d_W_law_931 : decode code 931 = .ok (.laload, 1) := by decide +kernel
theorem d_W_law_932 : decode code 932 = .ok (.iload 6, 2) := by decide +kernel
theorem d_W_law_934 : decode code 934 = .ok (.i2l, 1) := by decide +kernel
theorem d_W_law_935 : decode code 935 = .ok (.lcmp, 1) := by decide +kernel
theorem d_W_law_936 : decode code 936 = .ok (.ifCond .eq 5, 3) := by decide +kernel
theorem d_W_law_939 : decode code 939 = .ok (.iconst 0, 1) := by decide +kernel
theorem d_W_law_940 : decode code 940 = .ok (.ireturn, 1) := by decide +kernel
theorem d_W_law_941 : decode code 941 = .ok (.goto 506, 3) := by decide +kernel
theorem d_W_law_944 : decode code 944 = .ok (.aload_n 1, 1) := by decide +kernel
theorem d_W_law_945 : decode code 945 = .ok (.aload_n 0, 1) := by decide +kernel
theorem d_W_law_946 : decode code 946 = .ok (.iload 4, 2) := by decide +kernel
theorem d_W_law_948 : decode code 948 = .ok (.iconst 1, 1) := by decide +kernel
theorem d_W_law_949 : decode code 949 = .ok (.iadd, 1) := by decide +kernel
theorem d_W_law_950 : decode code 950 = .ok (.iaload, 1) := by decide +kernel
theorem d_W_law_951 : decode code 951 = .ok (.aload_n 0, 1) := by decide +kernel
theorem d_W_law_952 : decode code 952 = .ok (.iload 4, 2) := by decide +kernel
theorem d_W_law_954 : decode code 954 = .ok (.iconst 2, 1) := by decide +kernel
theorem d_W_law_955 : decode code 955 = .ok (.iadd, 1) := by decide +kernel
theorem d_W_law_956 : decode code 956 = .ok (.iaload, 1) := by decide +kernel
theorem d_W_law_957 : decode code 957 = .ok (.aload_n 3, 1) := by decide +kernel
theorem d_W_law_958 : decode code 958 = .ok (.invokestatic 128, 3) := by decide +kernel
theorem d_W_law_961 : decode code 961 = .ok (.istore 5, 2) := by decide +kernel
theorem d_W_law_963 : decode code 963 = .ok (.aload_n 2, 1) := by decide +kernel
theorem d_W_law_964 : decode code 964 = .ok (.aload_n 0, 1) := by decide +kernel
theorem d_W_law_965 : decode code 965 = .ok (.iload 4, 2) := by decide +kernel
theorem d_W_law_967 : decode code 967 = .ok (.iconst 1, 1) := by decide +kernel
theorem d_W_law_968 : decode code 968 = .ok (.iadd, 1) := by decide +kernel
theorem d_W_law_969 : decode code 969 = .ok (.iaload, 1) := by decide +kernel
theorem d_W_law_970 : decode code 970 = .ok (.aload_n 0, 1) := by decide +kernel
theorem d_W_law_971 : decode code 971 = .ok (.iload 4, 2) := by decide +kernel
theorem d_W_law_973 : decode code 973 = .ok (.iconst 2, 1) := by decide +kernel
theorem d_W_law_974 : decode code 974 = .ok (.iadd, 1) := by decide +kernel
theorem d_W_law_975 : decode code 975 = .ok (.iaload, 1) := by decide +kernel
theorem d_W_law_976 : decode code 976 = .ok (.invokevirtual 130, 3) := by decide +kernel
theorem d_W_law_979 : decode code 979 = .ok (.istore 6, 2) := by decide +kernel
theorem d_W_law_981 : decode code 981 = .ok (.aload_n 2, 1) := by decide +kernel
theorem d_W_law_982 : decode code 982 = .ok (.invokevirtual 85, 3) := by decide +kernel
theorem d_W_law_985 : decode code 985 = .ok (.iload 5, 2) := by decide +kernel
theorem d_W_law_987 : decode code 987 = .ok (.if_icmp .eq 5, 3) := by decide +kernel
theorem d_W_law_990 : decode code 990 = .ok (.iconst 0, 1) := by decide +kernel
theorem d_W_law_991 : decode code 991 = .ok (.ireturn, 1) := by decide +kernel
theorem d_W_law_992 : decode code 992 = .ok (.iload 5, 2) := by decide +kernel
theorem d_W_law_994 : decode code 994 = .ok (.ifCond .ne 15, 3) := by decide +kernel
theorem d_W_law_997 : decode code 997 = .ok (.aload_n 3, 1) := by decide +kernel
theorem d_W_law_998 : decode code 998 = .ok (.iconst 0, 1) := by decide +kernel
theorem d_W_law_999 : decode code 999 = .ok (.laload, 1) := by decide +kernel
theorem d_W_law_1000 : decode code 1000 = .ok (.iload 6, 2) := by decide +kernel
theorem d_W_law_1002 : decode code 1002 = .ok (.i2l, 1) := by decide +kernel
theorem d_W_law_1003 : decode code 1003 = .ok (.lcmp, 1) := by decide +kernel
theorem d_W_law_1004 : decode code 1004 = .ok (.ifCond .eq 5, 3) := by decide +kernel
theorem d_W_law_1007 : decode code 1007 = .ok (.iconst 0, 1) := by decide +kernel
theorem d_W_law_1008 : decode code 1008 = .ok (.ireturn, 1) := by decide +kernel
theorem d_W_law_1009 : decode code 1009 = .ok (.goto 438, 3) := by decide +kernel
theorem d_W_law_1012 : decode code 1012 = .ok (.aload_n 1, 1) := by decide +kernel
theorem d_W_law_1013 : decode code 1013 = .ok (.invokevirtual 131, 3) := by decide +kernel
theorem d_W_law_1016 : decode code 1016 = .ok (.aload_n 2, 1) := by decide +kernel
theorem d_W_law_1017 : decode code 1017 = .ok (.invokevirtual 134, 3) := by decide +kernel
theorem d_W_law_1020 : decode code 1020 = .ok (.if_icmp .eq 427, 3) := by decide +kernel
theorem d_W_law_1023 : decode code 1023 = .ok (.iconst 0, 1) := by decide +kernel
theorem d_W_law_1024 : decode code 1024 = .ok (.ireturn, 1) := by decide +kernel
theorem d_W_law_1025 : decode code 1025 = .ok (.aload_n 1, 1) := by decide +kernel
theorem d_W_law_1026 : decode code 1026 = .ok (.aload_n 0, 1) := by decide +kernel
theorem d_W_law_1027 : decode code 1027 = .ok (.iload 4, 2) := by decide +kernel
theorem d_W_law_1029 : decode code 1029 = .ok (.iconst 1, 1) := by decide +kernel
theorem d_W_law_1030 : decode code 1030 = .ok (.iadd, 1) := by decide +kernel
theorem d_W_law_1031 : decode code 1031 = .ok (.iaload, 1) := by decide +kernel
theorem d_W_law_1032 : decode code 1032 = .ok (.aload_n 0, 1) := by decide +kernel
theorem d_W_law_1033 : decode code 1033 = .ok (.iload 4, 2) := by decide +kernel
theorem d_W_law_1035 : decode code 1035 = .ok (.iconst 2, 1) := by decide +kernel
theorem d_W_law_1036 : decode code 1036 = .ok (.iadd, 1) := by decide +kernel
theorem d_W_law_1037 : decode code 1037 = .ok (.iaload, 1) := by decide +kernel
theorem d_W_law_1038 : decode code 1038 = .ok (.aload_n 3, 1) := by decide +kernel
theorem d_W_law_1039 : decode code 1039 = .ok (.invokestatic 135, 3) := by decide +kernel
theorem d_W_law_1042 : decode code 1042 = .ok (.istore 5, 2) := by decide +kernel
theorem d_W_law_1044 : decode code 1044 = .ok (.aload_n 2, 1) := by decide +kernel
theorem d_W_law_1045 : decode code 1045 = .ok (.aload_n 0, 1) := by decide +kernel
theorem d_W_law_1046 : decode code 1046 = .ok (.iload 4, 2) := by decide +kernel
theorem d_W_law_1048 : decode code 1048 = .ok (.iconst 1, 1) := by decide +kernel
theorem d_W_law_1049 : decode code 1049 = .ok (.iadd, 1) := by decide +kernel
theorem d_W_law_1050 : decode code 1050 = .ok (.iaload, 1) := by decide +kernel
theorem d_W_law_1051 : decode code 1051 = .ok (.aload_n 0, 1) := by decide +kernel
theorem d_W_law_1052 : decode code 1052 = .ok (.iload 4, 2) := by decide +kernel
theorem d_W_law_1054 : decode code 1054 = .ok (.iconst 2, 1) := by decide +kernel
theorem d_W_law_1055 : decode code 1055 = .ok (.iadd, 1) := by decide +kernel
theorem d_W_law_1056 : decode code 1056 = .ok (.iaload, 1) := by decide +kernel
theorem d_W_law_1057 : decode code 1057 = .ok (.invokevirtual 137, 3) := by decide +kernel
theorem d_W_law_1060 : decode code 1060 = .ok (.istore 6, 2) := by decide +kernel
theorem d_W_law_1062 : decode code 1062 = .ok (.aload_n 2, 1) := by decide +kernel
theorem d_W_law_1063 : decode code 1063 = .ok (.invokevirtual 85, 3) := by decide +kernel
theorem d_W_law_1066 : decode code 1066 = .ok (.iload 5, 2) := by decide +kernel
theorem d_W_law_1068 : decode code 1068 = .ok (.if_icmp .eq 5, 3) := by decide +kernel
theorem d_W_law_1071 : decode code 1071 = .ok (.iconst 0, 1) := by decide +kernel
theorem d_W_law_1072 : decode code 1072 = .ok (.ireturn, 1) := by decide +kernel
theorem d_W_law_1073 : decode code 1073 = .ok (.iload 5, 2) := by decide +kernel
theorem d_W_law_1075 : decode code 1075 = .ok (.ifCond .ne 15, 3) := by decide +kernel
theorem d_W_law_1078 : decode code 1078 = .ok (.aload_n 3, 1) := by decide +kernel
theorem d_W_law_1079 : decode code 1079 = .ok (.iconst 0, 1) := by decide +kernel
theorem d_W_law_1080 : decode code 1080 = .ok (.laload, 1) := by decide +kernel
theorem d_W_law_1081 : decode code 1081 = .ok (.iload 6, 2) := by decide +kernel
theorem d_W_law_1083 : decode code 1083 = .ok (.i2l, 1) := by decide +kernel
theorem d_W_law_1084 : decode code 1084 = .ok (.lcmp, 1) := by decide +kernel
theorem d_W_law_1085 : decode code 1085 = .ok (.ifCond .eq 5, 3) := by decide +kernel
theorem d_W_law_1088 : decode code 1088 = .ok (.iconst 0, 1) := by decide +kernel
theorem d_W_law_1089 : decode code 1089 = .ok (.ireturn, 1) := by decide +kernel
theorem d_W_law_1090 : decode code 1090 = .ok (.goto 357, 3) := by decide +kernel
theorem d_W_law_1093 : decode code 1093 = .ok (.aload_n 1, 1) := by decide +kernel
theorem d_W_law_1094 : decode code 1094 = .ok (.aload_n 0, 1) := by decide +kernel
theorem d_W_law_1095 : decode code 1095 = .ok (.iload 4, 2) := by decide +kernel
theorem d_W_law_1097 : decode code 1097 = .ok (.iconst 1, 1) := by decide +kernel
theorem d_W_law_1098 : decode code 1098 = .ok (.iadd, 1) := by decide +kernel
theorem d_W_law_1099 : decode code 1099 = .ok (.iaload, 1) := by decide +kernel
theorem d_W_law_1100 : decode code 1100 = .ok (.aload_n 0, 1) := by decide +kernel
theorem d_W_law_1101 : decode code 1101 = .ok (.iload 4, 2) := by decide +kernel
theorem d_W_law_1103 : decode code 1103 = .ok (.iconst 2, 1) := by decide +kernel
theorem d_W_law_1104 : decode code 1104 = .ok (.iadd, 1) := by decide +kernel
theorem d_W_law_1105 : decode code 1105 = .ok (.iaload, 1) := by decide +kernel
theorem d_W_law_1106 : decode code 1106 = .ok (.aload_n 0, 1) := by decide +kernel
theorem d_W_law_1107 : decode code 1107 = .ok (.iload 4, 2) := by decide +kernel
theorem d_W_law_1109 : decode code 1109 = .ok (.iconst 3, 1) := by decide +kernel
theorem d_W_law_1110 : decode code 1110 = .ok (.iadd, 1) := by decide +kernel
theorem d_W_law_1111 : decode code 1111 = .ok (.iaload, 1) := by decide +kernel
theorem d_W_law_1112 : decode code 1112 = .ok (.i2l, 1) := by decide +kernel
theorem d_W_law_1113 : decode code 1113 = .ok (.bipush 32, 2) := by decide +kernel
theorem d_W_law_1115 : decode code 1115 = .ok (.lshl, 1) := by decide +kernel
theorem d_W_law_1116 : decode code 1116 = .ok (.aload_n 0, 1) := by decide +kernel
theorem d_W_law_1117 : decode code 1117 = .ok (.iload 4, 2) := by decide +kernel
theorem d_W_law_1119 : decode code 1119 = .ok (.iconst 4, 1) := by decide +kernel
theorem d_W_law_1120 : decode code 1120 = .ok (.iadd, 1) := by decide +kernel
theorem d_W_law_1121 : decode code 1121 = .ok (.iaload, 1) := by decide +kernel
theorem d_W_law_1122 : decode code 1122 = .ok (.i2l, 1) := by decide +kernel
theorem d_W_law_1123 : decode code 1123 = .ok (.ldc2_w 93, 3) := by decide +kernel
theorem d_W_law_1126 : decode code 1126 = .ok (.land, 1) := by decide +kernel
theorem d_W_law_1127 : decode code 1127 = .ok (.lor, 1) := by decide +kernel
theorem d_W_law_1128 : decode code 1128 = .ok (.aload_n 3, 1) := by decide +kernel
theorem d_W_law_1129 : decode code 1129 = .ok (.invokestatic 138, 3) := by decide +kernel
theorem d_W_law_1132 : decode code 1132 = .ok (.istore 5, 2) := by decide +kernel
theorem d_W_law_1134 : decode code 1134 = .ok (.aload_n 2, 1) := by decide +kernel
theorem d_W_law_1135 : decode code 1135 = .ok (.aload_n 0, 1) := by decide +kernel
theorem d_W_law_1136 : decode code 1136 = .ok (.iload 4, 2) := by decide +kernel
theorem d_W_law_1138 : decode code 1138 = .ok (.iconst 1, 1) := by decide +kernel
theorem d_W_law_1139 : decode code 1139 = .ok (.iadd, 1) := by decide +kernel
theorem d_W_law_1140 : decode code 1140 = .ok (.iaload, 1) := by decide +kernel
theorem d_W_law_1141 : decode code 1141 = .ok (.aload_n 0, 1) := by decide +kernel
theorem d_W_law_1142 : decode code 1142 = .ok (.iload 4, 2) := by decide +kernel
theorem d_W_law_1144 : decode code 1144 = .ok (.iconst 2, 1) := by decide +kernel
theorem d_W_law_1145 : decode code 1145 = .ok (.iadd, 1) := by decide +kernel
theorem d_W_law_1146 : decode code 1146 = .ok (.iaload, 1) := by decide +kernel
theorem d_W_law_1147 : decode code 1147 = .ok (.aload_n 0, 1) := by decide +kernel
theorem d_W_law_1148 : decode code 1148 = .ok (.iload 4, 2) := by decide +kernel
theorem d_W_law_1150 : decode code 1150 = .ok (.iconst 3, 1) := by decide +kernel
theorem d_W_law_1151 : decode code 1151 = .ok (.iadd, 1) := by decide +kernel
theorem d_W_law_1152 : decode code 1152 = .ok (.iaload, 1) := by decide +kernel
theorem d_W_law_1153 : decode code 1153 = .ok (.i2l, 1) := by decide +kernel
theorem d_W_law_1154 : decode code 1154 = .ok (.bipush 32, 2) := by decide +kernel
theorem d_W_law_1156 : decode code 1156 = .ok (.lshl, 1) := by decide +kernel
theorem d_W_law_1157 : decode code 1157 = .ok (.aload_n 0, 1) := by decide +kernel
theorem d_W_law_1158 : decode code 1158 = .ok (.iload 4, 2) := by decide +kernel
theorem d_W_law_1160 : decode code 1160 = .ok (.iconst 4, 1) := by decide +kernel
theorem d_W_law_1161 : decode code 1161 = .ok (.iadd, 1) := by decide +kernel
theorem d_W_law_1162 : decode code 1162 = .ok (.iaload, 1) := by decide +kernel
theorem d_W_law_1163 : decode code 1163 = .ok (.i2l, 1) := by decide +kernel
theorem d_W_law_1164 : decode code 1164 = .ok (.ldc2_w 93, 3) := by decide +kernel
theorem d_W_law_1167 : decode code 1167 = .ok (.land, 1) := by decide +kernel
theorem d_W_law_1168 : decode code 1168 = .ok (.lor, 1) := by decide +kernel
theorem d_W_law_1169 : decode code 1169 = .ok (.invokevirtual 141, 3) := by decide +kernel
theorem d_W_law_1172 : decode code 1172 = .ok (.istore 6, 2) := by decide +kernel
theorem d_W_law_1174 : decode code 1174 = .ok (.aload_n 2, 1) := by decide +kernel
theorem d_W_law_1175 : decode code 1175 = .ok (.invokevirtual 85, 3) := by decide +kernel
theorem d_W_law_1178 : decode code 1178 = .ok (.iload 5, 2) := by decide +kernel
theorem d_W_law_1180 : decode code 1180 = .ok (.if_icmp .eq 5, 3) := by decide +kernel
theorem d_W_law_1183 : decode code 1183 = .ok (.iconst 0, 1) := by decide +kernel
theorem d_W_law_1184 : decode code 1184 = .ok (.ireturn, 1) := by decide +kernel
theorem d_W_law_1185 : decode code 1185 = .ok (.iload 5, 2) := by decide +kernel
theorem d_W_law_1187 : decode code 1187 = .ok (.ifCond .ne 15, 3) := by decide +kernel
theorem d_W_law_1190 : decode code 1190 = .ok (.aload_n 3, 1) := by decide +kernel
theorem d_W_law_1191 : decode code 1191 = .ok (.iconst 0, 1) := by decide +kernel
theorem d_W_law_1192 : decode code 1192 = .ok (.laload, 1) := by decide +kernel
theorem d_W_law_1193 : decode code 1193 = .ok (.iload 6, 2) := by decide +kernel
theorem d_W_law_1195 : decode code 1195 = .ok (.i2l, 1) := by decide +kernel
theorem d_W_law_1196 : decode code 1196 = .ok (.lcmp, 1) := by decide +kernel
theorem d_W_law_1197 : decode code 1197 = .ok (.ifCond .eq 5, 3) := by decide +kernel
theorem d_W_law_1200 : decode code 1200 = .ok (.iconst 0, 1) := by decide +kernel
theorem d_W_law_1201 : decode code 1201 = .ok (.ireturn, 1) := by decide +kernel
theorem d_W_law_1202 : decode code 1202 = .ok (.goto 245, 3) := by decide +kernel
theorem d_W_law_1205 : decode code 1205 = .ok (.aload_n 1, 1) := by decide +kernel
theorem d_W_law_1206 : decode code 1206 = .ok (.aload_n 0, 1) := by decide +kernel
theorem d_W_law_1207 : decode code 1207 = .ok (.iload 4, 2) := by decide +kernel
theorem d_W_law_1209 : decode code 1209 = .ok (.iconst 1, 1) := by decide +kernel
theorem d_W_law_1210 : decode code 1210 = .ok (.iadd, 1) := by decide +kernel
theorem d_W_law_1211 : decode code 1211 = .ok (.iaload, 1) := by decide +kernel
theorem d_W_law_1212 : decode code 1212 = .ok (.invokevirtual 142, 3) := by decide +kernel
theorem d_W_law_1215 : decode code 1215 = .ok (.aload_n 2, 1) := by decide +kernel
theorem d_W_law_1216 : decode code 1216 = .ok (.aload_n 0, 1) := by decide +kernel
theorem d_W_law_1217 : decode code 1217 = .ok (.iload 4, 2) := by decide +kernel
theorem d_W_law_1219 : decode code 1219 = .ok (.iconst 1, 1) := by decide +kernel
theorem d_W_law_1220 : decode code 1220 = .ok (.iadd, 1) := by decide +kernel
theorem d_W_law_1221 : decode code 1221 = .ok (.iaload, 1) := by decide +kernel
theorem d_W_law_1222 : decode code 1222 = .ok (.invokevirtual 145, 3) := by decide +kernel
theorem d_W_law_1225 : decode code 1225 = .ok (.if_icmp .eq 222, 3) := by decide +kernel
theorem d_W_law_1228 : decode code 1228 = .ok (.iconst 0, 1) := by decide +kernel
theorem d_W_law_1229 : decode code 1229 = .ok (.ireturn, 1) := by decide +kernel
theorem d_W_law_1230 : decode code 1230 = .ok (.aload_n 1, 1) := by decide +kernel
theorem d_W_law_1231 : decode code 1231 = .ok (.aload_n 0, 1) := by decide +kernel
theorem d_W_law_1232 : decode code 1232 = .ok (.iload 4, 2) := by decide +kernel
theorem d_W_law_1234 : decode code 1234 = .ok (.iconst 1, 1) := by decide +kernel
theorem d_W_law_1235 : decode code 1235 = .ok (.iadd, 1) := by decide +kernel
theorem d_W_law_1236 : decode code 1236 = .ok (.iaload, 1) := by decide +kernel
theorem d_W_law_1237 : decode code 1237 = .ok (.aload_n 0, 1) := by decide +kernel
theorem d_W_law_1238 : decode code 1238 = .ok (.iload 4, 2) := by decide +kernel
theorem d_W_law_1240 : decode code 1240 = .ok (.iconst 2, 1) := by decide +kernel
theorem d_W_law_1241 : decode code 1241 = .ok (.iadd, 1) := by decide +kernel
theorem d_W_law_1242 : decode code 1242 = .ok (.iaload, 1) := by decide +kernel
theorem d_W_law_1243 : decode code 1243 = .ok (.aload_n 3, 1) := by decide +kernel
theorem d_W_law_1244 : decode code 1244 = .ok (.invokestatic 146, 3) := by decide +kernel
theorem d_W_law_1247 : decode code 1247 = .ok (.istore 5, 2) := by decide +kernel
theorem d_W_law_1249 : decode code 1249 = .ok (.aload_n 2, 1) := by decide +kernel
theorem d_W_law_1250 : decode code 1250 = .ok (.aload_n 0, 1) := by decide +kernel
theorem d_W_law_1251 : decode code 1251 = .ok (.iload 4, 2) := by decide +kernel
theorem d_W_law_1253 : decode code 1253 = .ok (.iconst 1, 1) := by decide +kernel
theorem d_W_law_1254 : decode code 1254 = .ok (.iadd, 1) := by decide +kernel
theorem d_W_law_1255 : decode code 1255 = .ok (.iaload, 1) := by decide +kernel
theorem d_W_law_1256 : decode code 1256 = .ok (.aload_n 0, 1) := by decide +kernel
theorem d_W_law_1257 : decode code 1257 = .ok (.iload 4, 2) := by decide +kernel
theorem d_W_law_1259 : decode code 1259 = .ok (.iconst 2, 1) := by decide +kernel
theorem d_W_law_1260 : decode code 1260 = .ok (.iadd, 1) := by decide +kernel
theorem d_W_law_1261 : decode code 1261 = .ok (.iaload, 1) := by decide +kernel
theorem d_W_law_1262 : decode code 1262 = .ok (.invokevirtual 148, 3) := by decide +kernel
theorem d_W_law_1265 : decode code 1265 = .ok (.istore 6, 2) := by decide +kernel
theorem d_W_law_1267 : decode code 1267 = .ok (.aload_n 2, 1) := by decide +kernel
theorem d_W_law_1268 : decode code 1268 = .ok (.invokevirtual 85, 3) := by decide +kernel
theorem d_W_law_1271 : decode code 1271 = .ok (.iload 5, 2) := by decide +kernel
theorem d_W_law_1273 : decode code 1273 = .ok (.if_icmp .eq 5, 3) := by decide +kernel
theorem d_W_law_1276 : decode code 1276 = .ok (.iconst 0, 1) := by decide +kernel
theorem d_W_law_1277 : decode code 1277 = .ok (.ireturn, 1) := by decide +kernel
theorem d_W_law_1278 : decode code 1278 = .ok (.iload 5, 2) := by decide +kernel
theorem d_W_law_1280 : decode code 1280 = .ok (.ifCond .ne 15, 3) := by decide +kernel
theorem d_W_law_1283 : decode code 1283 = .ok (.aload_n 3, 1) := by decide +kernel
theorem d_W_law_1284 : decode code 1284 = .ok (.iconst 0, 1) := by decide +kernel
theorem d_W_law_1285 : decode code 1285 = .ok (.laload, 1) := by decide +kernel
theorem d_W_law_1286 : decode code 1286 = .ok (.iload 6, 2) := by decide +kernel
theorem d_W_law_1288 : decode code 1288 = .ok (.i2l, 1) := by decide +kernel
theorem d_W_law_1289 : decode code 1289 = .ok (.lcmp, 1) := by decide +kernel
theorem d_W_law_1290 : decode code 1290 = .ok (.ifCond .eq 5, 3) := by decide +kernel
theorem d_W_law_1293 : decode code 1293 = .ok (.iconst 0, 1) := by decide +kernel
theorem d_W_law_1294 : decode code 1294 = .ok (.ireturn, 1) := by decide +kernel
theorem d_W_law_1295 : decode code 1295 = .ok (.goto 152, 3) := by decide +kernel
theorem d_W_law_1298 : decode code 1298 = .ok (.aload_n 1, 1) := by decide +kernel
theorem d_W_law_1299 : decode code 1299 = .ok (.aload_n 0, 1) := by decide +kernel
theorem d_W_law_1300 : decode code 1300 = .ok (.iload 4, 2) := by decide +kernel
theorem d_W_law_1302 : decode code 1302 = .ok (.iconst 1, 1) := by decide +kernel
theorem d_W_law_1303 : decode code 1303 = .ok (.iadd, 1) := by decide +kernel
theorem d_W_law_1304 : decode code 1304 = .ok (.iaload, 1) := by decide +kernel
theorem d_W_law_1305 : decode code 1305 = .ok (.aload_n 3, 1) := by decide +kernel
theorem d_W_law_1306 : decode code 1306 = .ok (.invokestatic 149, 3) := by decide +kernel
theorem d_W_law_1309 : decode code 1309 = .ok (.istore 5, 2) := by decide +kernel
theorem d_W_law_1311 : decode code 1311 = .ok (.aload_n 2, 1) := by decide +kernel
theorem d_W_law_1312 : decode code 1312 = .ok (.aload_n 0, 1) := by decide +kernel
theorem d_W_law_1313 : decode code 1313 = .ok (.iload 4, 2) := by decide +kernel
theorem d_W_law_1315 : decode code 1315 = .ok (.iconst 1, 1) := by decide +kernel
theorem d_W_law_1316 : decode code 1316 = .ok (.iadd, 1) := by decide +kernel
theorem d_W_law_1317 : decode code 1317 = .ok (.iaload, 1) := by decide +kernel
theorem d_W_law_1318 : decode code 1318 = .ok (.invokevirtual 151, 3) := by decide +kernel
theorem d_W_law_1321 : decode code 1321 = .ok (.istore 6, 2) := by decide +kernel
theorem d_W_law_1323 : decode code 1323 = .ok (.aload_n 2, 1) := by decide +kernel
theorem d_W_law_1324 : decode code 1324 = .ok (.invokevirtual 85, 3) := by decide +kernel
theorem d_W_law_1327 : decode code 1327 = .ok (.iload 5, 2) := by decide +kernel
theorem d_W_law_1329 : decode code 1329 = .ok (.if_icmp .eq 5, 3) := by decide +kernel
theorem d_W_law_1332 : decode code 1332 = .ok (.iconst 0, 1) := by decide +kernel
theorem d_W_law_1333 : decode code 1333 = .ok (.ireturn, 1) := by decide +kernel
theorem d_W_law_1334 : decode code 1334 = .ok (.iload 5, 2) := by decide +kernel
theorem d_W_law_1336 : decode code 1336 = .ok (.ifCond .ne 15, 3) := by decide +kernel
theorem d_W_law_1339 : decode code 1339 = .ok (.aload_n 3, 1) := by decide +kernel
theorem d_W_law_1340 : decode code 1340 = .ok (.iconst 0, 1) := by decide +kernel
theorem d_W_law_1341 : decode code 1341 = .ok (.laload, 1) := by decide +kernel
theorem d_W_law_1342 : decode code 1342 = .ok (.iload 6, 2) := by decide +kernel
theorem d_W_law_1344 : decode code 1344 = .ok (.i2l, 1) := by decide +kernel
theorem d_W_law_1345 : decode code 1345 = .ok (.lcmp, 1) := by decide +kernel
theorem d_W_law_1346 : decode code 1346 = .ok (.ifCond .eq 5, 3) := by decide +kernel
theorem d_W_law_1349 : decode code 1349 = .ok (.iconst 0, 1) := by decide +kernel
theorem d_W_law_1350 : decode code 1350 = .ok (.ireturn, 1) := by decide +kernel
theorem d_W_law_1351 : decode code 1351 = .ok (.goto 96, 3) := by decide +kernel
theorem d_W_law_1354 : decode code 1354 = .ok (.aload_n 1, 1) := by decide +kernel
theorem d_W_law_1355 : decode code 1355 = .ok (.aload_n 0, 1) := by decide +kernel
theorem d_W_law_1356 : decode code 1356 = .ok (.iload 4, 2) := by decide +kernel
theorem d_W_law_1358 : decode code 1358 = .ok (.iconst 1, 1) := by decide +kernel
theorem d_W_law_1359 : decode code 1359 = .ok (.iadd, 1) := by decide +kernel
theorem d_W_law_1360 : decode code 1360 = .ok (.iaload, 1) := by decide +kernel
theorem d_W_law_1361 : decode code 1361 = .ok (.invokevirtual 152, 3) := by decide +kernel
theorem d_W_law_1364 : decode code 1364 = .ok (.aload_n 2, 1) := by decide +kernel
theorem d_W_law_1365 : decode code 1365 = .ok (.aload_n 0, 1) := by decide +kernel
theorem d_W_law_1366 : decode code 1366 = .ok (.iload 4, 2) := by decide +kernel
theorem d_W_law_1368 : decode code 1368 = .ok (.iconst 1, 1) := by decide +kernel
theorem d_W_law_1369 : decode code 1369 = .ok (.iadd, 1) := by decide +kernel
theorem d_W_law_1370 : decode code 1370 = .ok (.iaload, 1) := by decide +kernel
theorem d_W_law_1371 : decode code 1371 = .ok (.invokevirtual 155, 3) := by decide +kernel
theorem d_W_law_1374 : decode code 1374 = .ok (.if_icmp .eq 73, 3) := by decide +kernel
theorem d_W_law_1377 : decode code 1377 = .ok (.iconst 0, 1) := by decide +kernel
theorem d_W_law_1378 : decode code 1378 = .ok (.ireturn, 1) := by decide +kernel
theorem d_W_law_1379 : decode code 1379 = .ok (.aload_n 1, 1) := by decide +kernel
theorem d_W_law_1380 : decode code 1380 = .ok (.aload_n 0, 1) := by decide +kernel
theorem d_W_law_1381 : decode code 1381 = .ok (.iload 4, 2) := by decide +kernel
theorem d_W_law_1383 : decode code 1383 = .ok (.iconst 1, 1) := by decide +kernel
theorem d_W_law_1384 : decode code 1384 = .ok (.iadd, 1) := by decide +kernel
theorem d_W_law_1385 : decode code 1385 = .ok (.iaload, 1) := by decide +kernel
theorem d_W_law_1386 : decode code 1386 = .ok (.aload_n 0, 1) := by decide +kernel
theorem d_W_law_1387 : decode code 1387 = .ok (.iload 4, 2) := by decide +kernel
theorem d_W_law_1389 : decode code 1389 = .ok (.iconst 2, 1) := by decide +kernel
theorem d_W_law_1390 : decode code 1390 = .ok (.iadd, 1) := by decide +kernel
theorem d_W_law_1391 : decode code 1391 = .ok (.iaload, 1) := by decide +kernel
theorem d_W_law_1392 : decode code 1392 = .ok (.aload_n 3, 1) := by decide +kernel
theorem d_W_law_1393 : decode code 1393 = .ok (.invokestatic 156, 3) := by decide +kernel
theorem d_W_law_1396 : decode code 1396 = .ok (.istore 5, 2) := by decide +kernel
theorem d_W_law_1398 : decode code 1398 = .ok (.aload_n 2, 1) := by decide +kernel
theorem d_W_law_1399 : decode code 1399 = .ok (.aload_n 0, 1) := by decide +kernel
theorem d_W_law_1400 : decode code 1400 = .ok (.iload 4, 2) := by decide +kernel
theorem d_W_law_1402 : decode code 1402 = .ok (.iconst 1, 1) := by decide +kernel
theorem d_W_law_1403 : decode code 1403 = .ok (.iadd, 1) := by decide +kernel
theorem d_W_law_1404 : decode code 1404 = .ok (.iaload, 1) := by decide +kernel
theorem d_W_law_1405 : decode code 1405 = .ok (.aload_n 0, 1) := by decide +kernel
theorem d_W_law_1406 : decode code 1406 = .ok (.iload 4, 2) := by decide +kernel
theorem d_W_law_1408 : decode code 1408 = .ok (.iconst 2, 1) := by decide +kernel
theorem d_W_law_1409 : decode code 1409 = .ok (.iadd, 1) := by decide +kernel
theorem d_W_law_1410 : decode code 1410 = .ok (.iaload, 1) := by decide +kernel
theorem d_W_law_1411 : decode code 1411 = .ok (.invokevirtual 158, 3) := by decide +kernel
theorem d_W_law_1414 : decode code 1414 = .ok (.istore 6, 2) := by decide +kernel
theorem d_W_law_1416 : decode code 1416 = .ok (.aload_n 2, 1) := by decide +kernel
theorem d_W_law_1417 : decode code 1417 = .ok (.invokevirtual 85, 3) := by decide +kernel
theorem d_W_law_1420 : decode code 1420 = .ok (.iload 5, 2) := by decide +kernel
theorem d_W_law_1422 : decode code 1422 = .ok (.if_icmp .eq 5, 3) := by decide +kernel
theorem d_W_law_1425 : decode code 1425 = .ok (.iconst 0, 1) := by decide +kernel
theorem d_W_law_1426 : decode code 1426 = .ok (.ireturn, 1) := by decide +kernel
theorem d_W_law_1427 : decode code 1427 = .ok (.iload 5, 2) := by decide +kernel
theorem d_W_law_1429 : decode code 1429 = .ok (.ifCond .ne 15, 3) := by decide +kernel
theorem d_W_law_1432 : decode code 1432 = .ok (.aload_n 3, 1) := by decide +kernel
theorem d_W_law_1433 : decode code 1433 = .ok (.iconst 0, 1) := by decide +kernel
theorem d_W_law_1434 : decode code 1434 = .ok (.laload, 1) := by decide +kernel
theorem d_W_law_1435 : decode code 1435 = .ok (.iload 6, 2) := by decide +kernel
theorem d_W_law_1437 : decode code 1437 = .ok (.i2l, 1) := by decide +kernel
theorem d_W_law_1438 : decode code 1438 = .ok (.lcmp, 1) := by decide +kernel
theorem d_W_law_1439 : decode code 1439 = .ok (.ifCond .eq 5, 3) := by decide +kernel
theorem d_W_law_1442 : decode code 1442 = .ok (.iconst 0, 1) := by decide +kernel
theorem d_W_law_1443 : decode code 1443 = .ok (.ireturn, 1) := by decide +kernel
theorem d_W_law_1444 : decode code 1444 = .ok (.goto 3, 3) := by decide +kernel
theorem d_W_law_1447 : decode code 1447 = .ok (.iinc 4 8, 3) := by decide +kernel
theorem d_W_law_1450 : decode code 1450 = .ok (.goto (-1427), 3) := by decide +kernel
theorem d_W_law_1453 : decode code 1453 = .ok (.iconst 1, 1) := by decide +kernel
theorem d_W_law_1454 : decode code 1454 = .ok (.ireturn, 1) := by decide +kernel
