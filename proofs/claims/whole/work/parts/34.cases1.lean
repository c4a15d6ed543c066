set_option maxRecDepth 512
theorem dL_law_742 : decode cL_law 742 = .ok (.aload_n 1, 1) := by decide +kernel
theorem dL_law_743 : decode cL_law 743 = .ok (.aload_n 0, 1) := by decide +kernel
theorem dL_law_744 : decode cL_law 744 = .ok (.iload 5, 2) := by decide +kernel
theorem dL_law_746 : decode cL_law 746 = .ok (.iconst 1, 1) := by decide +kernel
theorem dL_law_747 : decode cL_law 747 = .ok (.iadd, 1) := by decide +kernel
theorem dL_law_748 : decode cL_law 748 = .ok (.iaload, 1) := by decide +kernel
theorem dL_law_749 : decode cL_law 749 = .ok (.aload_n 0, 1) := by decide +kernel
theorem dL_law_750 : decode cL_law 750 = .ok (.iload 5, 2) := by decide +kernel
theorem dL_law_752 : decode cL_law 752 = .ok (.iconst 2, 1) := by decide +kernel
theorem dL_law_753 : decode cL_law 753 = .ok (.iadd, 1) := by decide +kernel
theorem dL_law_754 : decode cL_law 754 = .ok (.iaload, 1) := by decide +kernel
theorem dL_law_755 : decode cL_law 755 = .ok (.aload_n 3, 1) := by decide +kernel
theorem dL_law_756 : decode cL_law 756 = .ok (.invokestatic 182, 3) := by decide +kernel
theorem dL_law_759 : decode cL_law 759 = .ok (.istore 6, 2) := by decide +kernel
theorem dL_law_761 : decode cL_law 761 = .ok (.aload_n 2, 1) := by decide +kernel
theorem dL_law_762 : decode cL_law 762 = .ok (.aload_n 0, 1) := by decide +kernel
theorem dL_law_763 : decode cL_law 763 = .ok (.iload 5, 2) := by decide +kernel
theorem dL_law_765 : decode cL_law 765 = .ok (.iconst 1, 1) := by decide +kernel
theorem dL_law_766 : decode cL_law 766 = .ok (.iadd, 1) := by decide +kernel
theorem dL_law_767 : decode cL_law 767 = .ok (.iaload, 1) := by decide +kernel
theorem dL_law_768 : decode cL_law 768 = .ok (.aload_n 0, 1) := by decide +kernel
theorem dL_law_769 : decode cL_law 769 = .ok (.iload 5, 2) := by decide +kernel
theorem dL_law_771 : decode cL_law 771 = .ok (.iconst 2, 1) := by decide +kernel
theorem dL_law_772 : decode cL_law 772 = .ok (.iadd, 1) := by decide +kernel
theorem dL_law_773 : decode cL_law 773 = .ok (.iaload, 1) := by decide +kernel
theorem dL_law_774 : decode cL_law 774 = .ok (.invokevirtual 184, 3) := by decide +kernel
theorem dL_law_777 : decode cL_law 777 = .ok (.istore 7, 2) := by decide +kernel
theorem dL_law_779 : decode cL_law 779 = .ok (.aload_n 2, 1) := by decide +kernel
theorem dL_law_780 : decode cL_law 780 = .ok (.invokevirtual 145, 3) := by decide +kernel
theorem dL_law_783 : decode cL_law 783 = .ok (.iload 6, 2) := by decide +kernel
theorem dL_law_785 : decode cL_law 785 = .ok (.if_icmp .eq 5, 3) := by decide +kernel
theorem dL_law_790 : decode cL_law 790 = .ok (.iload 6, 2) := by decide +kernel
theorem dL_law_792 : decode cL_law 792 = .ok (.ifCond .ne 15, 3) := by decide +kernel
theorem dL_law_795 : decode cL_law 795 = .ok (.aload_n 3, 1) := by decide +kernel
theorem dL_law_796 : decode cL_law 796 = .ok (.iconst 0, 1) := by decide +kernel
theorem dL_law_797 : decode cL_law 797 = .ok (.laload, 1) := by decide +kernel
theorem dL_law_798 : decode cL_law 798 = .ok (.iload 7, 2) := by decide +kernel
theorem dL_law_800 : decode cL_law 800 = .ok (.i2l, 1) := by decide +kernel
theorem dL_law_801 : decode cL_law 801 = .ok (.lcmp, 1) := by decide +kernel
theorem dL_law_802 : decode cL_law 802 = .ok (.ifCond .eq 5, 3) := by decide +kernel
theorem dL_law_807 : decode cL_law 807 = .ok (.goto 1983, 3) := by decide +kernel
theorem dL_law_810 : decode cL_law 810 = .ok (.aload_n 1, 1) := by decide +kernel
theorem dL_law_811 : decode cL_law 811 = .ok (.aload_n 0, 1) := by decide +kernel
theorem dL_law_812 : decode cL_law 812 = .ok (.iload 5, 2) := by decide +kernel
theorem dL_law_814 : decode cL_law 814 = .ok (.iconst 1, 1) := by decide +kernel
theorem dL_law_815 : decode cL_law 815 = .ok (.iadd, 1) := by decide +kernel
theorem dL_law_816 : decode cL_law 816 = .ok (.iaload, 1) := by decide +kernel
theorem dL_law_817 : decode cL_law 817 = .ok (.aload_n 3, 1) := by decide +kernel
theorem dL_law_818 : decode cL_law 818 = .ok (.invokestatic 185, 3) := by decide +kernel
theorem dL_law_821 : decode cL_law 821 = .ok (.istore 6, 2) := by decide +kernel
theorem dL_law_823 : decode cL_law 823 = .ok (.aload_n 2, 1) := by decide +kernel
theorem dL_law_824 : decode cL_law 824 = .ok (.aload_n 0, 1) := by decide +kernel
theorem dL_law_825 : decode cL_law 825 = .ok (.iload 5, 2) := by decide +kernel
theorem dL_law_827 : decode cL_law 827 = .ok (.iconst 1, 1) := by decide +kernel
theorem dL_law_828 : decode cL_law 828 = .ok (.iadd, 1) := by decide +kernel
theorem dL_law_829 : decode cL_law 829 = .ok (.iaload, 1) := by decide +kernel
theorem dL_law_830 : decode cL_law 830 = .ok (.invokevirtual 187, 3) := by decide +kernel
theorem dL_law_833 : decode cL_law 833 = .ok (.istore 7, 2) := by decide +kernel
theorem dL_law_835 : decode cL_law 835 = .ok (.aload_n 2, 1) := by decide +kernel
theorem dL_law_836 : decode cL_law 836 = .ok (.invokevirtual 145, 3) := by decide +kernel
theorem dL_law_839 : decode cL_law 839 = .ok (.iload 6, 2) := by decide +kernel
theorem dL_law_841 : decode cL_law 841 = .ok (.if_icmp .eq 5, 3) := by decide +kernel
theorem dL_law_846 : decode cL_law 846 = .ok (.iload 6, 2) := by decide +kernel
theorem dL_law_848 : decode cL_law 848 = .ok (.ifCond .ne 22, 3) := by decide +kernel
theorem dL_law_851 : decode cL_law 851 = .ok (.aload_n 3, 1) := by decide +kernel
theorem dL_law_852 : decode cL_law 852 = .ok (.iconst 0, 1) := by decide +kernel
theorem dL_law_853 : decode cL_law 853 = .ok (.laload, 1) := by decide +kernel
theorem dL_law_854 : decode cL_law 854 = .ok (.iload 7, 2) := by decide +kernel
theorem dL_law_856 : decode cL_law 856 = .ok (.ifCond .eq 7, 3) := by decide +kernel
theorem dL_law_859 : decode cL_law 859 = .ok (.lconst 1, 1) := by decide +kernel
theorem dL_law_860 : decode cL_law 860 = .ok (.goto 4, 3) := by decide +kernel
theorem dL_law_863 : decode cL_law 863 = .ok (.lconst 0, 1) := by decide +kernel
theorem dL_law_864 : decode cL_law 864 = .ok (.lcmp, 1) := by decide +kernel
theorem dL_law_865 : decode cL_law 865 = .ok (.ifCond .eq 5, 3) := by decide +kernel
theorem dL_law_870 : decode cL_law 870 = .ok (.goto 1920, 3) := by decide +kernel
theorem dL_law_873 : decode cL_law 873 = .ok (.aload_n 1, 1) := by decide +kernel
theorem dL_law_874 : decode cL_law 874 = .ok (.aload_n 0, 1) := by decide +kernel
theorem dL_law_875 : decode cL_law 875 = .ok (.iload 5, 2) := by decide +kernel
theorem dL_law_877 : decode cL_law 877 = .ok (.iconst 1, 1) := by decide +kernel
theorem dL_law_878 : decode cL_law 878 = .ok (.iadd, 1) := by decide +kernel
theorem dL_law_879 : decode cL_law 879 = .ok (.iaload, 1) := by decide +kernel
theorem dL_law_880 : decode cL_law 880 = .ok (.aload_n 0, 1) := by decide +kernel
theorem dL_law_881 : decode cL_law 881 = .ok (.iload 5, 2) := by decide +kernel
theorem dL_law_883 : decode cL_law 883 = .ok (.iconst 2, 1) := by decide +kernel
theorem dL_law_884 : decode cL_law 884 = .ok (.iadd, 1) := by decide +kernel
theorem dL_law_885 : decode cL_law 885 = .ok (.iaload, 1) := by decide +kernel
theorem dL_law_886 : decode cL_law 886 = .ok (.aload_n 3, 1) := by decide +kernel
theorem dL_law_887 : decode cL_law 887 = .ok (.invokestatic 188, 3) := by decide +kernel
theorem dL_law_890 : decode cL_law 890 = .ok (.istore 6, 2) := by decide +kernel
theorem dL_law_892 : decode cL_law 892 = .ok (.aload_n 2, 1) := by decide +kernel
theorem dL_law_893 : decode cL_law 893 = .ok (.aload_n 0, 1) := by decide +kernel
theorem dL_law_894 : decode cL_law 894 = .ok (.iload 5, 2) := by decide +kernel
theorem dL_law_896 : decode cL_law 896 = .ok (.iconst 1, 1) := by decide +kernel
theorem dL_law_897 : decode cL_law 897 = .ok (.iadd, 1) := by decide +kernel
theorem dL_law_898 : decode cL_law 898 = .ok (.iaload, 1) := by decide +kernel
theorem dL_law_899 : decode cL_law 899 = .ok (.aload_n 0, 1) := by decide +kernel
theorem dL_law_900 : decode cL_law 900 = .ok (.iload 5, 2) := by decide +kernel
theorem dL_law_902 : decode cL_law 902 = .ok (.iconst 2, 1) := by decide +kernel
theorem dL_law_903 : decode cL_law 903 = .ok (.iadd, 1) := by decide +kernel
theorem dL_law_904 : decode cL_law 904 = .ok (.iaload, 1) := by decide +kernel
theorem dL_law_905 : decode cL_law 905 = .ok (.invokevirtual 190, 3) := by decide +kernel
theorem dL_law_908 : decode cL_law 908 = .ok (.istore 7, 2) := by decide +kernel
theorem dL_law_910 : decode cL_law 910 = .ok (.aload_n 2, 1) := by decide +kernel
theorem dL_law_911 : decode cL_law 911 = .ok (.invokevirtual 145, 3) := by decide +kernel
theorem dL_law_914 : decode cL_law 914 = .ok (.iload 6, 2) := by decide +kernel
theorem dL_law_916 : decode cL_law 916 = .ok (.if_icmp .eq 5, 3) := by decide +kernel
theorem dL_law_921 : decode cL_law 921 = .ok (.iload 6, 2) := by decide +kernel
theorem dL_law_923 : decode cL_law 923 = .ok (.ifCond .ne 15, 3) := by decide +kernel
theorem dL_law_926 : decode cL_law 926 = .ok (.aload_n 3, 1) := by decide +kernel
theorem dL_law_927 : decode cL_law 927 = .ok (.iconst 0, 1) := by decide +kernel
theorem dL_law_928 : decode cL_law 928 = .ok (.laload, 1) := by decide +kernel
theorem dL_law_929 : decode cL_law 929 = .ok (.iload 7, 2) := by decide +kernel
theorem dL_law_931 : decode cL_law 931 = .ok (.i2l, 1) := by decide +kernel
theorem dL_law_932 : decode cL_law 932 = .ok (.lcmp, 1) := by decide +kernel
theorem dL_law_933 : decode cL_law 933 = .ok (.ifCond .eq 5, 3) := by decide +kernel
theorem dL_law_938 : decode cL_law 938 = .ok (.goto 1852, 3) := by decide +kernel
theorem dL_law_941 : decode cL_law 941 = .ok (.aload_n 1, 1) := by decide +kernel
theorem dL_law_942 : decode cL_law 942 = .ok (.aload_n 0, 1) := by decide +kernel
theorem dL_law_943 : decode cL_law 943 = .ok (.iload 5, 2) := by decide +kernel
theorem dL_law_945 : decode cL_law 945 = .ok (.iconst 1, 1) := by decide +kernel
theorem dL_law_946 : decode cL_law 946 = .ok (.iadd, 1) := by decide +kernel
theorem dL_law_947 : decode cL_law 947 = .ok (.iaload, 1) := by decide +kernel
theorem dL_law_948 : decode cL_law 948 = .ok (.aload_n 3, 1) := by decide +kernel
theorem dL_law_949 : decode cL_law 949 = .ok (.invokestatic 191, 3) := by decide +kernel
theorem dL_law_952 : decode cL_law 952 = .ok (.istore 6, 2) := by decide +kernel
theorem dL_law_954 : decode cL_law 954 = .ok (.aload_n 2, 1) := by decide +kernel
theorem dL_law_955 : decode cL_law 955 = .ok (.aload_n 0, 1) := by decide +kernel
theorem dL_law_956 : decode cL_law 956 = .ok (.iload 5, 2) := by decide +kernel
theorem dL_law_958 : decode cL_law 958 = .ok (.iconst 1, 1) := by decide +kernel
theorem dL_law_959 : decode cL_law 959 = .ok (.iadd, 1) := by decide +kernel
theorem dL_law_960 : decode cL_law 960 = .ok (.iaload, 1) := by decide +kernel
theorem dL_law_961 : decode cL_law 961 = .ok (.invokevirtual 193, 3) := by decide +kernel
theorem dL_law_964 : decode cL_law 964 = .ok (.istore 7, 2) := by decide +kernel
theorem dL_law_966 : decode cL_law 966 = .ok (.aload_n 2, 1) := by decide +kernel
theorem dL_law_967 : decode cL_law 967 = .ok (.invokevirtual 145, 3) := by decide +kernel
theorem dL_law_970 : decode cL_law 970 = .ok (.iload 6, 2) := by decide +kernel
theorem dL_law_972 : decode cL_law 972 = .ok (.if_icmp .eq 5, 3) := by decide +kernel
theorem dL_law_977 : decode cL_law 977 = .ok (.iload 6, 2) := by decide +kernel
theorem dL_law_979 : decode cL_law 979 = .ok (.ifCond .ne 15, 3) := by decide +kernel
theorem dL_law_982 : decode cL_law 982 = .ok (.aload_n 3, 1) := by decide +kernel
theorem dL_law_983 : decode cL_law 983 = .ok (.iconst 0, 1) := by decide +kernel
theorem dL_law_984 : decode cL_law 984 = .ok (.laload, 1) := by decide +kernel
theorem dL_law_985 : decode cL_law 985 = .ok (.iload 7, 2) := by decide +kernel
theorem dL_law_987 : decode cL_law 987 = .ok (.i2l, 1) := by decide +kernel
theorem dL_law_988 : decode cL_law 988 = .ok (.lcmp, 1) := by decide +kernel
theorem dL_law_989 : decode cL_law 989 = .ok (.ifCond .eq 5, 3) := by decide +kernel
theorem dL_law_994 : decode cL_law 994 = .ok (.goto 1796, 3) := by decide +kernel
theorem dL_law_997 : decode cL_law 997 = .ok (.aload_n 1, 1) := by decide +kernel
theorem dL_law_998 : decode cL_law 998 = .ok (.invokevirtual 194, 3) := by decide +kernel
theorem dL_law_1001 : decode cL_law 1001 = .ok (.aload_n 2, 1) := by decide +kernel
theorem dL_law_1002 : decode cL_law 1002 = .ok (.invokevirtual 197, 3) := by decide +kernel
theorem dL_law_1005 : decode cL_law 1005 = .ok (.if_icmp .eq 1785, 3) := by decide +kernel
theorem dL_law_1010 : decode cL_law 1010 = .ok (.aload_n 1, 1) := by decide +kernel
theorem dL_law_1011 : decode cL_law 1011 = .ok (.invokevirtual 198, 3) := by decide +kernel
theorem dL_law_1014 : decode cL_law 1014 = .ok (.aload_n 2, 1) := by decide +kernel
theorem dL_law_1015 : decode cL_law 1015 = .ok (.invokevirtual 201, 3) := by decide +kernel
theorem dL_law_1018 : decode cL_law 1018 = .ok (.if_icmp .eq 1772, 3) := by decide +kernel
theorem dL_law_1023 : decode cL_law 1023 = .ok (.aload_n 1, 1) := by decide +kernel
theorem dL_law_1024 : decode cL_law 1024 = .ok (.aload_n 0, 1) := by decide +kernel
theorem dL_law_1025 : decode cL_law 1025 = .ok (.iload 5, 2) := by decide +kernel
theorem dL_law_1027 : decode cL_law 1027 = .ok (.iconst 1, 1) := by decide +kernel
theorem dL_law_1028 : decode cL_law 1028 = .ok (.iadd, 1) := by decide +kernel
theorem dL_law_1029 : decode cL_law 1029 = .ok (.iaload, 1) := by decide +kernel
theorem dL_law_1030 : decode cL_law 1030 = .ok (.aload_n 0, 1) := by decide +kernel
theorem dL_law_1031 : decode cL_law 1031 = .ok (.iload 5, 2) := by decide +kernel
theorem dL_law_1033 : decode cL_law 1033 = .ok (.iconst 2, 1) := by decide +kernel
theorem dL_law_1034 : decode cL_law 1034 = .ok (.iadd, 1) := by decide +kernel
theorem dL_law_1035 : decode cL_law 1035 = .ok (.iaload, 1) := by decide +kernel
theorem dL_law_1036 : decode cL_law 1036 = .ok (.aload_n 3, 1) := by decide +kernel
theorem dL_law_1037 : decode cL_law 1037 = .ok (.invokestatic 202, 3) := by decide +kernel
theorem dL_law_1040 : decode cL_law 1040 = .ok (.istore 6, 2) := by decide +kernel
theorem dL_law_1042 : decode cL_law 1042 = .ok (.aload_n 2, 1) := by decide +kernel
theorem dL_law_1043 : decode cL_law 1043 = .ok (.aload_n 0, 1) := by decide +kernel
theorem dL_law_1044 : decode cL_law 1044 = .ok (.iload 5, 2) := by decide +kernel
theorem dL_law_1046 : decode cL_law 1046 = .ok (.iconst 1, 1) := by decide +kernel
theorem dL_law_1047 : decode cL_law 1047 = .ok (.iadd, 1) := by decide +kernel
theorem dL_law_1048 : decode cL_law 1048 = .ok (.iaload, 1) := by decide +kernel
theorem dL_law_1049 : decode cL_law 1049 = .ok (.aload_n 0, 1) := by decide +kernel
theorem dL_law_1050 : decode cL_law 1050 = .ok (.iload 5, 2) := by decide +kernel
theorem dL_law_1052 : decode cL_law 1052 = .ok (.iconst 2, 1) := by decide +kernel
theorem dL_law_1053 : decode cL_law 1053 = .ok (.iadd, 1) := by decide +kernel
theorem dL_law_1054 : decode cL_law 1054 = .ok (.iaload, 1) := by decide +kernel
theorem dL_law_1055 : decode cL_law 1055 = .ok (.invokevirtual 204, 3) := by decide +kernel
theorem dL_law_1058 : decode cL_law 1058 = .ok (.istore 7, 2) := by decide +kernel
theorem dL_law_1060 : decode cL_law 1060 = .ok (.aload_n 2, 1) := by decide +kernel
theorem dL_law_1061 : decode cL_law 1061 = .ok (.invokevirtual 145, 3) := by decide +kernel
theorem dL_law_1064 : decode cL_law 1064 = .ok (.iload 6, 2) := by decide +kernel
theorem dL_law_1066 : decode cL_law 1066 = .ok (.if_icmp .eq 5, 3) := by decide +kernel
theorem dL_law_1071 : decode cL_law 1071 = .ok (.iload 6, 2) := by decide +kernel
theorem dL_law_1073 : decode cL_law 1073 = .ok (.ifCond .ne 15, 3) := by decide +kernel
theorem dL_law_1076 : decode cL_law 1076 = .ok (.aload_n 3, 1) := by decide +kernel
theorem dL_law_1077 : decode cL_law 1077 = .ok (.iconst 0, 1) := by decide +kernel
theorem dL_law_1078 : decode cL_law 1078 = .ok (.laload, 1) := by decide +kernel
theorem dL_law_1079 : decode cL_law 1079 = .ok (.iload 7, 2) := by decide +kernel
theorem dL_law_1081 : decode cL_law 1081 = .ok (.i2l, 1) := by decide +kernel
theorem dL_law_1082 : decode cL_law 1082 = .ok (.lcmp, 1) := by decide +kernel
theorem dL_law_1083 : decode cL_law 1083 = .ok (.ifCond .eq 5, 3) := by decide +kernel
theorem dL_law_1088 : decode cL_law 1088 = .ok (.goto 1702, 3) := by decide +kernel
theorem dL_law_1091 : decode cL_law 1091 = .ok (.aload_n 1, 1) := by decide +kernel
theorem dL_law_1092 : decode cL_law 1092 = .ok (.aload_n 0, 1) := by decide +kernel
theorem dL_law_1093 : decode cL_law 1093 = .ok (.iload 5, 2) := by decide +kernel
theorem dL_law_1095 : decode cL_law 1095 = .ok (.iconst 1, 1) := by decide +kernel
theorem dL_law_1096 : decode cL_law 1096 = .ok (.iadd, 1) := by decide +kernel
theorem dL_law_1097 : decode cL_law 1097 = .ok (.iaload, 1) := by decide +kernel
theorem dL_law_1098 : decode cL_law 1098 = .ok (.aload_n 0, 1) := by decide +kernel
theorem dL_law_1099 : decode cL_law 1099 = .ok (.iload 5, 2) := by decide +kernel
theorem dL_law_1101 : decode cL_law 1101 = .ok (.iconst 2, 1) := by decide +kernel
theorem dL_law_1102 : decode cL_law 1102 = .ok (.iadd, 1) := by decide +kernel
theorem dL_law_1103 : decode cL_law 1103 = .ok (.iaload, 1) := by decide +kernel
theorem dL_law_1104 : decode cL_law 1104 = .ok (.aload_n 3, 1) := by decide +kernel
theorem dL_law_1105 : decode cL_law 1105 = .ok (.invokestatic 205, 3) := by decide +kernel
theorem dL_law_1108 : decode cL_law 1108 = .ok (.istore 6, 2) := by decide +kernel
theorem dL_law_1110 : decode cL_law 1110 = .ok (.aload_n 2, 1) := by decide +kernel
theorem dL_law_1111 : decode cL_law 1111 = .ok (.aload_n 0, 1) := by decide +kernel
theorem dL_law_1112 : decode cL_law 1112 = .ok (.iload 5, 2) := by decide +kernel
theorem dL_law_1114 : decode cL_law 1114 = .ok (.iconst 1, 1) := by decide +kernel
theorem dL_law_1115 : decode cL_law 1115 = .ok (.iadd, 1) := by decide +kernel
theorem dL_law_1116 : decode cL_law 1116 = .ok (.iaload, 1) := by decide +kernel
theorem dL_law_1117 : decode cL_law 1117 = .ok (.aload_n 0, 1) := by decide +kernel
theorem dL_law_1118 : decode cL_law 1118 = .ok (.iload 5, 2) := by decide +kernel
theorem dL_law_1120 : decode cL_law 1120 = .ok (.iconst 2, 1) := by decide +kernel
theorem dL_law_1121 : decode cL_law 1121 = .ok (.iadd, 1) := by decide +kernel
theorem dL_law_1122 : decode cL_law 1122 = .ok (.iaload, 1) := by decide +kernel
theorem dL_law_1123 : decode cL_law 1123 = .ok (.invokevirtual 207, 3) := by decide +kernel
theorem dL_law_1126 : decode cL_law 1126 = .ok (.istore 7, 2) := by decide +kernel
theorem dL_law_1128 : decode cL_law 1128 = .ok (.aload_n 2, 1) := by decide +kernel
theorem dL_law_1129 : decode cL_law 1129 = .ok (.invokevirtual 145, 3) := by decide +kernel
theorem dL_law_1132 : decode cL_law 1132 = .ok (.iload 6, 2) := by decide +kernel
theorem dL_law_1134 : decode cL_law 1134 = .ok (.if_icmp .eq 5, 3) := by decide +kernel
theorem dL_law_1139 : decode cL_law 1139 = .ok (.iload 6, 2) := by decide +kernel
theorem dL_law_1141 : decode cL_law 1141 = .ok (.ifCond .ne 15, 3) := by decide +kernel
theorem dL_law_1144 : decode cL_law 1144 = .ok (.aload_n 3, 1) := by decide +kernel
theorem dL_law_1145 : decode cL_law 1145 = .ok (.iconst 0, 1) := by decide +kernel
theorem dL_law_1146 : decode cL_law 1146 = .ok (.laload, 1) := by decide +kernel
theorem dL_law_1147 : decode cL_law 1147 = .ok (.iload 7, 2) := by decide +kernel
theorem dL_law_1149 : decode cL_law 1149 = .ok (.i2l, 1) := by decide +kernel
theorem dL_law_1150 : decode cL_law 1150 = .ok (.lcmp, 1) := by decide +kernel
theorem dL_law_1151 : decode cL_law 1151 = .ok (.ifCond .eq 5, 3) := by decide +kernel
theorem dL_law_1156 : decode cL_law 1156 = .ok (.goto 1634, 3) := by decide +kernel
theorem dL_law_1159 : decode cL_law 1159 = .ok (.aload_n 1, 1) := by decide +kernel
theorem dL_law_1160 : decode cL_law 1160 = .ok (.aload_n 0, 1) := by decide +kernel
theorem dL_law_1161 : decode cL_law 1161 = .ok (.iload 5, 2) := by decide +kernel
theorem dL_law_1163 : decode cL_law 1163 = .ok (.iconst 1, 1) := by decide +kernel
theorem dL_law_1164 : decode cL_law 1164 = .ok (.iadd, 1) := by decide +kernel
theorem dL_law_1165 : decode cL_law 1165 = .ok (.iaload, 1) := by decide +kernel
theorem dL_law_1166 : decode cL_law 1166 = .ok (.aload_n 3, 1) := by decide +kernel
theorem dL_law_1167 : decode cL_law 1167 = .ok (.invokestatic 208, 3) := by decide +kernel
theorem dL_law_1170 : decode cL_law 1170 = .ok (.istore 6, 2) := by decide +kernel
theorem dL_law_1172 : decode cL_law 1172 = .ok (.aload_n 2, 1) := by decide +kernel
theorem dL_law_1173 : decode cL_law 1173 = .ok (.aload_n 0, 1) := by decide +kernel
theorem dL_law_1174 : decode cL_law 1174 = .ok (.iload 5, 2) := by decide +kernel
theorem dL_law_1176 : decode cL_law 1176 = .ok (.iconst 1, 1) := by decide +kernel
theorem dL_law_1177 : decode cL_law 1177 = .ok (.iadd, 1) := by decide +kernel
theorem dL_law_1178 : decode cL_law 1178 = .ok (.iaload, 1) := by decide +kernel
theorem dL_law_1179 : decode cL_law 1179 = .ok (.invokevirtual 210, 3) := by decide +kernel
theorem dL_law_1182 : decode cL_law 1182 = .ok (.istore 7, 2) := by decide +kernel
theorem dL_law_1184 : decode cL_law 1184 = .ok (.aload_n 2, 1) := by decide +kernel
theorem dL_law_1185 : decode cL_law 1185 = .ok (.invokevirtual 145, 3) := by decide +kernel
theorem dL_law_1188 : decode cL_law 1188 = .ok (.iload 6, 2) := by decide +kernel
theorem dL_law_1190 : decode cL_law 1190 = .ok (.if_icmp .eq 5, 3) := by decide +kernel
theorem dL_law_1195 : decode cL_law 1195 = .ok (.iload 6, 2) := by decide +kernel
theorem dL_law_1197 : decode cL_law 1197 = .ok (.ifCond .ne 15, 3) := by decide +kernel
theorem dL_law_1200 : decode cL_law 1200 = .ok (.aload_n 3, 1) := by decide +kernel
theorem dL_law_1201 : decode cL_law 1201 = .ok (.iconst 0, 1) := by decide +kernel
theorem dL_law_1202 : decode cL_law 1202 = .ok (.laload, 1) := by decide +kernel
theorem dL_law_1203 : decode cL_law 1203 = .ok (.iload 7, 2) := by decide +kernel
theorem dL_law_1205 : decode cL_law 1205 = .ok (.i2l, 1) := by decide +kernel
theorem dL_law_1206 : decode cL_law 1206 = .ok (.lcmp, 1) := by decide +kernel
theorem dL_law_1207 : decode cL_law 1207 = .ok (.ifCond .eq 5, 3) := by decide +kernel
theorem dL_law_1212 : decode cL_law 1212 = .ok (.goto 1578, 3) := by decide +kernel
theorem dL_law_1215 : decode cL_law 1215 = .ok (.aload_n 1, 1) := by decide +kernel
theorem dL_law_1216 : decode cL_law 1216 = .ok (.aload_n 0, 1) := by decide +kernel
theorem dL_law_1217 : decode cL_law 1217 = .ok (.iload 5, 2) := by decide +kernel
theorem dL_law_1219 : decode cL_law 1219 = .ok (.iconst 1, 1) := by decide +kernel
theorem dL_law_1220 : decode cL_law 1220 = .ok (.iadd, 1) := by decide +kernel
theorem dL_law_1221 : decode cL_law 1221 = .ok (.iaload, 1) := by decide +kernel
theorem dL_law_1222 : decode cL_law 1222 = .ok (.aload_n 0, 1) := by decide +kernel
theorem dL_law_1223 : decode cL_law 1223 = .ok (.iload 5, 2) := by decide +kernel
theorem dL_law_1225 : decode cL_law 1225 = .ok (.iconst 2, 1) := by decide +kernel
theorem dL_law_1226 : decode cL_law 1226 = .ok (.iadd, 1) := by decide +kernel
theorem dL_law_1227 : decode cL_law 1227 = .ok (.iaload, 1) := by decide +kernel
theorem dL_law_1228 : decode cL_law 1228 = .ok (.aload_n 3, 1) := by decide +kernel
theorem dL_law_1229 : decode cL_law 1229 = .ok (.invokestatic 211, 3) := by decide +kernel
theorem dL_law_1232 : decode cL_law 1232 = .ok (.istore 6, 2) := by decide +kernel
theorem dL_law_1234 : decode cL_law 1234 = .ok (.aload_n 2, 1) := by decide +kernel
theorem dL_law_1235 : decode cL_law 1235 = .ok (.aload_n 0, 1) := by decide +kernel
theorem dL_law_1236 : decode cL_law 1236 = .ok (.iload 5, 2) := by decide +kernel
theorem dL_law_1238 : decode cL_law 1238 = .ok (.iconst 1, 1) := by decide +kernel
theorem dL_law_1239 : decode cL_law 1239 = .ok (.iadd, 1) := by decide +kernel
theorem dL_law_1240 : decode cL_law 1240 = .ok (.iaload, 1) := by decide +kernel
theorem dL_law_1241 : decode cL_law 1241 = .ok (.aload_n 0, 1) := by decide +kernel
theorem dL_law_1242 : decode cL_law 1242 = .ok (.iload 5, 2) := by decide +kernel
theorem dL_law_1244 : decode cL_law 1244 = .ok (.iconst 2, 1) := by decide +kernel
theorem dL_law_1245 : decode cL_law 1245 = .ok (.iadd, 1) := by decide +kernel
theorem dL_law_1246 : decode cL_law 1246 = .ok (.iaload, 1) := by decide +kernel
theorem dL_law_1247 : decode cL_law 1247 = .ok (.invokevirtual 213, 3) := by decide +kernel
theorem dL_law_1250 : decode cL_law 1250 = .ok (.istore 7, 2) := by decide +kernel
theorem dL_law_1252 : decode cL_law 1252 = .ok (.aload_n 2, 1) := by decide +kernel
theorem dL_law_1253 : decode cL_law 1253 = .ok (.invokevirtual 145, 3) := by decide +kernel
theorem dL_law_1256 : decode cL_law 1256 = .ok (.iload 6, 2) := by decide +kernel
theorem dL_law_1258 : decode cL_law 1258 = .ok (.if_icmp .eq 5, 3) := by decide +kernel
theorem dL_law_1263 : decode cL_law 1263 = .ok (.iload 6, 2) := by decide +kernel
theorem dL_law_1265 : decode cL_law 1265 = .ok (.ifCond .ne 15, 3) := by decide +kernel
theorem dL_law_1268 : decode cL_law 1268 = .ok (.aload_n 3, 1) := by decide +kernel
theorem dL_law_1269 : decode cL_law 1269 = .ok (.iconst 0, 1) := by decide +kernel
theorem dL_law_1270 : decode cL_law 1270 = .ok (.laload, 1) := by decide +kernel
theorem dL_law_1271 : decode cL_law 1271 = .ok (.iload 7, 2) := by decide +kernel
theorem dL_law_1273 : decode cL_law 1273 = .ok (.i2l, 1) := by decide +kernel
theorem dL_law_1274 : decode cL_law 1274 = .ok (.lcmp, 1) := by decide +kernel
theorem dL_law_1275 : decode cL_law 1275 = .ok (.ifCond .eq 5, 3) := by decide +kernel
theorem dL_law_1280 : decode cL_law 1280 = .ok (.goto 1510, 3) := by decide +kernel
theorem tl_L_182 : Cond.methodLink RL 182 yL_read ∈ TMW := tm_in 997 (by decide +kernel) (by decide +kernel)
theorem tst_L_read : Cond.static yL_read ∈ TMW := tm_in 998 (by decide +kernel) (by decide +kernel)
theorem tc_L_read : Cond.codeWith yL_read cL_read 5 (some .int) [(0, 10, 13, 28)] ∈ TMW := tm_in 999 (by decide +kernel) (by decide +kernel)
theorem tl_L_184 : Cond.methodLink RL 184 yX8_read ∈ TMW := tm_in 1695 (by decide +kernel) (by decide +kernel)
theorem ti_X8_read : Cond.instanceMethod yX8_read ∈ TMW := tm_in 1696 (by decide +kernel) (by decide +kernel)
theorem ts_X8_read : Cond.selects RX8 yX8_read yX8_read ∈ TMW := tm_in 1697 (by decide +kernel) (by decide +kernel)
theorem tc_X8_read : Cond.code yX8_read cX8_read 3 (some .int) ∈ TMW := tm_in 1698 (by decide +kernel) (by decide +kernel)
theorem tl_L_185 : Cond.methodLink RL 185 yL_isSwitched ∈ TMW := tm_in 1008 (by decide +kernel) (by decide +kernel)
theorem tst_L_isSwitched : Cond.static yL_isSwitched ∈ TMW := tm_in 1009 (by decide +kernel) (by decide +kernel)
theorem tc_L_isSwitched : Cond.codeWith yL_isSwitched cL_isSwitched 4 (some .int) [(0, 16, 19, 28)] ∈ TMW := tm_in 1010 (by decide +kernel) (by decide +kernel)
theorem tl_L_187 : Cond.methodLink RL 187 yX8_isSwitched ∈ TMW := tm_in 1714 (by decide +kernel) (by decide +kernel)
theorem ti_X8_isSwitched : Cond.instanceMethod yX8_isSwitched ∈ TMW := tm_in 1715 (by decide +kernel) (by decide +kernel)
theorem ts_X8_isSwitched : Cond.selects RX8 yX8_isSwitched yX8_isSwitched ∈ TMW := tm_in 1716 (by decide +kernel) (by decide +kernel)
theorem tc_X8_isSwitched : Cond.code yX8_isSwitched cX8_isSwitched 2 (some .boolean) ∈ TMW := tm_in 1717 (by decide +kernel) (by decide +kernel)
theorem tl_L_188 : Cond.methodLink RL 188 yL_chunk ∈ TMW := tm_in 1015 (by decide +kernel) (by decide +kernel)
theorem tst_L_chunk : Cond.static yL_chunk ∈ TMW := tm_in 1016 (by decide +kernel) (by decide +kernel)
theorem tc_L_chunk : Cond.codeWith yL_chunk cL_chunk 5 (some .int) [(0, 10, 13, 28), (0, 10, 17, 18)] ∈ TMW := tm_in 1017 (by decide +kernel) (by decide +kernel)
theorem tl_L_190 : Cond.methodLink RL 190 yX8_chunk ∈ TMW := tm_in 1718 (by decide +kernel) (by decide +kernel)
theorem ti_X8_chunk : Cond.instanceMethod yX8_chunk ∈ TMW := tm_in 1719 (by decide +kernel) (by decide +kernel)
theorem ts_X8_chunk : Cond.selects RX8 yX8_chunk yX8_chunk ∈ TMW := tm_in 1720 (by decide +kernel) (by decide +kernel)
theorem tc_X8_chunk : Cond.code yX8_chunk cX8_chunk 3 (some .int) ∈ TMW := tm_in 1721 (by decide +kernel) (by decide +kernel)
theorem tl_L_191 : Cond.methodLink RL 191 yL_stale ∈ TMW := tm_in 1028 (by decide +kernel) (by decide +kernel)
theorem tst_L_stale : Cond.static yL_stale ∈ TMW := tm_in 1029 (by decide +kernel) (by decide +kernel)
theorem tc_L_stale : Cond.codeWith yL_stale cL_stale 4 (some .int) [(0, 9, 12, 28)] ∈ TMW := tm_in 1030 (by decide +kernel) (by decide +kernel)
theorem tl_L_193 : Cond.methodLink RL 193 yX8_stale ∈ TMW := tm_in 1745 (by decide +kernel) (by decide +kernel)
theorem ti_X8_stale : Cond.instanceMethod yX8_stale ∈ TMW := tm_in 1746 (by decide +kernel) (by decide +kernel)
theorem ts_X8_stale : Cond.selects RX8 yX8_stale yX8_stale ∈ TMW := tm_in 1747 (by decide +kernel) (by decide +kernel)
theorem tc_X8_stale : Cond.code yX8_stale cX8_stale 2 (some .int) ∈ TMW := tm_in 1748 (by decide +kernel) (by decide +kernel)
theorem tl_L_194 : Cond.methodLink RL 194 yX7_brokenPromise ∈ TMW := tm_in 742 (by decide +kernel) (by decide +kernel)
theorem ti_X7_brokenPromise : Cond.instanceMethod yX7_brokenPromise ∈ TMW := tm_in 743 (by decide +kernel) (by decide +kernel)
theorem ts_X7_brokenPromise : Cond.selects RX7 yX7_brokenPromise yX7_brokenPromise ∈ TMW := tm_in 744 (by decide +kernel) (by decide +kernel)
theorem tc_X7_brokenPromise : Cond.code yX7_brokenPromise cX7_brokenPromise 2 (some .int) ∈ TMW := tm_in 745 (by decide +kernel) (by decide +kernel)
theorem tl_L_197 : Cond.methodLink RL 197 yX8_brokenPromise ∈ TMW := tm_in 1749 (by decide +kernel) (by decide +kernel)
theorem ti_X8_brokenPromise : Cond.instanceMethod yX8_brokenPromise ∈ TMW := tm_in 1750 (by decide +kernel) (by decide +kernel)
theorem ts_X8_brokenPromise : Cond.selects RX8 yX8_brokenPromise yX8_brokenPromise ∈ TMW := tm_in 1751 (by decide +kernel) (by decide +kernel)
theorem tc_X8_brokenPromise : Cond.code yX8_brokenPromise cX8_brokenPromise 2 (some .int) ∈ TMW := tm_in 1752 (by decide +kernel) (by decide +kernel)
theorem tl_L_198 : Cond.methodLink RL 198 yX7_troubledReaders ∈ TMW := tm_in 750 (by decide +kernel) (by decide +kernel)
theorem ti_X7_troubledReaders : Cond.instanceMethod yX7_troubledReaders ∈ TMW := tm_in 751 (by decide +kernel) (by decide +kernel)
theorem ts_X7_troubledReaders : Cond.selects RX7 yX7_troubledReaders yX7_troubledReaders ∈ TMW := tm_in 752 (by decide +kernel) (by decide +kernel)
theorem tc_X7_troubledReaders : Cond.code yX7_troubledReaders cX7_troubledReaders 5 (some .int) ∈ TMW := tm_in 753 (by decide +kernel) (by decide +kernel)
theorem tl_L_201 : Cond.methodLink RL 201 yX8_troubledReaders ∈ TMW := tm_in 1757 (by decide +kernel) (by decide +kernel)
theorem ti_X8_troubledReaders : Cond.instanceMethod yX8_troubledReaders ∈ TMW := tm_in 1758 (by decide +kernel) (by decide +kernel)
theorem ts_X8_troubledReaders : Cond.selects RX8 yX8_troubledReaders yX8_troubledReaders ∈ TMW := tm_in 1759 (by decide +kernel) (by decide +kernel)
theorem tc_X8_troubledReaders : Cond.code yX8_troubledReaders cX8_troubledReaders 3 (some .int) ∈ TMW := tm_in 1760 (by decide +kernel) (by decide +kernel)
theorem tl_L_202 : Cond.methodLink RL 202 yL_event ∈ TMW := tm_in 1035 (by decide +kernel) (by decide +kernel)
theorem tst_L_event : Cond.static yL_event ∈ TMW := tm_in 1036 (by decide +kernel) (by decide +kernel)
theorem tc_L_event : Cond.codeWith yL_event cL_event 5 (some .int) [(0, 10, 13, 28), (0, 10, 17, 18)] ∈ TMW := tm_in 1037 (by decide +kernel) (by decide +kernel)
theorem tl_L_204 : Cond.methodLink RL 204 yX8_event ∈ TMW := tm_in 1761 (by decide +kernel) (by decide +kernel)
theorem ti_X8_event : Cond.instanceMethod yX8_event ∈ TMW := tm_in 1762 (by decide +kernel) (by decide +kernel)
theorem ts_X8_event : Cond.selects RX8 yX8_event yX8_event ∈ TMW := tm_in 1763 (by decide +kernel) (by decide +kernel)
theorem tc_X8_event : Cond.code yX8_event cX8_event 3 (some .int) ∈ TMW := tm_in 1764 (by decide +kernel) (by decide +kernel)
theorem tl_L_205 : Cond.methodLink RL 205 yL_since ∈ TMW := tm_in 1042 (by decide +kernel) (by decide +kernel)
theorem tst_L_since : Cond.static yL_since ∈ TMW := tm_in 1043 (by decide +kernel) (by decide +kernel)
theorem tc_L_since : Cond.codeWith yL_since cL_since 5 (some .int) [(0, 10, 13, 28), (0, 10, 17, 18)] ∈ TMW := tm_in 1044 (by decide +kernel) (by decide +kernel)
theorem tl_L_207 : Cond.methodLink RL 207 yX8_since ∈ TMW := tm_in 1765 (by decide +kernel) (by decide +kernel)
theorem ti_X8_since : Cond.instanceMethod yX8_since ∈ TMW := tm_in 1766 (by decide +kernel) (by decide +kernel)
theorem ts_X8_since : Cond.selects RX8 yX8_since yX8_since ∈ TMW := tm_in 1767 (by decide +kernel) (by decide +kernel)
theorem tc_X8_since : Cond.code yX8_since cX8_since 4 (some .int) ∈ TMW := tm_in 1768 (by decide +kernel) (by decide +kernel)
theorem tl_L_208 : Cond.methodLink RL 208 yL_account ∈ TMW := tm_in 1054 (by decide +kernel) (by decide +kernel)
theorem tst_L_account : Cond.static yL_account ∈ TMW := tm_in 1055 (by decide +kernel) (by decide +kernel)
theorem tc_L_account : Cond.codeWith yL_account cL_account 4 (some .int) [(0, 9, 12, 18)] ∈ TMW := tm_in 1056 (by decide +kernel) (by decide +kernel)
theorem tl_L_210 : Cond.methodLink RL 210 yX8_account ∈ TMW := tm_in 1769 (by decide +kernel) (by decide +kernel)
theorem ti_X8_account : Cond.instanceMethod yX8_account ∈ TMW := tm_in 1770 (by decide +kernel) (by decide +kernel)
theorem ts_X8_account : Cond.selects RX8 yX8_account yX8_account ∈ TMW := tm_in 1771 (by decide +kernel) (by decide +kernel)
theorem tc_X8_account : Cond.code yX8_account cX8_account 2 (some .int) ∈ TMW := tm_in 1772 (by decide +kernel) (by decide +kernel)
theorem tl_L_211 : Cond.methodLink RL 211 yL_put ∈ TMW := tm_in 1061 (by decide +kernel) (by decide +kernel)
theorem tst_L_put : Cond.static yL_put ∈ TMW := tm_in 1062 (by decide +kernel) (by decide +kernel)
theorem tc_L_put : Cond.codeWith yL_put cL_put 5 (some .int) [(0, 10, 13, 28), (0, 10, 17, 18)] ∈ TMW := tm_in 1063 (by decide +kernel) (by decide +kernel)
theorem tl_L_213 : Cond.methodLink RL 213 yX8_put ∈ TMW := tm_in 1828 (by decide +kernel) (by decide +kernel)
theorem ti_X8_put : Cond.instanceMethod yX8_put ∈ TMW := tm_in 1829 (by decide +kernel) (by decide +kernel)
theorem ts_X8_put : Cond.selects RX8 yX8_put yX8_put ∈ TMW := tm_in 1830 (by decide +kernel) (by decide +kernel)
theorem tc_X8_put : Cond.code yX8_put cX8_put 3 (some .int) ∈ TMW := tm_in 1831 (by decide +kernel) (by decide +kernel)
-- ----- case 10: read
set_option maxRecDepth 100000 in
theorem law_case_10 {p : Program} {l : Launch} {e : Env} {s : State} {m : MethodId} {args : Array Value} {below : List Frame} {meth : Method} {c : Code} {A : Nat → Prop} {D : va_G} {cy : Nat → ClassId} {ad ar : Nat → Nat} {o1 o2 : Nat} {cL cD : ClassId} {adK adV adE : Nat → Nat} {tC : Nat} {Q : State → Prop} {rt : Option FieldType} {cells slots b i L : Nat} {xs : Nat → Int32} {Rel Rel2 : tmM → List Int32 → tmM → Prop} (hl : l.stackTraces = false) (hp : tP_read Rel Rel2) (hX : va_X b L xs s s.heap) (hbl : b < s.heap.size) (hbA : ¬ A b) (hi : i + 5 ≤ L ∧ L ≤ 2560) (hE : tmSc adK adV adE tC A s s.heap) (hTh : tmTh A s s.heap) (hF : tlF D cy cL cD s) (hcs : cells + 64 ≤ 601024 ∧ slots + 8000 ≤ 7293034) {κ b0 : Nat} {u v w : tmM} {bs : List Int32} {xo : Int64} {xd : UInt64} (C0 : tmC p s m args meth c cL_law 10 rt RL TMW tm_NWC D cy tm_s0 tm_a0 0 (tlW cy ad ar o1 o2 cL cD κ b0 u v w xo xd) A) (hT : tmTx κ u bs) (hR : Rel v bs w) (cont : ∀ (κ b0 : Nat) (u v w : tmM) (bs : List Int32) (xo : Int64) (xd : UInt64), tmC p s m args meth c cL_law 10 rt RL TMW tm_NWC D cy tm_s0 tm_a0 0 (tlW cy ad ar o1 o2 cL cD κ b0 u v w xo xd) A → tmTx κ u bs → Rel2 v bs w → tmG p l e room_1 s m args below meth c (cells + 64) (slots + 8000) Q 10 D cy tm_s0 tm_a0 0 (tlW cy ad ar o1 o2 cL cD κ b0 u v w xo xd) A () 2790 [(0, .ref b), (1, .ref (ad 247)), (2, .ref (ar 0)), (3, .ref o1), (4, .ref o2), (5, .int (nI i))] [] tm_v0 (some ())) : tmG p l e room_1 s m args below meth c (cells) (slots) Q 10 D cy tm_s0 tm_a0 0 (tlW cy ad ar o1 o2 cL cD κ b0 u v w xo xd) A () 742 [(0, .ref b), (1, .ref (ad 247)), (2, .ref (ar 0)), (3, .ref o1), (4, .ref o2), (5, .int (nI i))] [] tm_v0 (some ()) := by
  obtain ⟨k, xo', xd', v', bs', r, w1, w2, ho, hr, ht, heq, hR'⟩ := hp (xs (i + 1)) (xs (i + 2)) v bs w xo xd hR
  refine tg_aload_n 1 C0 dL_law_742 rfl rfl ?_
  refine tg_aload_n 0 C0 dL_law_743 rfl rfl ?_
  refine tg_iload 5 C0 dL_law_744 rfl ?_
  refine tg_iconst (x := nI 1) C0 dL_law_746 (by decide) ?_
  refine tg_iadd C0 dL_law_747 ?_
  rw [tl_add i 1]
  refine tl_sld C0 hX hbl hbA (tl_idx (by omega) hi.2) dL_law_748 ?_
  rw [nI_clamp (show i + 1 < 2147483648 by omega)]
  refine tg_aload_n 0 C0 dL_law_749 rfl rfl ?_
  refine tg_iload 5 C0 dL_law_750 rfl ?_
  refine tg_iconst (x := nI 2) C0 dL_law_752 (by decide) ?_
  refine tg_iadd C0 dL_law_753 ?_
  rw [tl_add i 2]
  refine tl_sld C0 hX hbl hbA (tl_idx (by omega) hi.2) dL_law_754 ?_
  rw [nI_clamp (show i + 2 < 2147483648 by omega)]
  refine tg_aload_n 3 C0 dL_law_755 rfl rfl ?_
  refine tl_callS (st := []) (st0 := _) (xo' := xo') (xd' := xd') (v' := v') (bs' := bs') 4 C0 hE hTh hF hT dL_law_756 (cL_c_read l hl (xs (i + 1)) (xs (i + 2)) v bs) ho rfl (tl_gS2 tl_L_182 tst_L_read tn_L tc_L_read) rfl rfl rfl rfl (by decide +kernel) ⟨Nat.le_of_ble_eq_true rfl, Nat.le_of_ble_eq_true rfl⟩ (Nat.le_of_ble_eq_true rfl) ⟨by show _ ≤ 601024; omega, by show _ ≤ 7293034; omega⟩ (fun κ b0 u hT C0 => ?_)
  refine tg_istore [(6, .int k), (0, .ref b), (1, .ref (ad 247)), (2, .ref (ar 0)), (3, .ref o1), (4, .ref o2), (5, .int (nI i))] C0 dL_law_759 (by decide) rfl ?_
  refine tg_aload_n 3 C0 dL_law_761 rfl rfl ?_
  refine tg_aload_n 1 C0 dL_law_762 rfl rfl ?_
  refine tg_iload 6 C0 dL_law_763 rfl ?_
  refine tg_iconst (x := nI 1) C0 dL_law_765 (by decide) ?_
  refine tg_iadd C0 dL_law_766 ?_
  rw [tl_add i 1]
  refine tl_sld C0 hX hbl hbA (tl_idx (by omega) hi.2) dL_law_767 ?_
  rw [nI_clamp (show i + 1 < 2147483648 by omega)]
  refine tg_aload_n 1 C0 dL_law_768 rfl rfl ?_
  refine tg_iload 6 C0 dL_law_769 rfl ?_
  refine tg_iconst (x := nI 2) C0 dL_law_771 (by decide) ?_
  refine tg_iadd C0 dL_law_772 ?_
  rw [tl_add i 2]
  refine tl_sld C0 hX hbl hbA (tl_idx (by omega) hi.2) dL_law_773 ?_
  rw [nI_clamp (show i + 2 < 2147483648 by omega)]
  refine tl_mi (X' := tlW cy ad ar o1 o2 cL cD κ b0 u v' w1 xo' xd') (NW1 := tm_NWR) (pre := (tm_w cy tm_shC ad 256 v' ++ tmXB cy (ad 256) κ b0 u)) (suf := tlO o1 o2 cL cD xo' xd') (sh := tm_shR) (n := 13) (ad := ar) (As := [.int (xs (i + 1)), .int (xs (i + 2))]) (fs := [none, some 1, some 2, none, some 3, some 4, some 5, none, none, none, none, none, some 6, none, some 7, some 8, none, none, none, none, none, none, none, some 9, none, some 10, some 11, some 12]) 0 2 C0 rfl rfl (fun _ _ _ h => by cases h) rfl dL_law_774 (c_X8_read l (xs (i + 1)) (xs (i + 2)) _) hr rfl rfl (by decide) rfl rfl (tm_gV tl_L_184 ti_X8_read ts_X8_read tn_X8 tc_X8_read) rfl rfl rfl rfl (by decide +kernel) ⟨Nat.le_of_ble_eq_true rfl, Nat.le_of_ble_eq_true rfl⟩ (Nat.le_of_ble_eq_true rfl) ⟨by show _ ≤ 601024; omega, by show _ ≤ 7293034; omega⟩ (fun C0 => ?_)
  refine tg_istore [(7, .int r), (6, .int k), (0, .ref b), (1, .ref (ad 247)), (2, .ref (ar 0)), (3, .ref o1), (4, .ref o2), (5, .int (nI i))] C0 dL_law_777 (by decide) rfl ?_
  refine tg_aload_n 4 C0 dL_law_779 rfl rfl ?_
  refine tl_mi (X' := tlW cy ad ar o1 o2 cL cD κ b0 u v' w2 xo' xd') (NW1 := tm_NWR) (pre := (tm_w cy tm_shC ad 256 v' ++ tmXB cy (ad 256) κ b0 u)) (suf := tlO o1 o2 cL cD xo' xd') (sh := tm_shR) (n := 13) (ad := ar) (As := []) (fs := [none, some 1, some 2, none, some 3, some 4, some 5, none, none, none, none, none, some 6, none, some 7, some 8, none, none, none, none, none, none, none, some 9, none, some 10, some 11, some 12]) 0 0 C0 rfl rfl (fun _ _ _ h => by cases h) rfl dL_law_780 (c_X8_thrown l _) ht rfl rfl (by decide) rfl rfl (tm_gV tl_L_145 ti_X8_thrown ts_X8_thrown tn_X8 tc_X8_thrown) rfl rfl rfl rfl (by decide +kernel) ⟨Nat.le_of_ble_eq_true rfl, Nat.le_of_ble_eq_true rfl⟩ (Nat.le_of_ble_eq_true rfl) ⟨by show _ ≤ 601024; omega, by show _ ≤ 7293034; omega⟩ (fun C0 => ?_)
  refine tg_iload 1 C0 dL_law_783 rfl ?_
  refine tg_eq (r := if k = k then some () else none) (by rw [if_pos rfl]) ?_
  refine tg_icmp_eq 790 C0 dL_law_785 (by decide) (fun _ => ?_) (fun q => absurd rfl q)
  refine tg_iload 1 C0 dL_law_790 rfl ?_
  refine tg_eq (r := if k = 0 then some () else some ()) (by split <;> rfl) ?_
  refine tg_if_ne 807 C0 dL_law_792 (by decide) (fun _ => ?_) (fun hk => ?_)
  · refine tg_goto 2790 C0 dL_law_807 (by decide) ?_
    refine tg_sub (lv' := [(0, .ref b), (1, .ref (ad 247)), (2, .ref (ar 0)), (3, .ref o1), (4, .ref o2), (5, .int (nI i))]) [2, 3, 4, 5, 6, 7] rfl ?_
    exact tl_widen (by omega) (by omega) (cont _ _ _ _ _ _ _ _ C0 hT hR')
  refine tg_aload_n 5 C0 dL_law_795 rfl rfl ?_
  refine tg_iconst (x := 0) C0 dL_law_796 (by decide) ?_
  refine tl_lald C0 hF dL_law_797 ?_
  refine tg_iload 0 C0 dL_law_798 rfl ?_
  refine tl_i2l C0 dL_law_800 ?_
  refine tl_lcmp (heq hk) C0 dL_law_801 ?_
  refine tg_eq (r := if (0 : Int32) = 0 then some () else none) (by rw [if_pos rfl]) ?_
  refine tg_if_eq 807 C0 dL_law_802 (by decide) (fun _ => ?_) (fun q => absurd rfl q)
  refine tg_goto 2790 C0 dL_law_807 (by decide) ?_
  refine tg_sub (lv' := [(0, .ref b), (1, .ref (ad 247)), (2, .ref (ar 0)), (3, .ref o1), (4, .ref o2), (5, .int (nI i))]) [2, 3, 4, 5, 6, 7] rfl ?_
  exact tl_widen (by omega) (by omega) (cont _ _ _ _ _ _ _ _ C0 hT hR')
-- ----- case 11: isSwitched
set_option maxRecDepth 100000 in
theorem law_case_11 {p : Program} {l : Launch} {e : Env} {s : State} {m : MethodId} {args : Array Value} {below : List Frame} {meth : Method} {c : Code} {A : Nat → Prop} {D : va_G} {cy : Nat → ClassId} {ad ar : Nat → Nat} {o1 o2 : Nat} {cL cD : ClassId} {adK adV adE : Nat → Nat} {tC : Nat} {Q : State → Prop} {rt : Option FieldType} {cells slots b i L : Nat} {xs : Nat → Int32} {Rel Rel2 : tmM → List Int32 → tmM → Prop} (hl : l.stackTraces = false) (hp : tP_isSwitched Rel Rel2) (hX : va_X b L xs s s.heap) (hbl : b < s.heap.size) (hbA : ¬ A b) (hi : i + 5 ≤ L ∧ L ≤ 2560) (hE : tmSc adK adV adE tC A s s.heap) (hTh : tmTh A s s.heap) (hF : tlF D cy cL cD s) (hcs : cells + 64 ≤ 601024 ∧ slots + 8000 ≤ 7293034) {κ b0 : Nat} {u v w : tmM} {bs : List Int32} {xo : Int64} {xd : UInt64} (C0 : tmC p s m args meth c cL_law 10 rt RL TMW tm_NWC D cy tm_s0 tm_a0 0 (tlW cy ad ar o1 o2 cL cD κ b0 u v w xo xd) A) (hT : tmTx κ u bs) (hR : Rel v bs w) (cont : ∀ (κ b0 : Nat) (u v w : tmM) (bs : List Int32) (xo : Int64) (xd : UInt64), tmC p s m args meth c cL_law 10 rt RL TMW tm_NWC D cy tm_s0 tm_a0 0 (tlW cy ad ar o1 o2 cL cD κ b0 u v w xo xd) A → tmTx κ u bs → Rel2 v bs w → tmG p l e room_1 s m args below meth c (cells + 64) (slots + 8000) Q 10 D cy tm_s0 tm_a0 0 (tlW cy ad ar o1 o2 cL cD κ b0 u v w xo xd) A () 2790 [(0, .ref b), (1, .ref (ad 247)), (2, .ref (ar 0)), (3, .ref o1), (4, .ref o2), (5, .int (nI i))] [] tm_v0 (some ())) : tmG p l e room_1 s m args below meth c (cells) (slots) Q 10 D cy tm_s0 tm_a0 0 (tlW cy ad ar o1 o2 cL cD κ b0 u v w xo xd) A () 810 [(0, .ref b), (1, .ref (ad 247)), (2, .ref (ar 0)), (3, .ref o1), (4, .ref o2), (5, .int (nI i))] [] tm_v0 (some ()) := by
  obtain ⟨k, xo', xd', v', bs', r, w1, w2, ho, hr, ht, heq, hR'⟩ := hp (xs (i + 1)) v bs w xo xd hR
  refine tg_aload_n 1 C0 dL_law_810 rfl rfl ?_
  refine tg_aload_n 0 C0 dL_law_811 rfl rfl ?_
  refine tg_iload 5 C0 dL_law_812 rfl ?_
  refine tg_iconst (x := nI 1) C0 dL_law_814 (by decide) ?_
  refine tg_iadd C0 dL_law_815 ?_
  rw [tl_add i 1]
  refine tl_sld C0 hX hbl hbA (tl_idx (by omega) hi.2) dL_law_816 ?_
  rw [nI_clamp (show i + 1 < 2147483648 by omega)]
  refine tg_aload_n 3 C0 dL_law_817 rfl rfl ?_
  refine tl_callS (st := []) (st0 := _) (xo' := xo') (xd' := xd') (v' := v') (bs' := bs') 3 C0 hE hTh hF hT dL_law_818 (cL_c_isSwitched l hl (xs (i + 1)) v bs) ho rfl (tl_gS2 tl_L_185 tst_L_isSwitched tn_L tc_L_isSwitched) rfl rfl rfl rfl (by decide +kernel) ⟨Nat.le_of_ble_eq_true rfl, Nat.le_of_ble_eq_true rfl⟩ (Nat.le_of_ble_eq_true rfl) ⟨by show _ ≤ 601024; omega, by show _ ≤ 7293034; omega⟩ (fun κ b0 u hT C0 => ?_)
  refine tg_istore [(6, .int k), (0, .ref b), (1, .ref (ad 247)), (2, .ref (ar 0)), (3, .ref o1), (4, .ref o2), (5, .int (nI i))] C0 dL_law_821 (by decide) rfl ?_
  refine tg_aload_n 3 C0 dL_law_823 rfl rfl ?_
  refine tg_aload_n 1 C0 dL_law_824 rfl rfl ?_
  refine tg_iload 6 C0 dL_law_825 rfl ?_
  refine tg_iconst (x := nI 1) C0 dL_law_827 (by decide) ?_
  refine tg_iadd C0 dL_law_828 ?_
  rw [tl_add i 1]
  refine tl_sld C0 hX hbl hbA (tl_idx (by omega) hi.2) dL_law_829 ?_
  rw [nI_clamp (show i + 1 < 2147483648 by omega)]
  refine tl_mi (X' := tlW cy ad ar o1 o2 cL cD κ b0 u v' w1 xo' xd') (NW1 := tm_NWR) (pre := (tm_w cy tm_shC ad 256 v' ++ tmXB cy (ad 256) κ b0 u)) (suf := tlO o1 o2 cL cD xo' xd') (sh := tm_shR) (n := 13) (ad := ar) (As := [.int (xs (i + 1))]) (fs := [none, some 1, some 2, none, some 3, some 4, some 5, none, none, none, none, none, some 6, none, some 7, some 8, none, none, none, none, none, none, none, some 9, none, some 10, some 11, some 12]) 0 1 C0 rfl rfl (fun _ _ _ h => by cases h) rfl dL_law_830 (c_X8_isSwitched l (xs (i + 1)) _) hr rfl rfl (by decide) rfl rfl (tm_gV tl_L_187 ti_X8_isSwitched ts_X8_isSwitched tn_X8 tc_X8_isSwitched) rfl rfl rfl rfl (by decide +kernel) ⟨Nat.le_of_ble_eq_true rfl, Nat.le_of_ble_eq_true rfl⟩ (Nat.le_of_ble_eq_true rfl) ⟨by show _ ≤ 601024; omega, by show _ ≤ 7293034; omega⟩ (fun C0 => ?_)
  refine tg_istore [(7, .int r), (6, .int k), (0, .ref b), (1, .ref (ad 247)), (2, .ref (ar 0)), (3, .ref o1), (4, .ref o2), (5, .int (nI i))] C0 dL_law_833 (by decide) rfl ?_
  refine tg_aload_n 4 C0 dL_law_835 rfl rfl ?_
  refine tl_mi (X' := tlW cy ad ar o1 o2 cL cD κ b0 u v' w2 xo' xd') (NW1 := tm_NWR) (pre := (tm_w cy tm_shC ad 256 v' ++ tmXB cy (ad 256) κ b0 u)) (suf := tlO o1 o2 cL cD xo' xd') (sh := tm_shR) (n := 13) (ad := ar) (As := []) (fs := [none, some 1, some 2, none, some 3, some 4, some 5, none, none, none, none, none, some 6, none, some 7, some 8, none, none, none, none, none, none, none, some 9, none, some 10, some 11, some 12]) 0 0 C0 rfl rfl (fun _ _ _ h => by cases h) rfl dL_law_836 (c_X8_thrown l _) ht rfl rfl (by decide) rfl rfl (tm_gV tl_L_145 ti_X8_thrown ts_X8_thrown tn_X8 tc_X8_thrown) rfl rfl rfl rfl (by decide +kernel) ⟨Nat.le_of_ble_eq_true rfl, Nat.le_of_ble_eq_true rfl⟩ (Nat.le_of_ble_eq_true rfl) ⟨by show _ ≤ 601024; omega, by show _ ≤ 7293034; omega⟩ (fun C0 => ?_)
  refine tg_iload 1 C0 dL_law_839 rfl ?_
  refine tg_eq (r := if k = k then some () else none) (by rw [if_pos rfl]) ?_
  refine tg_icmp_eq 846 C0 dL_law_841 (by decide) (fun _ => ?_) (fun q => absurd rfl q)
  refine tg_iload 1 C0 dL_law_846 rfl ?_
  refine tg_eq (r := if k = 0 then some () else some ()) (by split <;> rfl) ?_
  refine tg_if_ne 870 C0 dL_law_848 (by decide) (fun _ => ?_) (fun hk => ?_)
  · refine tg_goto 2790 C0 dL_law_870 (by decide) ?_
    refine tg_sub (lv' := [(0, .ref b), (1, .ref (ad 247)), (2, .ref (ar 0)), (3, .ref o1), (4, .ref o2), (5, .int (nI i))]) [2, 3, 4, 5, 6, 7] rfl ?_
    exact tl_widen (by omega) (by omega) (cont _ _ _ _ _ _ _ _ C0 hT hR')
  refine tg_aload_n 5 C0 dL_law_851 rfl rfl ?_
  refine tg_iconst (x := 0) C0 dL_law_852 (by decide) ?_
  refine tl_lald C0 hF dL_law_853 ?_
  refine tg_iload 0 C0 dL_law_854 rfl ?_
  refine tl_boolL 863 864 C0 dL_law_856 dL_law_859 dL_law_860 dL_law_863 (by decide) (by decide) rfl ?_
  refine tl_lcmp (heq hk) C0 dL_law_864 ?_
  refine tg_eq (r := if (0 : Int32) = 0 then some () else none) (by rw [if_pos rfl]) ?_
  refine tg_if_eq 870 C0 dL_law_865 (by decide) (fun _ => ?_) (fun q => absurd rfl q)
  refine tg_goto 2790 C0 dL_law_870 (by decide) ?_
  refine tg_sub (lv' := [(0, .ref b), (1, .ref (ad 247)), (2, .ref (ar 0)), (3, .ref o1), (4, .ref o2), (5, .int (nI i))]) [2, 3, 4, 5, 6, 7] rfl ?_
  exact tl_widen (by omega) (by omega) (cont _ _ _ _ _ _ _ _ C0 hT hR')
-- ----- case 12: chunk
set_option maxRecDepth 100000 in
theorem law_case_12 {p : Program} {l : Launch} {e : Env} {s : State} {m : MethodId} {args : Array Value} {below : List Frame} {meth : Method} {c : Code} {A : Nat → Prop} {D : va_G} {cy : Nat → ClassId} {ad ar : Nat → Nat} {o1 o2 : Nat} {cL cD : ClassId} {adK adV adE : Nat → Nat} {tC : Nat} {Q : State → Prop} {rt : Option FieldType} {cells slots b i L : Nat} {xs : Nat → Int32} {Rel Rel2 : tmM → List Int32 → tmM → Prop} (hl : l.stackTraces = false) (hp : tP_chunk Rel Rel2) (hX : va_X b L xs s s.heap) (hbl : b < s.heap.size) (hbA : ¬ A b) (hi : i + 5 ≤ L ∧ L ≤ 2560) (hE : tmSc adK adV adE tC A s s.heap) (hTh : tmTh A s s.heap) (hF : tlF D cy cL cD s) (hcs : cells + 64 ≤ 601024 ∧ slots + 8000 ≤ 7293034) {κ b0 : Nat} {u v w : tmM} {bs : List Int32} {xo : Int64} {xd : UInt64} (C0 : tmC p s m args meth c cL_law 10 rt RL TMW tm_NWC D cy tm_s0 tm_a0 0 (tlW cy ad ar o1 o2 cL cD κ b0 u v w xo xd) A) (hT : tmTx κ u bs) (hR : Rel v bs w) (cont : ∀ (κ b0 : Nat) (u v w : tmM) (bs : List Int32) (xo : Int64) (xd : UInt64), tmC p s m args meth c cL_law 10 rt RL TMW tm_NWC D cy tm_s0 tm_a0 0 (tlW cy ad ar o1 o2 cL cD κ b0 u v w xo xd) A → tmTx κ u bs → Rel2 v bs w → tmG p l e room_1 s m args below meth c (cells + 64) (slots + 8000) Q 10 D cy tm_s0 tm_a0 0 (tlW cy ad ar o1 o2 cL cD κ b0 u v w xo xd) A () 2790 [(0, .ref b), (1, .ref (ad 247)), (2, .ref (ar 0)), (3, .ref o1), (4, .ref o2), (5, .int (nI i))] [] tm_v0 (some ())) : tmG p l e room_1 s m args below meth c (cells) (slots) Q 10 D cy tm_s0 tm_a0 0 (tlW cy ad ar o1 o2 cL cD κ b0 u v w xo xd) A () 873 [(0, .ref b), (1, .ref (ad 247)), (2, .ref (ar 0)), (3, .ref o1), (4, .ref o2), (5, .int (nI i))] [] tm_v0 (some ()) := by
  obtain ⟨k, xo', xd', v', bs', r, w1, w2, ho, hr, ht, heq, hR'⟩ := hp (xs (i + 1)) (xs (i + 2)) v bs w xo xd hR
  refine tg_aload_n 1 C0 dL_law_873 rfl rfl ?_
  refine tg_aload_n 0 C0 dL_law_874 rfl rfl ?_
  refine tg_iload 5 C0 dL_law_875 rfl ?_
  refine tg_iconst (x := nI 1) C0 dL_law_877 (by decide) ?_
  refine tg_iadd C0 dL_law_878 ?_
  rw [tl_add i 1]
  refine tl_sld C0 hX hbl hbA (tl_idx (by omega) hi.2) dL_law_879 ?_
  rw [nI_clamp (show i + 1 < 2147483648 by omega)]
  refine tg_aload_n 0 C0 dL_law_880 rfl rfl ?_
  refine tg_iload 5 C0 dL_law_881 rfl ?_
  refine tg_iconst (x := nI 2) C0 dL_law_883 (by decide) ?_
  refine tg_iadd C0 dL_law_884 ?_
  rw [tl_add i 2]
  refine tl_sld C0 hX hbl hbA (tl_idx (by omega) hi.2) dL_law_885 ?_
  rw [nI_clamp (show i + 2 < 2147483648 by omega)]
  refine tg_aload_n 3 C0 dL_law_886 rfl rfl ?_
  refine tl_callS (st := []) (st0 := _) (xo' := xo') (xd' := xd') (v' := v') (bs' := bs') 4 C0 hE hTh hF hT dL_law_887 (cL_c_chunk l hl (xs (i + 1)) (xs (i + 2)) v bs) ho rfl (tl_gS2 tl_L_188 tst_L_chunk tn_L tc_L_chunk) rfl rfl rfl rfl (by decide +kernel) ⟨Nat.le_of_ble_eq_true rfl, Nat.le_of_ble_eq_true rfl⟩ (Nat.le_of_ble_eq_true rfl) ⟨by show _ ≤ 601024; omega, by show _ ≤ 7293034; omega⟩ (fun κ b0 u hT C0 => ?_)
  refine tg_istore [(6, .int k), (0, .ref b), (1, .ref (ad 247)), (2, .ref (ar 0)), (3, .ref o1), (4, .ref o2), (5, .int (nI i))] C0 dL_law_890 (by decide) rfl ?_
  refine tg_aload_n 3 C0 dL_law_892 rfl rfl ?_
  refine tg_aload_n 1 C0 dL_law_893 rfl rfl ?_
  refine tg_iload 6 C0 dL_law_894 rfl ?_
  refine tg_iconst (x := nI 1) C0 dL_law_896 (by decide) ?_
  refine tg_iadd C0 dL_law_897 ?_
  rw [tl_add i 1]
  refine tl_sld C0 hX hbl hbA (tl_idx (by omega) hi.2) dL_law_898 ?_
  rw [nI_clamp (show i + 1 < 2147483648 by omega)]
  refine tg_aload_n 1 C0 dL_law_899 rfl rfl ?_
  refine tg_iload 6 C0 dL_law_900 rfl ?_
  refine tg_iconst (x := nI 2) C0 dL_law_902 (by decide) ?_
  refine tg_iadd C0 dL_law_903 ?_
  rw [tl_add i 2]
  refine tl_sld C0 hX hbl hbA (tl_idx (by omega) hi.2) dL_law_904 ?_
  rw [nI_clamp (show i + 2 < 2147483648 by omega)]
  refine tl_mi (X' := tlW cy ad ar o1 o2 cL cD κ b0 u v' w1 xo' xd') (NW1 := tm_NWR) (pre := (tm_w cy tm_shC ad 256 v' ++ tmXB cy (ad 256) κ b0 u)) (suf := tlO o1 o2 cL cD xo' xd') (sh := tm_shR) (n := 13) (ad := ar) (As := [.int (xs (i + 1)), .int (xs (i + 2))]) (fs := [none, some 1, some 2, none, some 3, some 4, some 5, none, none, none, none, none, some 6, none, some 7, some 8, none, none, none, none, none, none, none, some 9, none, some 10, some 11, some 12]) 0 2 C0 rfl rfl (fun _ _ _ h => by cases h) rfl dL_law_905 (c_X8_chunk l (xs (i + 1)) (xs (i + 2)) _) hr rfl rfl (by decide) rfl rfl (tm_gV tl_L_190 ti_X8_chunk ts_X8_chunk tn_X8 tc_X8_chunk) rfl rfl rfl rfl (by decide +kernel) ⟨Nat.le_of_ble_eq_true rfl, Nat.le_of_ble_eq_true rfl⟩ (Nat.le_of_ble_eq_true rfl) ⟨by show _ ≤ 601024; omega, by show _ ≤ 7293034; omega⟩ (fun C0 => ?_)
  refine tg_istore [(7, .int r), (6, .int k), (0, .ref b), (1, .ref (ad 247)), (2, .ref (ar 0)), (3, .ref o1), (4, .ref o2), (5, .int (nI i))] C0 dL_law_908 (by decide) rfl ?_
  refine tg_aload_n 4 C0 dL_law_910 rfl rfl ?_
  refine tl_mi (X' := tlW cy ad ar o1 o2 cL cD κ b0 u v' w2 xo' xd') (NW1 := tm_NWR) (pre := (tm_w cy tm_shC ad 256 v' ++ tmXB cy (ad 256) κ b0 u)) (suf := tlO o1 o2 cL cD xo' xd') (sh := tm_shR) (n := 13) (ad := ar) (As := []) (fs := [none, some 1, some 2, none, some 3, some 4, some 5, none, none, none, none, none, some 6, none, some 7, some 8, none, none, none, none, none, none, none, some 9, none, some 10, some 11, some 12]) 0 0 C0 rfl rfl (fun _ _ _ h => by cases h) rfl dL_law_911 (c_X8_thrown l _) ht rfl rfl (by decide) rfl rfl (tm_gV tl_L_145 ti_X8_thrown ts_X8_thrown tn_X8 tc_X8_thrown) rfl rfl rfl rfl (by decide +kernel) ⟨Nat.le_of_ble_eq_true rfl, Nat.le_of_ble_eq_true rfl⟩ (Nat.le_of_ble_eq_true rfl) ⟨by show _ ≤ 601024; omega, by show _ ≤ 7293034; omega⟩ (fun C0 => ?_)
  refine tg_iload 1 C0 dL_law_914 rfl ?_
  refine tg_eq (r := if k = k then some () else none) (by rw [if_pos rfl]) ?_
  refine tg_icmp_eq 921 C0 dL_law_916 (by decide) (fun _ => ?_) (fun q => absurd rfl q)
  refine tg_iload 1 C0 dL_law_921 rfl ?_
  refine tg_eq (r := if k = 0 then some () else some ()) (by split <;> rfl) ?_
  refine tg_if_ne 938 C0 dL_law_923 (by decide) (fun _ => ?_) (fun hk => ?_)
  · refine tg_goto 2790 C0 dL_law_938 (by decide) ?_
    refine tg_sub (lv' := [(0, .ref b), (1, .ref (ad 247)), (2, .ref (ar 0)), (3, .ref o1), (4, .ref o2), (5, .int (nI i))]) [2, 3, 4, 5, 6, 7] rfl ?_
    exact tl_widen (by omega) (by omega) (cont _ _ _ _ _ _ _ _ C0 hT hR')
  refine tg_aload_n 5 C0 dL_law_926 rfl rfl ?_
  refine tg_iconst (x := 0) C0 dL_law_927 (by decide) ?_
  refine tl_lald C0 hF dL_law_928 ?_
  refine tg_iload 0 C0 dL_law_929 rfl ?_
  refine tl_i2l C0 dL_law_931 ?_
  refine tl_lcmp (heq hk) C0 dL_law_932 ?_
  refine tg_eq (r := if (0 : Int32) = 0 then some () else none) (by rw [if_pos rfl]) ?_
  refine tg_if_eq 938 C0 dL_law_933 (by decide) (fun _ => ?_) (fun q => absurd rfl q)
  refine tg_goto 2790 C0 dL_law_938 (by decide) ?_
  refine tg_sub (lv' := [(0, .ref b), (1, .ref (ad 247)), (2, .ref (ar 0)), (3, .ref o1), (4, .ref o2), (5, .int (nI i))]) [2, 3, 4, 5, 6, 7] rfl ?_
  exact tl_widen (by omega) (by omega) (cont _ _ _ _ _ _ _ _ C0 hT hR')
-- ----- case 13: stale
set_option maxRecDepth 100000 in
theorem law_case_13 {p : Program} {l : Launch} {e : Env} {s : State} {m : MethodId} {args : Array Value} {below : List Frame} {meth : Method} {c : Code} {A : Nat → Prop} {D : va_G} {cy : Nat → ClassId} {ad ar : Nat → Nat} {o1 o2 : Nat} {cL cD : ClassId} {adK adV adE : Nat → Nat} {tC : Nat} {Q : State → Prop} {rt : Option FieldType} {cells slots b i L : Nat} {xs : Nat → Int32} {Rel Rel2 : tmM → List Int32 → tmM → Prop} (hl : l.stackTraces = false) (hp : tP_stale Rel Rel2) (hX : va_X b L xs s s.heap) (hbl : b < s.heap.size) (hbA : ¬ A b) (hi : i + 5 ≤ L ∧ L ≤ 2560) (hE : tmSc adK adV adE tC A s s.heap) (hTh : tmTh A s s.heap) (hF : tlF D cy cL cD s) (hcs : cells + 64 ≤ 601024 ∧ slots + 8000 ≤ 7293034) {κ b0 : Nat} {u v w : tmM} {bs : List Int32} {xo : Int64} {xd : UInt64} (C0 : tmC p s m args meth c cL_law 10 rt RL TMW tm_NWC D cy tm_s0 tm_a0 0 (tlW cy ad ar o1 o2 cL cD κ b0 u v w xo xd) A) (hT : tmTx κ u bs) (hR : Rel v bs w) (cont : ∀ (κ b0 : Nat) (u v w : tmM) (bs : List Int32) (xo : Int64) (xd : UInt64), tmC p s m args meth c cL_law 10 rt RL TMW tm_NWC D cy tm_s0 tm_a0 0 (tlW cy ad ar o1 o2 cL cD κ b0 u v w xo xd) A → tmTx κ u bs → Rel2 v bs w → tmG p l e room_1 s m args below meth c (cells + 64) (slots + 8000) Q 10 D cy tm_s0 tm_a0 0 (tlW cy ad ar o1 o2 cL cD κ b0 u v w xo xd) A () 2790 [(0, .ref b), (1, .ref (ad 247)), (2, .ref (ar 0)), (3, .ref o1), (4, .ref o2), (5, .int (nI i))] [] tm_v0 (some ())) : tmG p l e room_1 s m args below meth c (cells) (slots) Q 10 D cy tm_s0 tm_a0 0 (tlW cy ad ar o1 o2 cL cD κ b0 u v w xo xd) A () 941 [(0, .ref b), (1, .ref (ad 247)), (2, .ref (ar 0)), (3, .ref o1), (4, .ref o2), (5, .int (nI i))] [] tm_v0 (some ()) := by
  obtain ⟨k, xo', xd', v', bs', r, w1, w2, ho, hr, ht, heq, hR'⟩ := hp (xs (i + 1)) v bs w xo xd hR
  refine tg_aload_n 1 C0 dL_law_941 rfl rfl ?_
  refine tg_aload_n 0 C0 dL_law_942 rfl rfl ?_
  refine tg_iload 5 C0 dL_law_943 rfl ?_
  refine tg_iconst (x := nI 1) C0 dL_law_945 (by decide) ?_
  refine tg_iadd C0 dL_law_946 ?_
  rw [tl_add i 1]
  refine tl_sld C0 hX hbl hbA (tl_idx (by omega) hi.2) dL_law_947 ?_
  rw [nI_clamp (show i + 1 < 2147483648 by omega)]
  refine tg_aload_n 3 C0 dL_law_948 rfl rfl ?_
  refine tl_callS (st := []) (st0 := _) (xo' := xo') (xd' := xd') (v' := v') (bs' := bs') 3 C0 hE hTh hF hT dL_law_949 (cL_c_stale l hl (xs (i + 1)) v bs) ho rfl (tl_gS2 tl_L_191 tst_L_stale tn_L tc_L_stale) rfl rfl rfl rfl (by decide +kernel) ⟨Nat.le_of_ble_eq_true rfl, Nat.le_of_ble_eq_true rfl⟩ (Nat.le_of_ble_eq_true rfl) ⟨by show _ ≤ 601024; omega, by show _ ≤ 7293034; omega⟩ (fun κ b0 u hT C0 => ?_)
  refine tg_istore [(6, .int k), (0, .ref b), (1, .ref (ad 247)), (2, .ref (ar 0)), (3, .ref o1), (4, .ref o2), (5, .int (nI i))] C0 dL_law_952 (by decide) rfl ?_
  refine tg_aload_n 3 C0 dL_law_954 rfl rfl ?_
  refine tg_aload_n 1 C0 dL_law_955 rfl rfl ?_
  refine tg_iload 6 C0 dL_law_956 rfl ?_
  refine tg_iconst (x := nI 1) C0 dL_law_958 (by decide) ?_
  refine tg_iadd C0 dL_law_959 ?_
  rw [tl_add i 1]
  refine tl_sld C0 hX hbl hbA (tl_idx (by omega) hi.2) dL_law_960 ?_
  rw [nI_clamp (show i + 1 < 2147483648 by omega)]
  refine tl_mi (X' := tlW cy ad ar o1 o2 cL cD κ b0 u v' w1 xo' xd') (NW1 := tm_NWR) (pre := (tm_w cy tm_shC ad 256 v' ++ tmXB cy (ad 256) κ b0 u)) (suf := tlO o1 o2 cL cD xo' xd') (sh := tm_shR) (n := 13) (ad := ar) (As := [.int (xs (i + 1))]) (fs := [none, some 1, some 2, none, some 3, some 4, some 5, none, none, none, none, none, some 6, none, some 7, some 8, none, none, none, none, none, none, none, some 9, none, some 10, some 11, some 12]) 0 1 C0 rfl rfl (fun _ _ _ h => by cases h) rfl dL_law_961 (c_X8_stale l (xs (i + 1)) _) hr rfl rfl (by decide) rfl rfl (tm_gV tl_L_193 ti_X8_stale ts_X8_stale tn_X8 tc_X8_stale) rfl rfl rfl rfl (by decide +kernel) ⟨Nat.le_of_ble_eq_true rfl, Nat.le_of_ble_eq_true rfl⟩ (Nat.le_of_ble_eq_true rfl) ⟨by show _ ≤ 601024; omega, by show _ ≤ 7293034; omega⟩ (fun C0 => ?_)
  refine tg_istore [(7, .int r), (6, .int k), (0, .ref b), (1, .ref (ad 247)), (2, .ref (ar 0)), (3, .ref o1), (4, .ref o2), (5, .int (nI i))] C0 dL_law_964 (by decide) rfl ?_
  refine tg_aload_n 4 C0 dL_law_966 rfl rfl ?_
  refine tl_mi (X' := tlW cy ad ar o1 o2 cL cD κ b0 u v' w2 xo' xd') (NW1 := tm_NWR) (pre := (tm_w cy tm_shC ad 256 v' ++ tmXB cy (ad 256) κ b0 u)) (suf := tlO o1 o2 cL cD xo' xd') (sh := tm_shR) (n := 13) (ad := ar) (As := []) (fs := [none, some 1, some 2, none, some 3, some 4, some 5, none, none, none, none, none, some 6, none, some 7, some 8, none, none, none, none, none, none, none, some 9, none, some 10, some 11, some 12]) 0 0 C0 rfl rfl (fun _ _ _ h => by cases h) rfl dL_law_967 (c_X8_thrown l _) ht rfl rfl (by decide) rfl rfl (tm_gV tl_L_145 ti_X8_thrown ts_X8_thrown tn_X8 tc_X8_thrown) rfl rfl rfl rfl (by decide +kernel) ⟨Nat.le_of_ble_eq_true rfl, Nat.le_of_ble_eq_true rfl⟩ (Nat.le_of_ble_eq_true rfl) ⟨by show _ ≤ 601024; omega, by show _ ≤ 7293034; omega⟩ (fun C0 => ?_)
  refine tg_iload 1 C0 dL_law_970 rfl ?_
  refine tg_eq (r := if k = k then some () else none) (by rw [if_pos rfl]) ?_
  refine tg_icmp_eq 977 C0 dL_law_972 (by decide) (fun _ => ?_) (fun q => absurd rfl q)
  refine tg_iload 1 C0 dL_law_977 rfl ?_
  refine tg_eq (r := if k = 0 then some () else some ()) (by split <;> rfl) ?_
  refine tg_if_ne 994 C0 dL_law_979 (by decide) (fun _ => ?_) (fun hk => ?_)
  · refine tg_goto 2790 C0 dL_law_994 (by decide) ?_
    refine tg_sub (lv' := [(0, .ref b), (1, .ref (ad 247)), (2, .ref (ar 0)), (3, .ref o1), (4, .ref o2), (5, .int (nI i))]) [2, 3, 4, 5, 6, 7] rfl ?_
    exact tl_widen (by omega) (by omega) (cont _ _ _ _ _ _ _ _ C0 hT hR')
  refine tg_aload_n 5 C0 dL_law_982 rfl rfl ?_
  refine tg_iconst (x := 0) C0 dL_law_983 (by decide) ?_
  refine tl_lald C0 hF dL_law_984 ?_
  refine tg_iload 0 C0 dL_law_985 rfl ?_
  refine tl_i2l C0 dL_law_987 ?_
  refine tl_lcmp (heq hk) C0 dL_law_988 ?_
  refine tg_eq (r := if (0 : Int32) = 0 then some () else none) (by rw [if_pos rfl]) ?_
  refine tg_if_eq 994 C0 dL_law_989 (by decide) (fun _ => ?_) (fun q => absurd rfl q)
  refine tg_goto 2790 C0 dL_law_994 (by decide) ?_
  refine tg_sub (lv' := [(0, .ref b), (1, .ref (ad 247)), (2, .ref (ar 0)), (3, .ref o1), (4, .ref o2), (5, .int (nI i))]) [2, 3, 4, 5, 6, 7] rfl ?_
  exact tl_widen (by omega) (by omega) (cont _ _ _ _ _ _ _ _ C0 hT hR')
-- ----- case 14: brokenPromise
set_option maxRecDepth 100000 in
theorem law_case_14 {p : Program} {l : Launch} {e : Env} {s : State} {m : MethodId} {args : Array Value} {below : List Frame} {meth : Method} {c : Code} {A : Nat → Prop} {D : va_G} {cy : Nat → ClassId} {ad ar : Nat → Nat} {o1 o2 : Nat} {cL cD : ClassId} {adK adV adE : Nat → Nat} {tC : Nat} {Q : State → Prop} {rt : Option FieldType} {cells slots b i L : Nat} {xs : Nat → Int32} {Rel Rel2 : tmM → List Int32 → tmM → Prop} (hl : l.stackTraces = false) (hp : tP_brokenPromise Rel Rel2) (hX : va_X b L xs s s.heap) (hbl : b < s.heap.size) (hbA : ¬ A b) (hi : i + 5 ≤ L ∧ L ≤ 2560) (hE : tmSc adK adV adE tC A s s.heap) (hTh : tmTh A s s.heap) (hF : tlF D cy cL cD s) (hcs : cells + 64 ≤ 601024 ∧ slots + 8000 ≤ 7293034) {κ b0 : Nat} {u v w : tmM} {bs : List Int32} {xo : Int64} {xd : UInt64} (C0 : tmC p s m args meth c cL_law 10 rt RL TMW tm_NWC D cy tm_s0 tm_a0 0 (tlW cy ad ar o1 o2 cL cD κ b0 u v w xo xd) A) (hT : tmTx κ u bs) (hR : Rel v bs w) (cont : ∀ (κ b0 : Nat) (u v w : tmM) (bs : List Int32) (xo : Int64) (xd : UInt64), tmC p s m args meth c cL_law 10 rt RL TMW tm_NWC D cy tm_s0 tm_a0 0 (tlW cy ad ar o1 o2 cL cD κ b0 u v w xo xd) A → tmTx κ u bs → Rel2 v bs w → tmG p l e room_1 s m args below meth c (cells + 64) (slots + 8000) Q 10 D cy tm_s0 tm_a0 0 (tlW cy ad ar o1 o2 cL cD κ b0 u v w xo xd) A () 2790 [(0, .ref b), (1, .ref (ad 247)), (2, .ref (ar 0)), (3, .ref o1), (4, .ref o2), (5, .int (nI i))] [] tm_v0 (some ())) : tmG p l e room_1 s m args below meth c (cells) (slots) Q 10 D cy tm_s0 tm_a0 0 (tlW cy ad ar o1 o2 cL cD κ b0 u v w xo xd) A () 997 [(0, .ref b), (1, .ref (ad 247)), (2, .ref (ar 0)), (3, .ref o1), (4, .ref o2), (5, .int (nI i))] [] tm_v0 (some ()) := by
  obtain ⟨r, v', w', ho, hr, hR'⟩ := hp v bs w hR
  refine tg_aload_n 1 C0 dL_law_997 rfl rfl ?_
  refine tl_mi (X' := tlW cy ad ar o1 o2 cL cD κ b0 u v' w xo xd) (NW1 := tm_NWC) (pre := []) (suf := (tmXB cy (ad 256) κ b0 u ++ (tm_w cy tm_shR ar 13 w ++ tlO o1 o2 cL cD xo xd))) (sh := tm_shC) (n := 256) (ad := ad) (As := []) (fs := [some 0, some 248, none, none, some 249, none, some 250, some 251, some 256]) 247 0 C0 (List.append_assoc _ _ _) (List.append_assoc _ _ _) (fun _ h => h) tm_NWC_ok dL_law_998 (c_X7_brokenPromise l _) ho rfl rfl (by decide) rfl rfl (tm_gV tl_L_194 ti_X7_brokenPromise ts_X7_brokenPromise tn_X7 tc_X7_brokenPromise) rfl rfl rfl rfl (by decide +kernel) ⟨Nat.le_of_ble_eq_true rfl, Nat.le_of_ble_eq_true rfl⟩ (Nat.le_of_ble_eq_true rfl) ⟨by show _ ≤ 601024; omega, by show _ ≤ 7293034; omega⟩ (fun C0 => ?_)
  refine tg_aload_n 2 C0 dL_law_1001 rfl rfl ?_
  refine tl_mi (X' := tlW cy ad ar o1 o2 cL cD κ b0 u v' w' xo xd) (NW1 := tm_NWR) (pre := (tm_w cy tm_shC ad 256 v' ++ tmXB cy (ad 256) κ b0 u)) (suf := tlO o1 o2 cL cD xo xd) (sh := tm_shR) (n := 13) (ad := ar) (As := []) (fs := [none, some 1, some 2, none, some 3, some 4, some 5, none, none, none, none, none, some 6, none, some 7, some 8, none, none, none, none, none, none, none, some 9, none, some 10, some 11, some 12]) 0 0 C0 rfl rfl (fun _ _ _ h => by cases h) rfl dL_law_1002 (c_X8_brokenPromise l _) hr rfl rfl (by decide) rfl rfl (tm_gV tl_L_197 ti_X8_brokenPromise ts_X8_brokenPromise tn_X8 tc_X8_brokenPromise) rfl rfl rfl rfl (by decide +kernel) ⟨Nat.le_of_ble_eq_true rfl, Nat.le_of_ble_eq_true rfl⟩ (Nat.le_of_ble_eq_true rfl) ⟨by show _ ≤ 601024; omega, by show _ ≤ 7293034; omega⟩ (fun C0 => ?_)
  refine tg_eq (r := if r = r then some () else none) (by rw [if_pos rfl]) ?_
  refine tg_icmp_eq 2790 C0 dL_law_1005 (by decide) (fun _ => ?_) (fun q => absurd rfl q)
  exact tl_widen (by omega) (by omega) (cont _ _ _ _ _ _ _ _ C0 hT hR')
-- ----- case 15: troubledReaders
set_option maxRecDepth 100000 in
theorem law_case_15 {p : Program} {l : Launch} {e : Env} {s : State} {m : MethodId} {args : Array Value} {below : List Frame} {meth : Method} {c : Code} {A : Nat → Prop} {D : va_G} {cy : Nat → ClassId} {ad ar : Nat → Nat} {o1 o2 : Nat} {cL cD : ClassId} {adK adV adE : Nat → Nat} {tC : Nat} {Q : State → Prop} {rt : Option FieldType} {cells slots b i L : Nat} {xs : Nat → Int32} {Rel Rel2 : tmM → List Int32 → tmM → Prop} (hl : l.stackTraces = false) (hp : tP_troubledReaders Rel Rel2) (hX : va_X b L xs s s.heap) (hbl : b < s.heap.size) (hbA : ¬ A b) (hi : i + 5 ≤ L ∧ L ≤ 2560) (hE : tmSc adK adV adE tC A s s.heap) (hTh : tmTh A s s.heap) (hF : tlF D cy cL cD s) (hcs : cells + 64 ≤ 601024 ∧ slots + 8000 ≤ 7293034) {κ b0 : Nat} {u v w : tmM} {bs : List Int32} {xo : Int64} {xd : UInt64} (C0 : tmC p s m args meth c cL_law 10 rt RL TMW tm_NWC D cy tm_s0 tm_a0 0 (tlW cy ad ar o1 o2 cL cD κ b0 u v w xo xd) A) (hT : tmTx κ u bs) (hR : Rel v bs w) (cont : ∀ (κ b0 : Nat) (u v w : tmM) (bs : List Int32) (xo : Int64) (xd : UInt64), tmC p s m args meth c cL_law 10 rt RL TMW tm_NWC D cy tm_s0 tm_a0 0 (tlW cy ad ar o1 o2 cL cD κ b0 u v w xo xd) A → tmTx κ u bs → Rel2 v bs w → tmG p l e room_1 s m args below meth c (cells + 64) (slots + 8000) Q 10 D cy tm_s0 tm_a0 0 (tlW cy ad ar o1 o2 cL cD κ b0 u v w xo xd) A () 2790 [(0, .ref b), (1, .ref (ad 247)), (2, .ref (ar 0)), (3, .ref o1), (4, .ref o2), (5, .int (nI i))] [] tm_v0 (some ())) : tmG p l e room_1 s m args below meth c (cells) (slots) Q 10 D cy tm_s0 tm_a0 0 (tlW cy ad ar o1 o2 cL cD κ b0 u v w xo xd) A () 1010 [(0, .ref b), (1, .ref (ad 247)), (2, .ref (ar 0)), (3, .ref o1), (4, .ref o2), (5, .int (nI i))] [] tm_v0 (some ()) := by
  obtain ⟨r, v', w', ho, hr, hR'⟩ := hp v bs w hR
  refine tg_aload_n 1 C0 dL_law_1010 rfl rfl ?_
  refine tl_mi (X' := tlW cy ad ar o1 o2 cL cD κ b0 u v' w xo xd) (NW1 := tm_NWC) (pre := []) (suf := (tmXB cy (ad 256) κ b0 u ++ (tm_w cy tm_shR ar 13 w ++ tlO o1 o2 cL cD xo xd))) (sh := tm_shC) (n := 256) (ad := ad) (As := []) (fs := [some 0, some 248, none, none, some 249, none, some 250, some 251, some 256]) 247 0 C0 (List.append_assoc _ _ _) (List.append_assoc _ _ _) (fun _ h => h) tm_NWC_ok dL_law_1011 (c_X7_troubledReaders l _) ho rfl rfl (by decide) rfl rfl (tm_gV tl_L_198 ti_X7_troubledReaders ts_X7_troubledReaders tn_X7 tc_X7_troubledReaders) rfl rfl rfl rfl (by decide +kernel) ⟨Nat.le_of_ble_eq_true rfl, Nat.le_of_ble_eq_true rfl⟩ (Nat.le_of_ble_eq_true rfl) ⟨by show _ ≤ 601024; omega, by show _ ≤ 7293034; omega⟩ (fun C0 => ?_)
  refine tg_aload_n 2 C0 dL_law_1014 rfl rfl ?_
  refine tl_mi (X' := tlW cy ad ar o1 o2 cL cD κ b0 u v' w' xo xd) (NW1 := tm_NWR) (pre := (tm_w cy tm_shC ad 256 v' ++ tmXB cy (ad 256) κ b0 u)) (suf := tlO o1 o2 cL cD xo xd) (sh := tm_shR) (n := 13) (ad := ar) (As := []) (fs := [none, some 1, some 2, none, some 3, some 4, some 5, none, none, none, none, none, some 6, none, some 7, some 8, none, none, none, none, none, none, none, some 9, none, some 10, some 11, some 12]) 0 0 C0 rfl rfl (fun _ _ _ h => by cases h) rfl dL_law_1015 (c_X8_troubledReaders l _) hr rfl rfl (by decide) rfl rfl (tm_gV tl_L_201 ti_X8_troubledReaders ts_X8_troubledReaders tn_X8 tc_X8_troubledReaders) rfl rfl rfl rfl (by decide +kernel) ⟨Nat.le_of_ble_eq_true rfl, Nat.le_of_ble_eq_true rfl⟩ (Nat.le_of_ble_eq_true rfl) ⟨by show _ ≤ 601024; omega, by show _ ≤ 7293034; omega⟩ (fun C0 => ?_)
  refine tg_eq (r := if r = r then some () else none) (by rw [if_pos rfl]) ?_
  refine tg_icmp_eq 2790 C0 dL_law_1018 (by decide) (fun _ => ?_) (fun q => absurd rfl q)
  exact tl_widen (by omega) (by omega) (cont _ _ _ _ _ _ _ _ C0 hT hR')
-- ----- case 16: event
set_option maxRecDepth 100000 in
theorem law_case_16 {p : Program} {l : Launch} {e : Env} {s : State} {m : MethodId} {args : Array Value} {below : List Frame} {meth : Method} {c : Code} {A : Nat → Prop} {D : va_G} {cy : Nat → ClassId} {ad ar : Nat → Nat} {o1 o2 : Nat} {cL cD : ClassId} {adK adV adE : Nat → Nat} {tC : Nat} {Q : State → Prop} {rt : Option FieldType} {cells slots b i L : Nat} {xs : Nat → Int32} {Rel Rel2 : tmM → List Int32 → tmM → Prop} (hl : l.stackTraces = false) (hp : tP_event Rel Rel2) (hX : va_X b L xs s s.heap) (hbl : b < s.heap.size) (hbA : ¬ A b) (hi : i + 5 ≤ L ∧ L ≤ 2560) (hE : tmSc adK adV adE tC A s s.heap) (hTh : tmTh A s s.heap) (hF : tlF D cy cL cD s) (hcs : cells + 64 ≤ 601024 ∧ slots + 8000 ≤ 7293034) {κ b0 : Nat} {u v w : tmM} {bs : List Int32} {xo : Int64} {xd : UInt64} (C0 : tmC p s m args meth c cL_law 10 rt RL TMW tm_NWC D cy tm_s0 tm_a0 0 (tlW cy ad ar o1 o2 cL cD κ b0 u v w xo xd) A) (hT : tmTx κ u bs) (hR : Rel v bs w) (cont : ∀ (κ b0 : Nat) (u v w : tmM) (bs : List Int32) (xo : Int64) (xd : UInt64), tmC p s m args meth c cL_law 10 rt RL TMW tm_NWC D cy tm_s0 tm_a0 0 (tlW cy ad ar o1 o2 cL cD κ b0 u v w xo xd) A → tmTx κ u bs → Rel2 v bs w → tmG p l e room_1 s m args below meth c (cells + 64) (slots + 8000) Q 10 D cy tm_s0 tm_a0 0 (tlW cy ad ar o1 o2 cL cD κ b0 u v w xo xd) A () 2790 [(0, .ref b), (1, .ref (ad 247)), (2, .ref (ar 0)), (3, .ref o1), (4, .ref o2), (5, .int (nI i))] [] tm_v0 (some ())) : tmG p l e room_1 s m args below meth c (cells) (slots) Q 10 D cy tm_s0 tm_a0 0 (tlW cy ad ar o1 o2 cL cD κ b0 u v w xo xd) A () 1023 [(0, .ref b), (1, .ref (ad 247)), (2, .ref (ar 0)), (3, .ref o1), (4, .ref o2), (5, .int (nI i))] [] tm_v0 (some ()) := by
  obtain ⟨k, xo', xd', v', bs', r, w1, w2, ho, hr, ht, heq, hR'⟩ := hp (xs (i + 1)) (xs (i + 2)) v bs w xo xd hR
  refine tg_aload_n 1 C0 dL_law_1023 rfl rfl ?_
  refine tg_aload_n 0 C0 dL_law_1024 rfl rfl ?_
  refine tg_iload 5 C0 dL_law_1025 rfl ?_
  refine tg_iconst (x := nI 1) C0 dL_law_1027 (by decide) ?_
  refine tg_iadd C0 dL_law_1028 ?_
  rw [tl_add i 1]
  refine tl_sld C0 hX hbl hbA (tl_idx (by omega) hi.2) dL_law_1029 ?_
  rw [nI_clamp (show i + 1 < 2147483648 by omega)]
  refine tg_aload_n 0 C0 dL_law_1030 rfl rfl ?_
  refine tg_iload 5 C0 dL_law_1031 rfl ?_
  refine tg_iconst (x := nI 2) C0 dL_law_1033 (by decide) ?_
  refine tg_iadd C0 dL_law_1034 ?_
  rw [tl_add i 2]
  refine tl_sld C0 hX hbl hbA (tl_idx (by omega) hi.2) dL_law_1035 ?_
  rw [nI_clamp (show i + 2 < 2147483648 by omega)]
  refine tg_aload_n 3 C0 dL_law_1036 rfl rfl ?_
  refine tl_callS (st := []) (st0 := _) (xo' := xo') (xd' := xd') (v' := v') (bs' := bs') 4 C0 hE hTh hF hT dL_law_1037 (cL_c_event l hl (xs (i + 1)) (xs (i + 2)) v bs) ho rfl (tl_gS2 tl_L_202 tst_L_event tn_L tc_L_event) rfl rfl rfl rfl (by decide +kernel) ⟨Nat.le_of_ble_eq_true rfl, Nat.le_of_ble_eq_true rfl⟩ (Nat.le_of_ble_eq_true rfl) ⟨by show _ ≤ 601024; omega, by show _ ≤ 7293034; omega⟩ (fun κ b0 u hT C0 => ?_)
  refine tg_istore [(6, .int k), (0, .ref b), (1, .ref (ad 247)), (2, .ref (ar 0)), (3, .ref o1), (4, .ref o2), (5, .int (nI i))] C0 dL_law_1040 (by decide) rfl ?_
  refine tg_aload_n 3 C0 dL_law_1042 rfl rfl ?_
  refine tg_aload_n 1 C0 dL_law_1043 rfl rfl ?_
  refine tg_iload 6 C0 dL_law_1044 rfl ?_
  refine tg_iconst (x := nI 1) C0 dL_law_1046 (by decide) ?_
  refine tg_iadd C0 dL_law_1047 ?_
  rw [tl_add i 1]
  refine tl_sld C0 hX hbl hbA (tl_idx (by omega) hi.2) dL_law_1048 ?_
  rw [nI_clamp (show i + 1 < 2147483648 by omega)]
  refine tg_aload_n 1 C0 dL_law_1049 rfl rfl ?_
  refine tg_iload 6 C0 dL_law_1050 rfl ?_
  refine tg_iconst (x := nI 2) C0 dL_law_1052 (by decide) ?_
  refine tg_iadd C0 dL_law_1053 ?_
  rw [tl_add i 2]
  refine tl_sld C0 hX hbl hbA (tl_idx (by omega) hi.2) dL_law_1054 ?_
  rw [nI_clamp (show i + 2 < 2147483648 by omega)]
  refine tl_mi (X' := tlW cy ad ar o1 o2 cL cD κ b0 u v' w1 xo' xd') (NW1 := tm_NWR) (pre := (tm_w cy tm_shC ad 256 v' ++ tmXB cy (ad 256) κ b0 u)) (suf := tlO o1 o2 cL cD xo' xd') (sh := tm_shR) (n := 13) (ad := ar) (As := [.int (xs (i + 1)), .int (xs (i + 2))]) (fs := [none, some 1, some 2, none, some 3, some 4, some 5, none, none, none, none, none, some 6, none, some 7, some 8, none, none, none, none, none, none, none, some 9, none, some 10, some 11, some 12]) 0 2 C0 rfl rfl (fun _ _ _ h => by cases h) rfl dL_law_1055 (c_X8_event l (xs (i + 1)) (xs (i + 2)) _) hr rfl rfl (by decide) rfl rfl (tm_gV tl_L_204 ti_X8_event ts_X8_event tn_X8 tc_X8_event) rfl rfl rfl rfl (by decide +kernel) ⟨Nat.le_of_ble_eq_true rfl, Nat.le_of_ble_eq_true rfl⟩ (Nat.le_of_ble_eq_true rfl) ⟨by show _ ≤ 601024; omega, by show _ ≤ 7293034; omega⟩ (fun C0 => ?_)
  refine tg_istore [(7, .int r), (6, .int k), (0, .ref b), (1, .ref (ad 247)), (2, .ref (ar 0)), (3, .ref o1), (4, .ref o2), (5, .int (nI i))] C0 dL_law_1058 (by decide) rfl ?_
  refine tg_aload_n 4 C0 dL_law_1060 rfl rfl ?_
  refine tl_mi (X' := tlW cy ad ar o1 o2 cL cD κ b0 u v' w2 xo' xd') (NW1 := tm_NWR) (pre := (tm_w cy tm_shC ad 256 v' ++ tmXB cy (ad 256) κ b0 u)) (suf := tlO o1 o2 cL cD xo' xd') (sh := tm_shR) (n := 13) (ad := ar) (As := []) (fs := [none, some 1, some 2, none, some 3, some 4, some 5, none, none, none, none, none, some 6, none, some 7, some 8, none, none, none, none, none, none, none, some 9, none, some 10, some 11, some 12]) 0 0 C0 rfl rfl (fun _ _ _ h => by cases h) rfl dL_law_1061 (c_X8_thrown l _) ht rfl rfl (by decide) rfl rfl (tm_gV tl_L_145 ti_X8_thrown ts_X8_thrown tn_X8 tc_X8_thrown) rfl rfl rfl rfl (by decide +kernel) ⟨Nat.le_of_ble_eq_true rfl, Nat.le_of_ble_eq_true rfl⟩ (Nat.le_of_ble_eq_true rfl) ⟨by show _ ≤ 601024; omega, by show _ ≤ 7293034; omega⟩ (fun C0 => ?_)
  refine tg_iload 1 C0 dL_law_1064 rfl ?_
  refine tg_eq (r := if k = k then some () else none) (by rw [if_pos rfl]) ?_
  refine tg_icmp_eq 1071 C0 dL_law_1066 (by decide) (fun _ => ?_) (fun q => absurd rfl q)
  refine tg_iload 1 C0 dL_law_1071 rfl ?_
  refine tg_eq (r := if k = 0 then some () else some ()) (by split <;> rfl) ?_
  refine tg_if_ne 1088 C0 dL_law_1073 (by decide) (fun _ => ?_) (fun hk => ?_)
  · refine tg_goto 2790 C0 dL_law_1088 (by decide) ?_
    refine tg_sub (lv' := [(0, .ref b), (1, .ref (ad 247)), (2, .ref (ar 0)), (3, .ref o1), (4, .ref o2), (5, .int (nI i))]) [2, 3, 4, 5, 6, 7] rfl ?_
    exact tl_widen (by omega) (by omega) (cont _ _ _ _ _ _ _ _ C0 hT hR')
  refine tg_aload_n 5 C0 dL_law_1076 rfl rfl ?_
  refine tg_iconst (x := 0) C0 dL_law_1077 (by decide) ?_
  refine tl_lald C0 hF dL_law_1078 ?_
  refine tg_iload 0 C0 dL_law_1079 rfl ?_
  refine tl_i2l C0 dL_law_1081 ?_
  refine tl_lcmp (heq hk) C0 dL_law_1082 ?_
  refine tg_eq (r := if (0 : Int32) = 0 then some () else none) (by rw [if_pos rfl]) ?_
  refine tg_if_eq 1088 C0 dL_law_1083 (by decide) (fun _ => ?_) (fun q => absurd rfl q)
  refine tg_goto 2790 C0 dL_law_1088 (by decide) ?_
  refine tg_sub (lv' := [(0, .ref b), (1, .ref (ad 247)), (2, .ref (ar 0)), (3, .ref o1), (4, .ref o2), (5, .int (nI i))]) [2, 3, 4, 5, 6, 7] rfl ?_
  exact tl_widen (by omega) (by omega) (cont _ _ _ _ _ _ _ _ C0 hT hR')
-- ----- case 17: since
set_option maxRecDepth 100000 in
theorem law_case_17 {p : Program} {l : Launch} {e : Env} {s : State} {m : MethodId} {args : Array Value} {below : List Frame} {meth : Method} {c : Code} {A : Nat → Prop} {D : va_G} {cy : Nat → ClassId} {ad ar : Nat → Nat} {o1 o2 : Nat} {cL cD : ClassId} {adK adV adE : Nat → Nat} {tC : Nat} {Q : State → Prop} {rt : Option FieldType} {cells slots b i L : Nat} {xs : Nat → Int32} {Rel Rel2 : tmM → List Int32 → tmM → Prop} (hl : l.stackTraces = false) (hp : tP_since Rel Rel2) (hX : va_X b L xs s s.heap) (hbl : b < s.heap.size) (hbA : ¬ A b) (hi : i + 5 ≤ L ∧ L ≤ 2560) (hE : tmSc adK adV adE tC A s s.heap) (hTh : tmTh A s s.heap) (hF : tlF D cy cL cD s) (hcs : cells + 64 ≤ 601024 ∧ slots + 8000 ≤ 7293034) {κ b0 : Nat} {u v w : tmM} {bs : List Int32} {xo : Int64} {xd : UInt64} (C0 : tmC p s m args meth c cL_law 10 rt RL TMW tm_NWC D cy tm_s0 tm_a0 0 (tlW cy ad ar o1 o2 cL cD κ b0 u v w xo xd) A) (hT : tmTx κ u bs) (hR : Rel v bs w) (cont : ∀ (κ b0 : Nat) (u v w : tmM) (bs : List Int32) (xo : Int64) (xd : UInt64), tmC p s m args meth c cL_law 10 rt RL TMW tm_NWC D cy tm_s0 tm_a0 0 (tlW cy ad ar o1 o2 cL cD κ b0 u v w xo xd) A → tmTx κ u bs → Rel2 v bs w → tmG p l e room_1 s m args below meth c (cells + 64) (slots + 8000) Q 10 D cy tm_s0 tm_a0 0 (tlW cy ad ar o1 o2 cL cD κ b0 u v w xo xd) A () 2790 [(0, .ref b), (1, .ref (ad 247)), (2, .ref (ar 0)), (3, .ref o1), (4, .ref o2), (5, .int (nI i))] [] tm_v0 (some ())) : tmG p l e room_1 s m args below meth c (cells) (slots) Q 10 D cy tm_s0 tm_a0 0 (tlW cy ad ar o1 o2 cL cD κ b0 u v w xo xd) A () 1091 [(0, .ref b), (1, .ref (ad 247)), (2, .ref (ar 0)), (3, .ref o1), (4, .ref o2), (5, .int (nI i))] [] tm_v0 (some ()) := by
  obtain ⟨k, xo', xd', v', bs', r, w1, w2, ho, hr, ht, heq, hR'⟩ := hp (xs (i + 1)) (xs (i + 2)) v bs w xo xd hR
  refine tg_aload_n 1 C0 dL_law_1091 rfl rfl ?_
  refine tg_aload_n 0 C0 dL_law_1092 rfl rfl ?_
  refine tg_iload 5 C0 dL_law_1093 rfl ?_
  refine tg_iconst (x := nI 1) C0 dL_law_1095 (by decide) ?_
  refine tg_iadd C0 dL_law_1096 ?_
  rw [tl_add i 1]
  refine tl_sld C0 hX hbl hbA (tl_idx (by omega) hi.2) dL_law_1097 ?_
  rw [nI_clamp (show i + 1 < 2147483648 by omega)]
  refine tg_aload_n 0 C0 dL_law_1098 rfl rfl ?_
  refine tg_iload 5 C0 dL_law_1099 rfl ?_
  refine tg_iconst (x := nI 2) C0 dL_law_1101 (by decide) ?_
  refine tg_iadd C0 dL_law_1102 ?_
  rw [tl_add i 2]
  refine tl_sld C0 hX hbl hbA (tl_idx (by omega) hi.2) dL_law_1103 ?_
  rw [nI_clamp (show i + 2 < 2147483648 by omega)]
  refine tg_aload_n 3 C0 dL_law_1104 rfl rfl ?_
  refine tl_callS (st := []) (st0 := _) (xo' := xo') (xd' := xd') (v' := v') (bs' := bs') 4 C0 hE hTh hF hT dL_law_1105 (cL_c_since l hl (xs (i + 1)) (xs (i + 2)) v bs) ho rfl (tl_gS2 tl_L_205 tst_L_since tn_L tc_L_since) rfl rfl rfl rfl (by decide +kernel) ⟨Nat.le_of_ble_eq_true rfl, Nat.le_of_ble_eq_true rfl⟩ (Nat.le_of_ble_eq_true rfl) ⟨by show _ ≤ 601024; omega, by show _ ≤ 7293034; omega⟩ (fun κ b0 u hT C0 => ?_)
  refine tg_istore [(6, .int k), (0, .ref b), (1, .ref (ad 247)), (2, .ref (ar 0)), (3, .ref o1), (4, .ref o2), (5, .int (nI i))] C0 dL_law_1108 (by decide) rfl ?_
  refine tg_aload_n 3 C0 dL_law_1110 rfl rfl ?_
  refine tg_aload_n 1 C0 dL_law_1111 rfl rfl ?_
  refine tg_iload 6 C0 dL_law_1112 rfl ?_
  refine tg_iconst (x := nI 1) C0 dL_law_1114 (by decide) ?_
  refine tg_iadd C0 dL_law_1115 ?_
  rw [tl_add i 1]
  refine tl_sld C0 hX hbl hbA (tl_idx (by omega) hi.2) dL_law_1116 ?_
  rw [nI_clamp (show i + 1 < 2147483648 by omega)]
  refine tg_aload_n 1 C0 dL_law_1117 rfl rfl ?_
  refine tg_iload 6 C0 dL_law_1118 rfl ?_
  refine tg_iconst (x := nI 2) C0 dL_law_1120 (by decide) ?_
  refine tg_iadd C0 dL_law_1121 ?_
  rw [tl_add i 2]
  refine tl_sld C0 hX hbl hbA (tl_idx (by omega) hi.2) dL_law_1122 ?_
  rw [nI_clamp (show i + 2 < 2147483648 by omega)]
  refine tl_mi (X' := tlW cy ad ar o1 o2 cL cD κ b0 u v' w1 xo' xd') (NW1 := tm_NWR) (pre := (tm_w cy tm_shC ad 256 v' ++ tmXB cy (ad 256) κ b0 u)) (suf := tlO o1 o2 cL cD xo' xd') (sh := tm_shR) (n := 13) (ad := ar) (As := [.int (xs (i + 1)), .int (xs (i + 2))]) (fs := [none, some 1, some 2, none, some 3, some 4, some 5, none, none, none, none, none, some 6, none, some 7, some 8, none, none, none, none, none, none, none, some 9, none, some 10, some 11, some 12]) 0 2 C0 rfl rfl (fun _ _ _ h => by cases h) rfl dL_law_1123 (c_X8_since l (xs (i + 1)) (xs (i + 2)) _) hr rfl rfl (by decide) rfl rfl (tm_gV tl_L_207 ti_X8_since ts_X8_since tn_X8 tc_X8_since) rfl rfl rfl rfl (by decide +kernel) ⟨Nat.le_of_ble_eq_true rfl, Nat.le_of_ble_eq_true rfl⟩ (Nat.le_of_ble_eq_true rfl) ⟨by show _ ≤ 601024; omega, by show _ ≤ 7293034; omega⟩ (fun C0 => ?_)
  refine tg_istore [(7, .int r), (6, .int k), (0, .ref b), (1, .ref (ad 247)), (2, .ref (ar 0)), (3, .ref o1), (4, .ref o2), (5, .int (nI i))] C0 dL_law_1126 (by decide) rfl ?_
  refine tg_aload_n 4 C0 dL_law_1128 rfl rfl ?_
  refine tl_mi (X' := tlW cy ad ar o1 o2 cL cD κ b0 u v' w2 xo' xd') (NW1 := tm_NWR) (pre := (tm_w cy tm_shC ad 256 v' ++ tmXB cy (ad 256) κ b0 u)) (suf := tlO o1 o2 cL cD xo' xd') (sh := tm_shR) (n := 13) (ad := ar) (As := []) (fs := [none, some 1, some 2, none, some 3, some 4, some 5, none, none, none, none, none, some 6, none, some 7, some 8, none, none, none, none, none, none, none, some 9, none, some 10, some 11, some 12]) 0 0 C0 rfl rfl (fun _ _ _ h => by cases h) rfl dL_law_1129 (c_X8_thrown l _) ht rfl rfl (by decide) rfl rfl (tm_gV tl_L_145 ti_X8_thrown ts_X8_thrown tn_X8 tc_X8_thrown) rfl rfl rfl rfl (by decide +kernel) ⟨Nat.le_of_ble_eq_true rfl, Nat.le_of_ble_eq_true rfl⟩ (Nat.le_of_ble_eq_true rfl) ⟨by show _ ≤ 601024; omega, by show _ ≤ 7293034; omega⟩ (fun C0 => ?_)
  refine tg_iload 1 C0 dL_law_1132 rfl ?_
  refine tg_eq (r := if k = k then some () else none) (by rw [if_pos rfl]) ?_
  refine tg_icmp_eq 1139 C0 dL_law_1134 (by decide) (fun _ => ?_) (fun q => absurd rfl q)
  refine tg_iload 1 C0 dL_law_1139 rfl ?_
  refine tg_eq (r := if k = 0 then some () else some ()) (by split <;> rfl) ?_
  refine tg_if_ne 1156 C0 dL_law_1141 (by decide) (fun _ => ?_) (fun hk => ?_)
  · refine tg_goto 2790 C0 dL_law_1156 (by decide) ?_
    refine tg_sub (lv' := [(0, .ref b), (1, .ref (ad 247)), (2, .ref (ar 0)), (3, .ref o1), (4, .ref o2), (5, .int (nI i))]) [2, 3, 4, 5, 6, 7] rfl ?_
    exact tl_widen (by omega) (by omega) (cont _ _ _ _ _ _ _ _ C0 hT hR')
  refine tg_aload_n 5 C0 dL_law_1144 rfl rfl ?_
  refine tg_iconst (x := 0) C0 dL_law_1145 (by decide) ?_
  refine tl_lald C0 hF dL_law_1146 ?_
  refine tg_iload 0 C0 dL_law_1147 rfl ?_
  refine tl_i2l C0 dL_law_1149 ?_
  refine tl_lcmp (heq hk) C0 dL_law_1150 ?_
  refine tg_eq (r := if (0 : Int32) = 0 then some () else none) (by rw [if_pos rfl]) ?_
  refine tg_if_eq 1156 C0 dL_law_1151 (by decide) (fun _ => ?_) (fun q => absurd rfl q)
  refine tg_goto 2790 C0 dL_law_1156 (by decide) ?_
  refine tg_sub (lv' := [(0, .ref b), (1, .ref (ad 247)), (2, .ref (ar 0)), (3, .ref o1), (4, .ref o2), (5, .int (nI i))]) [2, 3, 4, 5, 6, 7] rfl ?_
  exact tl_widen (by omega) (by omega) (cont _ _ _ _ _ _ _ _ C0 hT hR')
-- ----- case 18: account
set_option maxRecDepth 100000 in
theorem law_case_18 {p : Program} {l : Launch} {e : Env} {s : State} {m : MethodId} {args : Array Value} {below : List Frame} {meth : Method} {c : Code} {A : Nat → Prop} {D : va_G} {cy : Nat → ClassId} {ad ar : Nat → Nat} {o1 o2 : Nat} {cL cD : ClassId} {adK adV adE : Nat → Nat} {tC : Nat} {Q : State → Prop} {rt : Option FieldType} {cells slots b i L : Nat} {xs : Nat → Int32} {Rel Rel2 : tmM → List Int32 → tmM → Prop} (hl : l.stackTraces = false) (hp : tP_account Rel Rel2) (hX : va_X b L xs s s.heap) (hbl : b < s.heap.size) (hbA : ¬ A b) (hi : i + 5 ≤ L ∧ L ≤ 2560) (hE : tmSc adK adV adE tC A s s.heap) (hTh : tmTh A s s.heap) (hF : tlF D cy cL cD s) (hcs : cells + 64 ≤ 601024 ∧ slots + 8000 ≤ 7293034) {κ b0 : Nat} {u v w : tmM} {bs : List Int32} {xo : Int64} {xd : UInt64} (C0 : tmC p s m args meth c cL_law 10 rt RL TMW tm_NWC D cy tm_s0 tm_a0 0 (tlW cy ad ar o1 o2 cL cD κ b0 u v w xo xd) A) (hT : tmTx κ u bs) (hR : Rel v bs w) (cont : ∀ (κ b0 : Nat) (u v w : tmM) (bs : List Int32) (xo : Int64) (xd : UInt64), tmC p s m args meth c cL_law 10 rt RL TMW tm_NWC D cy tm_s0 tm_a0 0 (tlW cy ad ar o1 o2 cL cD κ b0 u v w xo xd) A → tmTx κ u bs → Rel2 v bs w → tmG p l e room_1 s m args below meth c (cells + 64) (slots + 8000) Q 10 D cy tm_s0 tm_a0 0 (tlW cy ad ar o1 o2 cL cD κ b0 u v w xo xd) A () 2790 [(0, .ref b), (1, .ref (ad 247)), (2, .ref (ar 0)), (3, .ref o1), (4, .ref o2), (5, .int (nI i))] [] tm_v0 (some ())) : tmG p l e room_1 s m args below meth c (cells) (slots) Q 10 D cy tm_s0 tm_a0 0 (tlW cy ad ar o1 o2 cL cD κ b0 u v w xo xd) A () 1159 [(0, .ref b), (1, .ref (ad 247)), (2, .ref (ar 0)), (3, .ref o1), (4, .ref o2), (5, .int (nI i))] [] tm_v0 (some ()) := by
  obtain ⟨k, xo', xd', v', bs', r, w1, w2, ho, hr, ht, heq, hR'⟩ := hp (xs (i + 1)) v bs w xo xd hR
  refine tg_aload_n 1 C0 dL_law_1159 rfl rfl ?_
  refine tg_aload_n 0 C0 dL_law_1160 rfl rfl ?_
  refine tg_iload 5 C0 dL_law_1161 rfl ?_
  refine tg_iconst (x := nI 1) C0 dL_law_1163 (by decide) ?_
  refine tg_iadd C0 dL_law_1164 ?_
  rw [tl_add i 1]
  refine tl_sld C0 hX hbl hbA (tl_idx (by omega) hi.2) dL_law_1165 ?_
  rw [nI_clamp (show i + 1 < 2147483648 by omega)]
  refine tg_aload_n 3 C0 dL_law_1166 rfl rfl ?_
  refine tl_callS (st := []) (st0 := _) (xo' := xo') (xd' := xd') (v' := v') (bs' := bs') 3 C0 hE hTh hF hT dL_law_1167 (cL_c_account l hl (xs (i + 1)) v bs) ho rfl (tl_gS2 tl_L_208 tst_L_account tn_L tc_L_account) rfl rfl rfl rfl (by decide +kernel) ⟨Nat.le_of_ble_eq_true rfl, Nat.le_of_ble_eq_true rfl⟩ (Nat.le_of_ble_eq_true rfl) ⟨by show _ ≤ 601024; omega, by show _ ≤ 7293034; omega⟩ (fun κ b0 u hT C0 => ?_)
  refine tg_istore [(6, .int k), (0, .ref b), (1, .ref (ad 247)), (2, .ref (ar 0)), (3, .ref o1), (4, .ref o2), (5, .int (nI i))] C0 dL_law_1170 (by decide) rfl ?_
  refine tg_aload_n 3 C0 dL_law_1172 rfl rfl ?_
  refine tg_aload_n 1 C0 dL_law_1173 rfl rfl ?_
  refine tg_iload 6 C0 dL_law_1174 rfl ?_
  refine tg_iconst (x := nI 1) C0 dL_law_1176 (by decide) ?_
  refine tg_iadd C0 dL_law_1177 ?_
  rw [tl_add i 1]
  refine tl_sld C0 hX hbl hbA (tl_idx (by omega) hi.2) dL_law_1178 ?_
  rw [nI_clamp (show i + 1 < 2147483648 by omega)]
  refine tl_mi (X' := tlW cy ad ar o1 o2 cL cD κ b0 u v' w1 xo' xd') (NW1 := tm_NWR) (pre := (tm_w cy tm_shC ad 256 v' ++ tmXB cy (ad 256) κ b0 u)) (suf := tlO o1 o2 cL cD xo' xd') (sh := tm_shR) (n := 13) (ad := ar) (As := [.int (xs (i + 1))]) (fs := [none, some 1, some 2, none, some 3, some 4, some 5, none, none, none, none, none, some 6, none, some 7, some 8, none, none, none, none, none, none, none, some 9, none, some 10, some 11, some 12]) 0 1 C0 rfl rfl (fun _ _ _ h => by cases h) rfl dL_law_1179 (c_X8_account l (xs (i + 1)) _) hr rfl rfl (by decide) rfl rfl (tm_gV tl_L_210 ti_X8_account ts_X8_account tn_X8 tc_X8_account) rfl rfl rfl rfl (by decide +kernel) ⟨Nat.le_of_ble_eq_true rfl, Nat.le_of_ble_eq_true rfl⟩ (Nat.le_of_ble_eq_true rfl) ⟨by show _ ≤ 601024; omega, by show _ ≤ 7293034; omega⟩ (fun C0 => ?_)
  refine tg_istore [(7, .int r), (6, .int k), (0, .ref b), (1, .ref (ad 247)), (2, .ref (ar 0)), (3, .ref o1), (4, .ref o2), (5, .int (nI i))] C0 dL_law_1182 (by decide) rfl ?_
  refine tg_aload_n 4 C0 dL_law_1184 rfl rfl ?_
  refine tl_mi (X' := tlW cy ad ar o1 o2 cL cD κ b0 u v' w2 xo' xd') (NW1 := tm_NWR) (pre := (tm_w cy tm_shC ad 256 v' ++ tmXB cy (ad 256) κ b0 u)) (suf := tlO o1 o2 cL cD xo' xd') (sh := tm_shR) (n := 13) (ad := ar) (As := []) (fs := [none, some 1, some 2, none, some 3, some 4, some 5, none, none, none, none, none, some 6, none, some 7, some 8, none, none, none, none, none, none, none, some 9, none, some 10, some 11, some 12]) 0 0 C0 rfl rfl (fun _ _ _ h => by cases h) rfl dL_law_1185 (c_X8_thrown l _) ht rfl rfl (by decide) rfl rfl (tm_gV tl_L_145 ti_X8_thrown ts_X8_thrown tn_X8 tc_X8_thrown) rfl rfl rfl rfl (by decide +kernel) ⟨Nat.le_of_ble_eq_true rfl, Nat.le_of_ble_eq_true rfl⟩ (Nat.le_of_ble_eq_true rfl) ⟨by show _ ≤ 601024; omega, by show _ ≤ 7293034; omega⟩ (fun C0 => ?_)
  refine tg_iload 1 C0 dL_law_1188 rfl ?_
  refine tg_eq (r := if k = k then some () else none) (by rw [if_pos rfl]) ?_
  refine tg_icmp_eq 1195 C0 dL_law_1190 (by decide) (fun _ => ?_) (fun q => absurd rfl q)
  refine tg_iload 1 C0 dL_law_1195 rfl ?_
  refine tg_eq (r := if k = 0 then some () else some ()) (by split <;> rfl) ?_
  refine tg_if_ne 1212 C0 dL_law_1197 (by decide) (fun _ => ?_) (fun hk => ?_)
  · refine tg_goto 2790 C0 dL_law_1212 (by decide) ?_
    refine tg_sub (lv' := [(0, .ref b), (1, .ref (ad 247)), (2, .ref (ar 0)), (3, .ref o1), (4, .ref o2), (5, .int (nI i))]) [2, 3, 4, 5, 6, 7] rfl ?_
    exact tl_widen (by omega) (by omega) (cont _ _ _ _ _ _ _ _ C0 hT hR')
  refine tg_aload_n 5 C0 dL_law_1200 rfl rfl ?_
  refine tg_iconst (x := 0) C0 dL_law_1201 (by decide) ?_
  refine tl_lald C0 hF dL_law_1202 ?_
  refine tg_iload 0 C0 dL_law_1203 rfl ?_
  refine tl_i2l C0 dL_law_1205 ?_
  refine tl_lcmp (heq hk) C0 dL_law_1206 ?_
  refine tg_eq (r := if (0 : Int32) = 0 then some () else none) (by rw [if_pos rfl]) ?_
  refine tg_if_eq 1212 C0 dL_law_1207 (by decide) (fun _ => ?_) (fun q => absurd rfl q)
  refine tg_goto 2790 C0 dL_law_1212 (by decide) ?_
  refine tg_sub (lv' := [(0, .ref b), (1, .ref (ad 247)), (2, .ref (ar 0)), (3, .ref o1), (4, .ref o2), (5, .int (nI i))]) [2, 3, 4, 5, 6, 7] rfl ?_
  exact tl_widen (by omega) (by omega) (cont _ _ _ _ _ _ _ _ C0 hT hR')
-- ----- case 19: put
set_option maxRecDepth 100000 in
theorem law_case_19 {p : Program} {l : Launch} {e : Env} {s : State} {m : MethodId} {args : Array Value} {below : List Frame} {meth : Method} {c : Code} {A : Nat → Prop} {D : va_G} {cy : Nat → ClassId} {ad ar : Nat → Nat} {o1 o2 : Nat} {cL cD : ClassId} {adK adV adE : Nat → Nat} {tC : Nat} {Q : State → Prop} {rt : Option FieldType} {cells slots b i L : Nat} {xs : Nat → Int32} {Rel Rel2 : tmM → List Int32 → tmM → Prop} (hl : l.stackTraces = false) (hp : tP_put Rel Rel2) (hX : va_X b L xs s s.heap) (hbl : b < s.heap.size) (hbA : ¬ A b) (hi : i + 5 ≤ L ∧ L ≤ 2560) (hE : tmSc adK adV adE tC A s s.heap) (hTh : tmTh A s s.heap) (hF : tlF D cy cL cD s) (hcs : cells + 64 ≤ 601024 ∧ slots + 8000 ≤ 7293034) {κ b0 : Nat} {u v w : tmM} {bs : List Int32} {xo : Int64} {xd : UInt64} (C0 : tmC p s m args meth c cL_law 10 rt RL TMW tm_NWC D cy tm_s0 tm_a0 0 (tlW cy ad ar o1 o2 cL cD κ b0 u v w xo xd) A) (hT : tmTx κ u bs) (hR : Rel v bs w) (cont : ∀ (κ b0 : Nat) (u v w : tmM) (bs : List Int32) (xo : Int64) (xd : UInt64), tmC p s m args meth c cL_law 10 rt RL TMW tm_NWC D cy tm_s0 tm_a0 0 (tlW cy ad ar o1 o2 cL cD κ b0 u v w xo xd) A → tmTx κ u bs → Rel2 v bs w → tmG p l e room_1 s m args below meth c (cells + 64) (slots + 8000) Q 10 D cy tm_s0 tm_a0 0 (tlW cy ad ar o1 o2 cL cD κ b0 u v w xo xd) A () 2790 [(0, .ref b), (1, .ref (ad 247)), (2, .ref (ar 0)), (3, .ref o1), (4, .ref o2), (5, .int (nI i))] [] tm_v0 (some ())) : tmG p l e room_1 s m args below meth c (cells) (slots) Q 10 D cy tm_s0 tm_a0 0 (tlW cy ad ar o1 o2 cL cD κ b0 u v w xo xd) A () 1215 [(0, .ref b), (1, .ref (ad 247)), (2, .ref (ar 0)), (3, .ref o1), (4, .ref o2), (5, .int (nI i))] [] tm_v0 (some ()) := by
  obtain ⟨k, xo', xd', v', bs', r, w1, w2, ho, hr, ht, heq, hR'⟩ := hp (xs (i + 1)) (xs (i + 2)) v bs w xo xd hR
  refine tg_aload_n 1 C0 dL_law_1215 rfl rfl ?_
  refine tg_aload_n 0 C0 dL_law_1216 rfl rfl ?_
  refine tg_iload 5 C0 dL_law_1217 rfl ?_
  refine tg_iconst (x := nI 1) C0 dL_law_1219 (by decide) ?_
  refine tg_iadd C0 dL_law_1220 ?_
  rw [tl_add i 1]
  refine tl_sld C0 hX hbl hbA (tl_idx (by omega) hi.2) dL_law_1221 ?_
  rw [nI_clamp (show i + 1 < 2147483648 by omega)]
  refine tg_aload_n 0 C0 dL_law_1222 rfl rfl ?_
  refine tg_iload 5 C0 dL_law_1223 rfl ?_
  refine tg_iconst (x := nI 2) C0 dL_law_1225 (by decide) ?_
  refine tg_iadd C0 dL_law_1226 ?_
  rw [tl_add i 2]
  refine tl_sld C0 hX hbl hbA (tl_idx (by omega) hi.2) dL_law_1227 ?_
  rw [nI_clamp (show i + 2 < 2147483648 by omega)]
  refine tg_aload_n 3 C0 dL_law_1228 rfl rfl ?_
  refine tl_callS (st := []) (st0 := _) (xo' := xo') (xd' := xd') (v' := v') (bs' := bs') 4 C0 hE hTh hF hT dL_law_1229 (cL_c_put l hl (xs (i + 1)) (xs (i + 2)) v bs) ho rfl (tl_gS2 tl_L_211 tst_L_put tn_L tc_L_put) rfl rfl rfl rfl (by decide +kernel) ⟨Nat.le_of_ble_eq_true rfl, Nat.le_of_ble_eq_true rfl⟩ (Nat.le_of_ble_eq_true rfl) ⟨by show _ ≤ 601024; omega, by show _ ≤ 7293034; omega⟩ (fun κ b0 u hT C0 => ?_)
  refine tg_istore [(6, .int k), (0, .ref b), (1, .ref (ad 247)), (2, .ref (ar 0)), (3, .ref o1), (4, .ref o2), (5, .int (nI i))] C0 dL_law_1232 (by decide) rfl ?_
  refine tg_aload_n 3 C0 dL_law_1234 rfl rfl ?_
  refine tg_aload_n 1 C0 dL_law_1235 rfl rfl ?_
  refine tg_iload 6 C0 dL_law_1236 rfl ?_
  refine tg_iconst (x := nI 1) C0 dL_law_1238 (by decide) ?_
  refine tg_iadd C0 dL_law_1239 ?_
  rw [tl_add i 1]
  refine tl_sld C0 hX hbl hbA (tl_idx (by omega) hi.2) dL_law_1240 ?_
  rw [nI_clamp (show i + 1 < 2147483648 by omega)]
  refine tg_aload_n 1 C0 dL_law_1241 rfl rfl ?_
  refine tg_iload 6 C0 dL_law_1242 rfl ?_
  refine tg_iconst (x := nI 2) C0 dL_law_1244 (by decide) ?_
  refine tg_iadd C0 dL_law_1245 ?_
  rw [tl_add i 2]
  refine tl_sld C0 hX hbl hbA (tl_idx (by omega) hi.2) dL_law_1246 ?_
  rw [nI_clamp (show i + 2 < 2147483648 by omega)]
  refine tl_mi (X' := tlW cy ad ar o1 o2 cL cD κ b0 u v' w1 xo' xd') (NW1 := tm_NWR) (pre := (tm_w cy tm_shC ad 256 v' ++ tmXB cy (ad 256) κ b0 u)) (suf := tlO o1 o2 cL cD xo' xd') (sh := tm_shR) (n := 13) (ad := ar) (As := [.int (xs (i + 1)), .int (xs (i + 2))]) (fs := [none, some 1, some 2, none, some 3, some 4, some 5, none, none, none, none, none, some 6, none, some 7, some 8, none, none, none, none, none, none, none, some 9, none, some 10, some 11, some 12]) 0 2 C0 rfl rfl (fun _ _ _ h => by cases h) rfl dL_law_1247 (c_X8_put l (xs (i + 1)) (xs (i + 2)) _) hr rfl rfl (by decide) rfl rfl (tm_gV tl_L_213 ti_X8_put ts_X8_put tn_X8 tc_X8_put) rfl rfl rfl rfl (by decide +kernel) ⟨Nat.le_of_ble_eq_true rfl, Nat.le_of_ble_eq_true rfl⟩ (Nat.le_of_ble_eq_true rfl) ⟨by show _ ≤ 601024; omega, by show _ ≤ 7293034; omega⟩ (fun C0 => ?_)
  refine tg_istore [(7, .int r), (6, .int k), (0, .ref b), (1, .ref (ad 247)), (2, .ref (ar 0)), (3, .ref o1), (4, .ref o2), (5, .int (nI i))] C0 dL_law_1250 (by decide) rfl ?_
  refine tg_aload_n 4 C0 dL_law_1252 rfl rfl ?_
  refine tl_mi (X' := tlW cy ad ar o1 o2 cL cD κ b0 u v' w2 xo' xd') (NW1 := tm_NWR) (pre := (tm_w cy tm_shC ad 256 v' ++ tmXB cy (ad 256) κ b0 u)) (suf := tlO o1 o2 cL cD xo' xd') (sh := tm_shR) (n := 13) (ad := ar) (As := []) (fs := [none, some 1, some 2, none, some 3, some 4, some 5, none, none, none, none, none, some 6, none, some 7, some 8, none, none, none, none, none, none, none, some 9, none, some 10, some 11, some 12]) 0 0 C0 rfl rfl (fun _ _ _ h => by cases h) rfl dL_law_1253 (c_X8_thrown l _) ht rfl rfl (by decide) rfl rfl (tm_gV tl_L_145 ti_X8_thrown ts_X8_thrown tn_X8 tc_X8_thrown) rfl rfl rfl rfl (by decide +kernel) ⟨Nat.le_of_ble_eq_true rfl, Nat.le_of_ble_eq_true rfl⟩ (Nat.le_of_ble_eq_true rfl) ⟨by show _ ≤ 601024; omega, by show _ ≤ 7293034; omega⟩ (fun C0 => ?_)
  refine tg_iload 1 C0 dL_law_1256 rfl ?_
  refine tg_eq (r := if k = k then some () else none) (by rw [if_pos rfl]) ?_
  refine tg_icmp_eq 1263 C0 dL_law_1258 (by decide) (fun _ => ?_) (fun q => absurd rfl q)
  refine tg_iload 1 C0 dL_law_1263 rfl ?_
  refine tg_eq (r := if k = 0 then some () else some ()) (by split <;> rfl) ?_
  refine tg_if_ne 1280 C0 dL_law_1265 (by decide) (fun _ => ?_) (fun hk => ?_)
  · refine tg_goto 2790 C0 dL_law_1280 (by decide) ?_
    refine tg_sub (lv' := [(0, .ref b), (1, .ref (ad 247)), (2, .ref (ar 0)), (3, .ref o1), (4, .ref o2), (5, .int (nI i))]) [2, 3, 4, 5, 6, 7] rfl ?_
    exact tl_widen (by omega) (by omega) (cont _ _ _ _ _ _ _ _ C0 hT hR')
  refine tg_aload_n 5 C0 dL_law_1268 rfl rfl ?_
  refine tg_iconst (x := 0) C0 dL_law_1269 (by decide) ?_
  refine tl_lald C0 hF dL_law_1270 ?_
  refine tg_iload 0 C0 dL_law_1271 rfl ?_
  refine tl_i2l C0 dL_law_1273 ?_
  refine tl_lcmp (heq hk) C0 dL_law_1274 ?_
  refine tg_eq (r := if (0 : Int32) = 0 then some () else none) (by rw [if_pos rfl]) ?_
  refine tg_if_eq 1280 C0 dL_law_1275 (by decide) (fun _ => ?_) (fun q => absurd rfl q)
  refine tg_goto 2790 C0 dL_law_1280 (by decide) ?_
  refine tg_sub (lv' := [(0, .ref b), (1, .ref (ad 247)), (2, .ref (ar 0)), (3, .ref o1), (4, .ref o2), (5, .int (nI i))]) [2, 3, 4, 5, 6, 7] rfl ?_
  exact tl_widen (by omega) (by omega) (cont _ _ _ _ _ _ _ _ C0 hT hR')
