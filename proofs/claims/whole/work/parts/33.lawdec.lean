theorem nd_L_law_820 : decode nb_L_law 820 = .ok (.aload_n 1, 1) := by decide +kernel
theorem nd_L_law_821 : decode nb_L_law 821 = .ok (.aload_n 0, 1) := by decide +kernel
theorem nd_L_law_822 : decode nb_L_law 822 = .ok (.iload 4, 2) := by decide +kernel
theorem nd_L_law_824 : decode nb_L_law 824 = .ok (.iconst 1, 1) := by decide +kernel
theorem nd_L_law_825 : decode nb_L_law 825 = .ok (.iadd, 1) := by decide +kernel
theorem nd_L_law_826 : decode nb_L_law 826 = .ok (.iaload, 1) := by decide +kernel
theorem nd_L_law_827 : decode nb_L_law 827 = .ok (.aload_n 3, 1) := by decide +kernel
theorem nd_L_law_828 : decode nb_L_law 828 = .ok (.invokestatic 97, 3) := by decide +kernel
theorem nd_L_law_831 : decode nb_L_law 831 = .ok (.istore 5, 2) := by decide +kernel
theorem nd_L_law_833 : decode nb_L_law 833 = .ok (.aload_n 2, 1) := by decide +kernel
theorem nd_L_law_834 : decode nb_L_law 834 = .ok (.aload_n 0, 1) := by decide +kernel
theorem nd_L_law_835 : decode nb_L_law 835 = .ok (.iload 4, 2) := by decide +kernel
theorem nd_L_law_837 : decode nb_L_law 837 = .ok (.iconst 1, 1) := by decide +kernel
theorem nd_L_law_838 : decode nb_L_law 838 = .ok (.iadd, 1) := by decide +kernel
theorem nd_L_law_839 : decode nb_L_law 839 = .ok (.iaload, 1) := by decide +kernel
theorem nd_L_law_840 : decode nb_L_law 840 = .ok (.invokevirtual 99, 3) := by decide +kernel
theorem nd_L_law_843 : decode nb_L_law 843 = .ok (.lstore 6, 2) := by decide +kernel
theorem nd_L_law_845 : decode nb_L_law 845 = .ok (.aload_n 2, 1) := by decide +kernel
theorem nd_L_law_846 : decode nb_L_law 846 = .ok (.invokevirtual 70, 3) := by decide +kernel
theorem nd_L_law_849 : decode nb_L_law 849 = .ok (.iload 5, 2) := by decide +kernel
theorem nd_L_law_851 : decode nb_L_law 851 = .ok (.if_icmp .eq 5, 3) := by decide +kernel
theorem nd_L_law_854 : decode nb_L_law 854 = .ok (.iconst 0, 1) := by decide +kernel
theorem nd_L_law_855 : decode nb_L_law 855 = .ok (.ireturn, 1) := by decide +kernel
theorem nd_L_law_856 : decode nb_L_law 856 = .ok (.iload 5, 2) := by decide +kernel
theorem nd_L_law_858 : decode nb_L_law 858 = .ok (.ifCond .ne 14, 3) := by decide +kernel
theorem nd_L_law_861 : decode nb_L_law 861 = .ok (.aload_n 3, 1) := by decide +kernel
theorem nd_L_law_862 : decode nb_L_law 862 = .ok (.iconst 0, 1) := by decide +kernel
theorem nd_L_law_863 : decode nb_L_law 863 = .ok (.laload, 1) := by decide +kernel
theorem nd_L_law_864 : decode nb_L_law 864 = .ok (.lload 6, 2) := by decide +kernel
theorem nd_L_law_866 : decode nb_L_law 866 = .ok (.lcmp, 1) := by decide +kernel
theorem nd_L_law_867 : decode nb_L_law 867 = .ok (.ifCond .eq 5, 3) := by decide +kernel
theorem nd_L_law_870 : decode nb_L_law 870 = .ok (.iconst 0, 1) := by decide +kernel
theorem nd_L_law_871 : decode nb_L_law 871 = .ok (.ireturn, 1) := by decide +kernel
theorem nd_L_law_872 : decode nb_L_law 872 = .ok (.goto 207, 3) := by decide +kernel
theorem nd_L_law_875 : decode nb_L_law 875 = .ok (.aload_n 1, 1) := by decide +kernel
theorem nd_L_law_876 : decode nb_L_law 876 = .ok (.aload_n 0, 1) := by decide +kernel
theorem nd_L_law_877 : decode nb_L_law 877 = .ok (.iload 4, 2) := by decide +kernel
theorem nd_L_law_879 : decode nb_L_law 879 = .ok (.iconst 1, 1) := by decide +kernel
theorem nd_L_law_880 : decode nb_L_law 880 = .ok (.iadd, 1) := by decide +kernel
theorem nd_L_law_881 : decode nb_L_law 881 = .ok (.iaload, 1) := by decide +kernel
theorem nd_L_law_882 : decode nb_L_law 882 = .ok (.invokestatic 100, 3) := by decide +kernel
theorem nd_L_law_885 : decode nb_L_law 885 = .ok (.istore 5, 2) := by decide +kernel
theorem nd_L_law_887 : decode nb_L_law 887 = .ok (.aload_n 2, 1) := by decide +kernel
theorem nd_L_law_888 : decode nb_L_law 888 = .ok (.aload_n 0, 1) := by decide +kernel
theorem nd_L_law_889 : decode nb_L_law 889 = .ok (.iload 4, 2) := by decide +kernel
theorem nd_L_law_891 : decode nb_L_law 891 = .ok (.iconst 1, 1) := by decide +kernel
theorem nd_L_law_892 : decode nb_L_law 892 = .ok (.iadd, 1) := by decide +kernel
theorem nd_L_law_893 : decode nb_L_law 893 = .ok (.iaload, 1) := by decide +kernel
theorem nd_L_law_894 : decode nb_L_law 894 = .ok (.invokevirtual 103, 3) := by decide +kernel
theorem nd_L_law_897 : decode nb_L_law 897 = .ok (.aload_n 2, 1) := by decide +kernel
theorem nd_L_law_898 : decode nb_L_law 898 = .ok (.invokevirtual 70, 3) := by decide +kernel
theorem nd_L_law_901 : decode nb_L_law 901 = .ok (.iload 5, 2) := by decide +kernel
theorem nd_L_law_903 : decode nb_L_law 903 = .ok (.if_icmp .eq 5, 3) := by decide +kernel
theorem nd_L_law_906 : decode nb_L_law 906 = .ok (.iconst 0, 1) := by decide +kernel
theorem nd_L_law_907 : decode nb_L_law 907 = .ok (.ireturn, 1) := by decide +kernel
theorem nd_L_law_908 : decode nb_L_law 908 = .ok (.goto 171, 3) := by decide +kernel
theorem nd_L_law_911 : decode nb_L_law 911 = .ok (.aload_n 1, 1) := by decide +kernel
theorem nd_L_law_912 : decode nb_L_law 912 = .ok (.aload_n 0, 1) := by decide +kernel
theorem nd_L_law_913 : decode nb_L_law 913 = .ok (.iload 4, 2) := by decide +kernel
theorem nd_L_law_915 : decode nb_L_law 915 = .ok (.iconst 1, 1) := by decide +kernel
theorem nd_L_law_916 : decode nb_L_law 916 = .ok (.iadd, 1) := by decide +kernel
theorem nd_L_law_917 : decode nb_L_law 917 = .ok (.iaload, 1) := by decide +kernel
theorem nd_L_law_918 : decode nb_L_law 918 = .ok (.aload_n 0, 1) := by decide +kernel
theorem nd_L_law_919 : decode nb_L_law 919 = .ok (.iload 4, 2) := by decide +kernel
theorem nd_L_law_921 : decode nb_L_law 921 = .ok (.iconst 2, 1) := by decide +kernel
theorem nd_L_law_922 : decode nb_L_law 922 = .ok (.iadd, 1) := by decide +kernel
theorem nd_L_law_923 : decode nb_L_law 923 = .ok (.iaload, 1) := by decide +kernel
theorem nd_L_law_924 : decode nb_L_law 924 = .ok (.aload_n 0, 1) := by decide +kernel
theorem nd_L_law_925 : decode nb_L_law 925 = .ok (.iload 4, 2) := by decide +kernel
theorem nd_L_law_927 : decode nb_L_law 927 = .ok (.iconst 3, 1) := by decide +kernel
theorem nd_L_law_928 : decode nb_L_law 928 = .ok (.iadd, 1) := by decide +kernel
theorem nd_L_law_929 : decode nb_L_law 929 = .ok (.iaload, 1) := by decide +kernel
theorem nd_L_law_930 : decode nb_L_law 930 = .ok (.i2l, 1) := by decide +kernel
theorem nd_L_law_931 : decode nb_L_law 931 = .ok (.bipush 32, 2) := by decide +kernel
theorem nd_L_law_933 : decode nb_L_law 933 = .ok (.lshl, 1) := by decide +kernel
theorem nd_L_law_934 : decode nb_L_law 934 = .ok (.aload_n 0, 1) := by decide +kernel
theorem nd_L_law_935 : decode nb_L_law 935 = .ok (.iload 4, 2) := by decide +kernel
theorem nd_L_law_937 : decode nb_L_law 937 = .ok (.iconst 4, 1) := by decide +kernel
theorem nd_L_law_938 : decode nb_L_law 938 = .ok (.iadd, 1) := by decide +kernel
theorem nd_L_law_939 : decode nb_L_law 939 = .ok (.iaload, 1) := by decide +kernel
theorem nd_L_law_940 : decode nb_L_law 940 = .ok (.i2l, 1) := by decide +kernel
theorem nd_L_law_941 : decode nb_L_law 941 = .ok (.ldc2_w 62, 3) := by decide +kernel
theorem nd_L_law_944 : decode nb_L_law 944 = .ok (.land, 1) := by decide +kernel
theorem nd_L_law_945 : decode nb_L_law 945 = .ok (.lor, 1) := by decide +kernel
theorem nd_L_law_946 : decode nb_L_law 946 = .ok (.aload_n 3, 1) := by decide +kernel
theorem nd_L_law_947 : decode nb_L_law 947 = .ok (.invokestatic 104, 3) := by decide +kernel
theorem nd_L_law_950 : decode nb_L_law 950 = .ok (.istore 5, 2) := by decide +kernel
theorem nd_L_law_952 : decode nb_L_law 952 = .ok (.aload_n 2, 1) := by decide +kernel
theorem nd_L_law_953 : decode nb_L_law 953 = .ok (.aload_n 0, 1) := by decide +kernel
theorem nd_L_law_954 : decode nb_L_law 954 = .ok (.iload 4, 2) := by decide +kernel
theorem nd_L_law_956 : decode nb_L_law 956 = .ok (.iconst 1, 1) := by decide +kernel
theorem nd_L_law_957 : decode nb_L_law 957 = .ok (.iadd, 1) := by decide +kernel
theorem nd_L_law_958 : decode nb_L_law 958 = .ok (.iaload, 1) := by decide +kernel
theorem nd_L_law_959 : decode nb_L_law 959 = .ok (.aload_n 0, 1) := by decide +kernel
theorem nd_L_law_960 : decode nb_L_law 960 = .ok (.iload 4, 2) := by decide +kernel
theorem nd_L_law_962 : decode nb_L_law 962 = .ok (.iconst 2, 1) := by decide +kernel
theorem nd_L_law_963 : decode nb_L_law 963 = .ok (.iadd, 1) := by decide +kernel
theorem nd_L_law_964 : decode nb_L_law 964 = .ok (.iaload, 1) := by decide +kernel
theorem nd_L_law_965 : decode nb_L_law 965 = .ok (.aload_n 0, 1) := by decide +kernel
theorem nd_L_law_966 : decode nb_L_law 966 = .ok (.iload 4, 2) := by decide +kernel
theorem nd_L_law_968 : decode nb_L_law 968 = .ok (.iconst 3, 1) := by decide +kernel
theorem nd_L_law_969 : decode nb_L_law 969 = .ok (.iadd, 1) := by decide +kernel
theorem nd_L_law_970 : decode nb_L_law 970 = .ok (.iaload, 1) := by decide +kernel
theorem nd_L_law_971 : decode nb_L_law 971 = .ok (.i2l, 1) := by decide +kernel
theorem nd_L_law_972 : decode nb_L_law 972 = .ok (.bipush 32, 2) := by decide +kernel
theorem nd_L_law_974 : decode nb_L_law 974 = .ok (.lshl, 1) := by decide +kernel
theorem nd_L_law_975 : decode nb_L_law 975 = .ok (.aload_n 0, 1) := by decide +kernel
theorem nd_L_law_976 : decode nb_L_law 976 = .ok (.iload 4, 2) := by decide +kernel
theorem nd_L_law_978 : decode nb_L_law 978 = .ok (.iconst 4, 1) := by decide +kernel
theorem nd_L_law_979 : decode nb_L_law 979 = .ok (.iadd, 1) := by decide +kernel
theorem nd_L_law_980 : decode nb_L_law 980 = .ok (.iaload, 1) := by decide +kernel
theorem nd_L_law_981 : decode nb_L_law 981 = .ok (.i2l, 1) := by decide +kernel
theorem nd_L_law_982 : decode nb_L_law 982 = .ok (.ldc2_w 62, 3) := by decide +kernel
theorem nd_L_law_985 : decode nb_L_law 985 = .ok (.land, 1) := by decide +kernel
theorem nd_L_law_986 : decode nb_L_law 986 = .ok (.lor, 1) := by decide +kernel
theorem nd_L_law_987 : decode nb_L_law 987 = .ok (.invokevirtual 106, 3) := by decide +kernel
theorem nd_L_law_990 : decode nb_L_law 990 = .ok (.istore 6, 2) := by decide +kernel
theorem nd_L_law_992 : decode nb_L_law 992 = .ok (.aload_n 2, 1) := by decide +kernel
theorem nd_L_law_993 : decode nb_L_law 993 = .ok (.invokevirtual 70, 3) := by decide +kernel
theorem nd_L_law_996 : decode nb_L_law 996 = .ok (.iload 5, 2) := by decide +kernel
theorem nd_L_law_998 : decode nb_L_law 998 = .ok (.if_icmp .eq 5, 3) := by decide +kernel
theorem nd_L_law_1001 : decode nb_L_law 1001 = .ok (.iconst 0, 1) := by decide +kernel
theorem nd_L_law_1002 : decode nb_L_law 1002 = .ok (.ireturn, 1) := by decide +kernel
theorem nd_L_law_1003 : decode nb_L_law 1003 = .ok (.iload 5, 2) := by decide +kernel
theorem nd_L_law_1005 : decode nb_L_law 1005 = .ok (.ifCond .ne 15, 3) := by decide +kernel
theorem nd_L_law_1008 : decode nb_L_law 1008 = .ok (.aload_n 3, 1) := by decide +kernel
theorem nd_L_law_1009 : decode nb_L_law 1009 = .ok (.iconst 0, 1) := by decide +kernel
theorem nd_L_law_1010 : decode nb_L_law 1010 = .ok (.laload, 1) := by decide +kernel
theorem nd_L_law_1011 : decode nb_L_law 1011 = .ok (.iload 6, 2) := by decide +kernel
theorem nd_L_law_1013 : decode nb_L_law 1013 = .ok (.i2l, 1) := by decide +kernel
theorem nd_L_law_1014 : decode nb_L_law 1014 = .ok (.lcmp, 1) := by decide +kernel
theorem nd_L_law_1015 : decode nb_L_law 1015 = .ok (.ifCond .eq 5, 3) := by decide +kernel
theorem nd_L_law_1018 : decode nb_L_law 1018 = .ok (.iconst 0, 1) := by decide +kernel
theorem nd_L_law_1019 : decode nb_L_law 1019 = .ok (.ireturn, 1) := by decide +kernel
theorem nd_L_law_1020 : decode nb_L_law 1020 = .ok (.goto 59, 3) := by decide +kernel
theorem nd_L_law_1023 : decode nb_L_law 1023 = .ok (.aload_n 1, 1) := by decide +kernel
theorem nd_L_law_1024 : decode nb_L_law 1024 = .ok (.aload_n 0, 1) := by decide +kernel
theorem nd_L_law_1025 : decode nb_L_law 1025 = .ok (.iload 4, 2) := by decide +kernel
theorem nd_L_law_1027 : decode nb_L_law 1027 = .ok (.iconst 1, 1) := by decide +kernel
theorem nd_L_law_1028 : decode nb_L_law 1028 = .ok (.iadd, 1) := by decide +kernel
theorem nd_L_law_1029 : decode nb_L_law 1029 = .ok (.iaload, 1) := by decide +kernel
theorem nd_L_law_1030 : decode nb_L_law 1030 = .ok (.aload_n 3, 1) := by decide +kernel
theorem nd_L_law_1031 : decode nb_L_law 1031 = .ok (.invokestatic 107, 3) := by decide +kernel
theorem nd_L_law_1034 : decode nb_L_law 1034 = .ok (.istore 5, 2) := by decide +kernel
theorem nd_L_law_1036 : decode nb_L_law 1036 = .ok (.aload_n 2, 1) := by decide +kernel
theorem nd_L_law_1037 : decode nb_L_law 1037 = .ok (.aload_n 0, 1) := by decide +kernel
theorem nd_L_law_1038 : decode nb_L_law 1038 = .ok (.iload 4, 2) := by decide +kernel
theorem nd_L_law_1040 : decode nb_L_law 1040 = .ok (.iconst 1, 1) := by decide +kernel
theorem nd_L_law_1041 : decode nb_L_law 1041 = .ok (.iadd, 1) := by decide +kernel
theorem nd_L_law_1042 : decode nb_L_law 1042 = .ok (.iaload, 1) := by decide +kernel
theorem nd_L_law_1043 : decode nb_L_law 1043 = .ok (.invokevirtual 109, 3) := by decide +kernel
theorem nd_L_law_1046 : decode nb_L_law 1046 = .ok (.istore 6, 2) := by decide +kernel
theorem nd_L_law_1048 : decode nb_L_law 1048 = .ok (.aload_n 2, 1) := by decide +kernel
theorem nd_L_law_1049 : decode nb_L_law 1049 = .ok (.invokevirtual 70, 3) := by decide +kernel
theorem nd_L_law_1052 : decode nb_L_law 1052 = .ok (.iload 5, 2) := by decide +kernel
theorem nd_L_law_1054 : decode nb_L_law 1054 = .ok (.if_icmp .eq 5, 3) := by decide +kernel
theorem nd_L_law_1057 : decode nb_L_law 1057 = .ok (.iconst 0, 1) := by decide +kernel
theorem nd_L_law_1058 : decode nb_L_law 1058 = .ok (.ireturn, 1) := by decide +kernel
theorem nd_L_law_1059 : decode nb_L_law 1059 = .ok (.iload 5, 2) := by decide +kernel
theorem nd_L_law_1061 : decode nb_L_law 1061 = .ok (.ifCond .ne 15, 3) := by decide +kernel
theorem nd_L_law_1064 : decode nb_L_law 1064 = .ok (.aload_n 3, 1) := by decide +kernel
theorem nd_L_law_1065 : decode nb_L_law 1065 = .ok (.iconst 0, 1) := by decide +kernel
theorem nd_L_law_1066 : decode nb_L_law 1066 = .ok (.laload, 1) := by decide +kernel
theorem nd_L_law_1067 : decode nb_L_law 1067 = .ok (.iload 6, 2) := by decide +kernel
theorem nd_L_law_1069 : decode nb_L_law 1069 = .ok (.i2l, 1) := by decide +kernel
theorem nd_L_law_1070 : decode nb_L_law 1070 = .ok (.lcmp, 1) := by decide +kernel
theorem nd_L_law_1071 : decode nb_L_law 1071 = .ok (.ifCond .eq 5, 3) := by decide +kernel
theorem nd_L_law_1074 : decode nb_L_law 1074 = .ok (.iconst 0, 1) := by decide +kernel
theorem nd_L_law_1075 : decode nb_L_law 1075 = .ok (.ireturn, 1) := by decide +kernel
theorem nd_L_law_1076 : decode nb_L_law 1076 = .ok (.goto 3, 3) := by decide +kernel
theorem nd_L_law_1079 : decode nb_L_law 1079 = .ok (.iinc 4 7, 3) := by decide +kernel
theorem nd_L_law_1082 : decode nb_L_law 1082 = .ok (.goto (-1059), 3) := by decide +kernel
theorem nd_L_law_1085 : decode nb_L_law 1085 = .ok (.iconst 1, 1) := by decide +kernel
theorem nd_L_law_1086 : decode nb_L_law 1086 = .ok (.ireturn, 1) := by decide +kernel
