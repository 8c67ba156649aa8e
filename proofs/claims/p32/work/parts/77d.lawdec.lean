theorem mj_dL_854 : decode mj_law.2.1 854 = .ok (.invokevirtual 109, 3) := by decide +kernel
theorem mj_dL_857 : decode mj_law.2.1 857 = .ok (.pop, 1) := by decide +kernel
theorem mj_dL_858 : decode mj_law.2.1 858 = .ok (.goto 223, 3) := by decide +kernel
theorem mj_dL_861 : decode mj_law.2.1 861 = .ok (.aload_n 1, 1) := by decide +kernel
theorem mj_dL_862 : decode mj_law.2.1 862 = .ok (.aload_n 0, 1) := by decide +kernel
theorem mj_dL_863 : decode mj_law.2.1 863 = .ok (.iload_n 3, 1) := by decide +kernel
theorem mj_dL_864 : decode mj_law.2.1 864 = .ok (.iconst 1, 1) := by decide +kernel
theorem mj_dL_865 : decode mj_law.2.1 865 = .ok (.iadd, 1) := by decide +kernel
theorem mj_dL_866 : decode mj_law.2.1 866 = .ok (.iaload, 1) := by decide +kernel
theorem mj_dL_867 : decode mj_law.2.1 867 = .ok (.aload_n 0, 1) := by decide +kernel
theorem mj_dL_868 : decode mj_law.2.1 868 = .ok (.iload_n 3, 1) := by decide +kernel
theorem mj_dL_869 : decode mj_law.2.1 869 = .ok (.iconst 2, 1) := by decide +kernel
theorem mj_dL_870 : decode mj_law.2.1 870 = .ok (.iadd, 1) := by decide +kernel
theorem mj_dL_871 : decode mj_law.2.1 871 = .ok (.iaload, 1) := by decide +kernel
theorem mj_dL_872 : decode mj_law.2.1 872 = .ok (.aload_n 0, 1) := by decide +kernel
theorem mj_dL_873 : decode mj_law.2.1 873 = .ok (.iload_n 3, 1) := by decide +kernel
theorem mj_dL_874 : decode mj_law.2.1 874 = .ok (.iconst 3, 1) := by decide +kernel
theorem mj_dL_875 : decode mj_law.2.1 875 = .ok (.iadd, 1) := by decide +kernel
theorem mj_dL_876 : decode mj_law.2.1 876 = .ok (.iaload, 1) := by decide +kernel
theorem mj_dL_877 : decode mj_law.2.1 877 = .ok (.ifCond .eq 7, 3) := by decide +kernel
theorem mj_dL_880 : decode mj_law.2.1 880 = .ok (.iconst 1, 1) := by decide +kernel
theorem mj_dL_881 : decode mj_law.2.1 881 = .ok (.goto 4, 3) := by decide +kernel
theorem mj_dL_884 : decode mj_law.2.1 884 = .ok (.iconst 0, 1) := by decide +kernel
theorem mj_dL_885 : decode mj_law.2.1 885 = .ok (.invokevirtual 110, 3) := by decide +kernel
theorem mj_dL_888 : decode mj_law.2.1 888 = .ok (.pop, 1) := by decide +kernel
theorem mj_dL_889 : decode mj_law.2.1 889 = .ok (.aload_n 2, 1) := by decide +kernel
theorem mj_dL_890 : decode mj_law.2.1 890 = .ok (.aload_n 0, 1) := by decide +kernel
theorem mj_dL_891 : decode mj_law.2.1 891 = .ok (.iload_n 3, 1) := by decide +kernel
theorem mj_dL_892 : decode mj_law.2.1 892 = .ok (.iconst 1, 1) := by decide +kernel
theorem mj_dL_893 : decode mj_law.2.1 893 = .ok (.iadd, 1) := by decide +kernel
theorem mj_dL_894 : decode mj_law.2.1 894 = .ok (.iaload, 1) := by decide +kernel
theorem mj_dL_895 : decode mj_law.2.1 895 = .ok (.aload_n 0, 1) := by decide +kernel
theorem mj_dL_896 : decode mj_law.2.1 896 = .ok (.iload_n 3, 1) := by decide +kernel
theorem mj_dL_897 : decode mj_law.2.1 897 = .ok (.iconst 2, 1) := by decide +kernel
theorem mj_dL_898 : decode mj_law.2.1 898 = .ok (.iadd, 1) := by decide +kernel
theorem mj_dL_899 : decode mj_law.2.1 899 = .ok (.iaload, 1) := by decide +kernel
theorem mj_dL_900 : decode mj_law.2.1 900 = .ok (.aload_n 0, 1) := by decide +kernel
theorem mj_dL_901 : decode mj_law.2.1 901 = .ok (.iload_n 3, 1) := by decide +kernel
theorem mj_dL_902 : decode mj_law.2.1 902 = .ok (.iconst 3, 1) := by decide +kernel
theorem mj_dL_903 : decode mj_law.2.1 903 = .ok (.iadd, 1) := by decide +kernel
theorem mj_dL_904 : decode mj_law.2.1 904 = .ok (.iaload, 1) := by decide +kernel
theorem mj_dL_905 : decode mj_law.2.1 905 = .ok (.ifCond .eq 7, 3) := by decide +kernel
theorem mj_dL_908 : decode mj_law.2.1 908 = .ok (.iconst 1, 1) := by decide +kernel
theorem mj_dL_909 : decode mj_law.2.1 909 = .ok (.goto 4, 3) := by decide +kernel
theorem mj_dL_912 : decode mj_law.2.1 912 = .ok (.iconst 0, 1) := by decide +kernel
theorem mj_dL_913 : decode mj_law.2.1 913 = .ok (.invokevirtual 114, 3) := by decide +kernel
theorem mj_dL_916 : decode mj_law.2.1 916 = .ok (.pop, 1) := by decide +kernel
theorem mj_dL_917 : decode mj_law.2.1 917 = .ok (.goto 164, 3) := by decide +kernel
theorem mj_dL_920 : decode mj_law.2.1 920 = .ok (.aload_n 1, 1) := by decide +kernel
theorem mj_dL_921 : decode mj_law.2.1 921 = .ok (.aload_n 0, 1) := by decide +kernel
theorem mj_dL_922 : decode mj_law.2.1 922 = .ok (.iload_n 3, 1) := by decide +kernel
theorem mj_dL_923 : decode mj_law.2.1 923 = .ok (.iconst 1, 1) := by decide +kernel
theorem mj_dL_924 : decode mj_law.2.1 924 = .ok (.iadd, 1) := by decide +kernel
theorem mj_dL_925 : decode mj_law.2.1 925 = .ok (.iaload, 1) := by decide +kernel
theorem mj_dL_926 : decode mj_law.2.1 926 = .ok (.aload_n 0, 1) := by decide +kernel
theorem mj_dL_927 : decode mj_law.2.1 927 = .ok (.iload_n 3, 1) := by decide +kernel
theorem mj_dL_928 : decode mj_law.2.1 928 = .ok (.iconst 2, 1) := by decide +kernel
theorem mj_dL_929 : decode mj_law.2.1 929 = .ok (.iadd, 1) := by decide +kernel
theorem mj_dL_930 : decode mj_law.2.1 930 = .ok (.iaload, 1) := by decide +kernel
theorem mj_dL_931 : decode mj_law.2.1 931 = .ok (.invokevirtual 115, 3) := by decide +kernel
theorem mj_dL_934 : decode mj_law.2.1 934 = .ok (.pop, 1) := by decide +kernel
theorem mj_dL_935 : decode mj_law.2.1 935 = .ok (.aload_n 2, 1) := by decide +kernel
theorem mj_dL_936 : decode mj_law.2.1 936 = .ok (.aload_n 0, 1) := by decide +kernel
theorem mj_dL_937 : decode mj_law.2.1 937 = .ok (.iload_n 3, 1) := by decide +kernel
theorem mj_dL_938 : decode mj_law.2.1 938 = .ok (.iconst 1, 1) := by decide +kernel
theorem mj_dL_939 : decode mj_law.2.1 939 = .ok (.iadd, 1) := by decide +kernel
theorem mj_dL_940 : decode mj_law.2.1 940 = .ok (.iaload, 1) := by decide +kernel
theorem mj_dL_941 : decode mj_law.2.1 941 = .ok (.aload_n 0, 1) := by decide +kernel
theorem mj_dL_942 : decode mj_law.2.1 942 = .ok (.iload_n 3, 1) := by decide +kernel
theorem mj_dL_943 : decode mj_law.2.1 943 = .ok (.iconst 2, 1) := by decide +kernel
theorem mj_dL_944 : decode mj_law.2.1 944 = .ok (.iadd, 1) := by decide +kernel
theorem mj_dL_945 : decode mj_law.2.1 945 = .ok (.iaload, 1) := by decide +kernel
theorem mj_dL_946 : decode mj_law.2.1 946 = .ok (.invokevirtual 118, 3) := by decide +kernel
theorem mj_dL_949 : decode mj_law.2.1 949 = .ok (.pop, 1) := by decide +kernel
theorem mj_dL_950 : decode mj_law.2.1 950 = .ok (.goto 131, 3) := by decide +kernel
theorem mj_dL_953 : decode mj_law.2.1 953 = .ok (.aload_n 1, 1) := by decide +kernel
theorem mj_dL_954 : decode mj_law.2.1 954 = .ok (.aload_n 0, 1) := by decide +kernel
theorem mj_dL_955 : decode mj_law.2.1 955 = .ok (.iload_n 3, 1) := by decide +kernel
theorem mj_dL_956 : decode mj_law.2.1 956 = .ok (.iconst 1, 1) := by decide +kernel
theorem mj_dL_957 : decode mj_law.2.1 957 = .ok (.iadd, 1) := by decide +kernel
theorem mj_dL_958 : decode mj_law.2.1 958 = .ok (.iaload, 1) := by decide +kernel
theorem mj_dL_959 : decode mj_law.2.1 959 = .ok (.aload_n 0, 1) := by decide +kernel
theorem mj_dL_960 : decode mj_law.2.1 960 = .ok (.iload_n 3, 1) := by decide +kernel
theorem mj_dL_961 : decode mj_law.2.1 961 = .ok (.iconst 2, 1) := by decide +kernel
theorem mj_dL_962 : decode mj_law.2.1 962 = .ok (.iadd, 1) := by decide +kernel
theorem mj_dL_963 : decode mj_law.2.1 963 = .ok (.iaload, 1) := by decide +kernel
theorem mj_dL_964 : decode mj_law.2.1 964 = .ok (.invokevirtual 119, 3) := by decide +kernel
theorem mj_dL_967 : decode mj_law.2.1 967 = .ok (.pop, 1) := by decide +kernel
theorem mj_dL_968 : decode mj_law.2.1 968 = .ok (.aload_n 2, 1) := by decide +kernel
theorem mj_dL_969 : decode mj_law.2.1 969 = .ok (.aload_n 0, 1) := by decide +kernel
theorem mj_dL_970 : decode mj_law.2.1 970 = .ok (.iload_n 3, 1) := by decide +kernel
theorem mj_dL_971 : decode mj_law.2.1 971 = .ok (.iconst 1, 1) := by decide +kernel
theorem mj_dL_972 : decode mj_law.2.1 972 = .ok (.iadd, 1) := by decide +kernel
theorem mj_dL_973 : decode mj_law.2.1 973 = .ok (.iaload, 1) := by decide +kernel
theorem mj_dL_974 : decode mj_law.2.1 974 = .ok (.aload_n 0, 1) := by decide +kernel
theorem mj_dL_975 : decode mj_law.2.1 975 = .ok (.iload_n 3, 1) := by decide +kernel
theorem mj_dL_976 : decode mj_law.2.1 976 = .ok (.iconst 2, 1) := by decide +kernel
theorem mj_dL_977 : decode mj_law.2.1 977 = .ok (.iadd, 1) := by decide +kernel
theorem mj_dL_978 : decode mj_law.2.1 978 = .ok (.iaload, 1) := by decide +kernel
theorem mj_dL_979 : decode mj_law.2.1 979 = .ok (.invokevirtual 122, 3) := by decide +kernel
theorem mj_dL_982 : decode mj_law.2.1 982 = .ok (.pop, 1) := by decide +kernel
theorem mj_dL_983 : decode mj_law.2.1 983 = .ok (.goto 98, 3) := by decide +kernel
theorem mj_dL_986 : decode mj_law.2.1 986 = .ok (.aload_n 1, 1) := by decide +kernel
theorem mj_dL_987 : decode mj_law.2.1 987 = .ok (.invokevirtual 123, 3) := by decide +kernel
theorem mj_dL_990 : decode mj_law.2.1 990 = .ok (.pop, 1) := by decide +kernel
theorem mj_dL_991 : decode mj_law.2.1 991 = .ok (.aload_n 2, 1) := by decide +kernel
theorem mj_dL_992 : decode mj_law.2.1 992 = .ok (.invokevirtual 126, 3) := by decide +kernel
theorem mj_dL_995 : decode mj_law.2.1 995 = .ok (.pop, 1) := by decide +kernel
theorem mj_dL_996 : decode mj_law.2.1 996 = .ok (.goto 85, 3) := by decide +kernel
theorem mj_dL_999 : decode mj_law.2.1 999 = .ok (.aload_n 1, 1) := by decide +kernel
theorem mj_dL_1000 : decode mj_law.2.1 1000 = .ok (.invokevirtual 127, 3) := by decide +kernel
theorem mj_dL_1003 : decode mj_law.2.1 1003 = .ok (.pop, 1) := by decide +kernel
theorem mj_dL_1004 : decode mj_law.2.1 1004 = .ok (.aload_n 2, 1) := by decide +kernel
theorem mj_dL_1005 : decode mj_law.2.1 1005 = .ok (.invokevirtual 130, 3) := by decide +kernel
theorem mj_dL_1008 : decode mj_law.2.1 1008 = .ok (.pop, 1) := by decide +kernel
theorem mj_dL_1009 : decode mj_law.2.1 1009 = .ok (.goto 72, 3) := by decide +kernel
theorem mj_dL_1012 : decode mj_law.2.1 1012 = .ok (.aload_n 1, 1) := by decide +kernel
theorem mj_dL_1013 : decode mj_law.2.1 1013 = .ok (.aload_n 0, 1) := by decide +kernel
theorem mj_dL_1014 : decode mj_law.2.1 1014 = .ok (.iload_n 3, 1) := by decide +kernel
theorem mj_dL_1015 : decode mj_law.2.1 1015 = .ok (.iconst 1, 1) := by decide +kernel
theorem mj_dL_1016 : decode mj_law.2.1 1016 = .ok (.iadd, 1) := by decide +kernel
theorem mj_dL_1017 : decode mj_law.2.1 1017 = .ok (.iaload, 1) := by decide +kernel
theorem mj_dL_1018 : decode mj_law.2.1 1018 = .ok (.invokevirtual 131, 3) := by decide +kernel
theorem mj_dL_1021 : decode mj_law.2.1 1021 = .ok (.pop, 1) := by decide +kernel
theorem mj_dL_1022 : decode mj_law.2.1 1022 = .ok (.aload_n 2, 1) := by decide +kernel
theorem mj_dL_1023 : decode mj_law.2.1 1023 = .ok (.aload_n 0, 1) := by decide +kernel
theorem mj_dL_1024 : decode mj_law.2.1 1024 = .ok (.iload_n 3, 1) := by decide +kernel
theorem mj_dL_1025 : decode mj_law.2.1 1025 = .ok (.iconst 1, 1) := by decide +kernel
theorem mj_dL_1026 : decode mj_law.2.1 1026 = .ok (.iadd, 1) := by decide +kernel
theorem mj_dL_1027 : decode mj_law.2.1 1027 = .ok (.iaload, 1) := by decide +kernel
theorem mj_dL_1028 : decode mj_law.2.1 1028 = .ok (.invokevirtual 134, 3) := by decide +kernel
theorem mj_dL_1031 : decode mj_law.2.1 1031 = .ok (.pop, 1) := by decide +kernel
theorem mj_dL_1032 : decode mj_law.2.1 1032 = .ok (.goto 49, 3) := by decide +kernel
theorem mj_dL_1035 : decode mj_law.2.1 1035 = .ok (.aload_n 1, 1) := by decide +kernel
theorem mj_dL_1036 : decode mj_law.2.1 1036 = .ok (.aload_n 0, 1) := by decide +kernel
theorem mj_dL_1037 : decode mj_law.2.1 1037 = .ok (.iload_n 3, 1) := by decide +kernel
theorem mj_dL_1038 : decode mj_law.2.1 1038 = .ok (.iconst 1, 1) := by decide +kernel
theorem mj_dL_1039 : decode mj_law.2.1 1039 = .ok (.iadd, 1) := by decide +kernel
theorem mj_dL_1040 : decode mj_law.2.1 1040 = .ok (.iaload, 1) := by decide +kernel
theorem mj_dL_1041 : decode mj_law.2.1 1041 = .ok (.invokevirtual 135, 3) := by decide +kernel
theorem mj_dL_1044 : decode mj_law.2.1 1044 = .ok (.pop, 1) := by decide +kernel
theorem mj_dL_1045 : decode mj_law.2.1 1045 = .ok (.aload_n 2, 1) := by decide +kernel
theorem mj_dL_1046 : decode mj_law.2.1 1046 = .ok (.aload_n 0, 1) := by decide +kernel
theorem mj_dL_1047 : decode mj_law.2.1 1047 = .ok (.iload_n 3, 1) := by decide +kernel
theorem mj_dL_1048 : decode mj_law.2.1 1048 = .ok (.iconst 1, 1) := by decide +kernel
theorem mj_dL_1049 : decode mj_law.2.1 1049 = .ok (.iadd, 1) := by decide +kernel
theorem mj_dL_1050 : decode mj_law.2.1 1050 = .ok (.iaload, 1) := by decide +kernel
theorem mj_dL_1051 : decode mj_law.2.1 1051 = .ok (.invokevirtual 138, 3) := by decide +kernel
theorem mj_dL_1054 : decode mj_law.2.1 1054 = .ok (.pop, 1) := by decide +kernel
theorem mj_dL_1055 : decode mj_law.2.1 1055 = .ok (.goto 26, 3) := by decide +kernel
theorem mj_dL_1058 : decode mj_law.2.1 1058 = .ok (.aload_n 1, 1) := by decide +kernel
theorem mj_dL_1059 : decode mj_law.2.1 1059 = .ok (.aload_n 0, 1) := by decide +kernel
theorem mj_dL_1060 : decode mj_law.2.1 1060 = .ok (.iload_n 3, 1) := by decide +kernel
theorem mj_dL_1061 : decode mj_law.2.1 1061 = .ok (.iconst 1, 1) := by decide +kernel
theorem mj_dL_1062 : decode mj_law.2.1 1062 = .ok (.iadd, 1) := by decide +kernel
theorem mj_dL_1063 : decode mj_law.2.1 1063 = .ok (.iaload, 1) := by decide +kernel
theorem mj_dL_1064 : decode mj_law.2.1 1064 = .ok (.invokevirtual 139, 3) := by decide +kernel
theorem mj_dL_1067 : decode mj_law.2.1 1067 = .ok (.aload_n 2, 1) := by decide +kernel
theorem mj_dL_1068 : decode mj_law.2.1 1068 = .ok (.aload_n 0, 1) := by decide +kernel
theorem mj_dL_1069 : decode mj_law.2.1 1069 = .ok (.iload_n 3, 1) := by decide +kernel
theorem mj_dL_1070 : decode mj_law.2.1 1070 = .ok (.iconst 1, 1) := by decide +kernel
theorem mj_dL_1071 : decode mj_law.2.1 1071 = .ok (.iadd, 1) := by decide +kernel
theorem mj_dL_1072 : decode mj_law.2.1 1072 = .ok (.iaload, 1) := by decide +kernel
theorem mj_dL_1073 : decode mj_law.2.1 1073 = .ok (.invokevirtual 142, 3) := by decide +kernel
theorem mj_dL_1076 : decode mj_law.2.1 1076 = .ok (.if_icmp .eq 5, 3) := by decide +kernel
theorem mj_dL_1081 : decode mj_law.2.1 1081 = .ok (.iinc 3 5, 3) := by decide +kernel
theorem mj_dL_1084 : decode mj_law.2.1 1084 = .ok (.goto (-1066), 3) := by decide +kernel
theorem mj_dL_1087 : decode mj_law.2.1 1087 = .ok (.iconst 1, 1) := by decide +kernel
theorem mj_dL_1088 : decode mj_law.2.1 1088 = .ok (.ireturn, 1) := by decide +kernel
