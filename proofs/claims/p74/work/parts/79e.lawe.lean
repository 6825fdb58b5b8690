theorem xl_d_860 : decode code 860 = .ok (.iload_n 3, 1) := by decide +kernel
theorem xl_d_861 : decode code 861 = .ok (.iconst 2, 1) := by decide +kernel
theorem xl_d_862 : decode code 862 = .ok (.iadd, 1) := by decide +kernel
theorem xl_d_863 : decode code 863 = .ok (.iaload, 1) := by decide +kernel
theorem xl_d_864 : decode code 864 = .ok (.aload_n 0, 1) := by decide +kernel
theorem xl_d_865 : decode code 865 = .ok (.iload_n 3, 1) := by decide +kernel
theorem xl_d_866 : decode code 866 = .ok (.iconst 3, 1) := by decide +kernel
theorem xl_d_867 : decode code 867 = .ok (.iadd, 1) := by decide +kernel
theorem xl_d_868 : decode code 868 = .ok (.iaload, 1) := by decide +kernel
theorem xl_d_869 : decode code 869 = .ok (.invokevirtual 109, 3) := by decide +kernel
theorem xl_d_872 : decode code 872 = .ok (.pop2, 1) := by decide +kernel
theorem xl_d_873 : decode code 873 = .ok (.aload_n 2, 1) := by decide +kernel
theorem xl_d_874 : decode code 874 = .ok (.aload_n 0, 1) := by decide +kernel
theorem xl_d_875 : decode code 875 = .ok (.iload_n 3, 1) := by decide +kernel
theorem xl_d_876 : decode code 876 = .ok (.iconst 1, 1) := by decide +kernel
theorem xl_d_877 : decode code 877 = .ok (.iadd, 1) := by decide +kernel
theorem xl_d_878 : decode code 878 = .ok (.iaload, 1) := by decide +kernel
theorem xl_d_879 : decode code 879 = .ok (.aload_n 0, 1) := by decide +kernel
theorem xl_d_880 : decode code 880 = .ok (.iload_n 3, 1) := by decide +kernel
theorem xl_d_881 : decode code 881 = .ok (.iconst 2, 1) := by decide +kernel
theorem xl_d_882 : decode code 882 = .ok (.iadd, 1) := by decide +kernel
theorem xl_d_883 : decode code 883 = .ok (.iaload, 1) := by decide +kernel
theorem xl_d_884 : decode code 884 = .ok (.aload_n 0, 1) := by decide +kernel
theorem xl_d_885 : decode code 885 = .ok (.iload_n 3, 1) := by decide +kernel
theorem xl_d_886 : decode code 886 = .ok (.iconst 3, 1) := by decide +kernel
theorem xl_d_887 : decode code 887 = .ok (.iadd, 1) := by decide +kernel
theorem xl_d_888 : decode code 888 = .ok (.iaload, 1) := by decide +kernel
theorem xl_d_889 : decode code 889 = .ok (.invokevirtual 113, 3) := by decide +kernel
theorem xl_d_892 : decode code 892 = .ok (.pop2, 1) := by decide +kernel
theorem xl_d_893 : decode code 893 = .ok (.goto 1243, 3) := by decide +kernel
theorem xl_d_896 : decode code 896 = .ok (.aload_n 1, 1) := by decide +kernel
theorem xl_d_897 : decode code 897 = .ok (.invokevirtual 114, 3) := by decide +kernel
theorem xl_d_900 : decode code 900 = .ok (.pop, 1) := by decide +kernel
theorem xl_d_901 : decode code 901 = .ok (.aload_n 2, 1) := by decide +kernel
theorem xl_d_902 : decode code 902 = .ok (.invokevirtual 117, 3) := by decide +kernel
theorem xl_d_905 : decode code 905 = .ok (.pop, 1) := by decide +kernel
theorem xl_d_906 : decode code 906 = .ok (.goto 1230, 3) := by decide +kernel
theorem xl_d_909 : decode code 909 = .ok (.aload_n 1, 1) := by decide +kernel
theorem xl_d_910 : decode code 910 = .ok (.aload_n 0, 1) := by decide +kernel
theorem xl_d_911 : decode code 911 = .ok (.iload_n 3, 1) := by decide +kernel
theorem xl_d_912 : decode code 912 = .ok (.iconst 1, 1) := by decide +kernel
theorem xl_d_913 : decode code 913 = .ok (.iadd, 1) := by decide +kernel
theorem xl_d_914 : decode code 914 = .ok (.iaload, 1) := by decide +kernel
theorem xl_d_915 : decode code 915 = .ok (.invokevirtual 118, 3) := by decide +kernel
theorem xl_d_918 : decode code 918 = .ok (.pop, 1) := by decide +kernel
theorem xl_d_919 : decode code 919 = .ok (.aload_n 2, 1) := by decide +kernel
theorem xl_d_920 : decode code 920 = .ok (.aload_n 0, 1) := by decide +kernel
theorem xl_d_921 : decode code 921 = .ok (.iload_n 3, 1) := by decide +kernel
theorem xl_d_922 : decode code 922 = .ok (.iconst 1, 1) := by decide +kernel
theorem xl_d_923 : decode code 923 = .ok (.iadd, 1) := by decide +kernel
theorem xl_d_924 : decode code 924 = .ok (.iaload, 1) := by decide +kernel
theorem xl_d_925 : decode code 925 = .ok (.invokevirtual 121, 3) := by decide +kernel
theorem xl_d_928 : decode code 928 = .ok (.pop, 1) := by decide +kernel
theorem xl_d_929 : decode code 929 = .ok (.goto 1207, 3) := by decide +kernel
theorem xl_d_932 : decode code 932 = .ok (.aload_n 1, 1) := by decide +kernel
theorem xl_d_933 : decode code 933 = .ok (.invokevirtual 122, 3) := by decide +kernel
theorem xl_d_936 : decode code 936 = .ok (.pop, 1) := by decide +kernel
theorem xl_d_937 : decode code 937 = .ok (.aload_n 2, 1) := by decide +kernel
theorem xl_d_938 : decode code 938 = .ok (.invokevirtual 125, 3) := by decide +kernel
theorem xl_d_941 : decode code 941 = .ok (.pop, 1) := by decide +kernel
theorem xl_d_942 : decode code 942 = .ok (.goto 1194, 3) := by decide +kernel
theorem xl_d_945 : decode code 945 = .ok (.aload_n 1, 1) := by decide +kernel
theorem xl_d_946 : decode code 946 = .ok (.aload_n 0, 1) := by decide +kernel
theorem xl_d_947 : decode code 947 = .ok (.iload_n 3, 1) := by decide +kernel
theorem xl_d_948 : decode code 948 = .ok (.iconst 1, 1) := by decide +kernel
theorem xl_d_949 : decode code 949 = .ok (.iadd, 1) := by decide +kernel
theorem xl_d_950 : decode code 950 = .ok (.iaload, 1) := by decide +kernel
theorem xl_d_951 : decode code 951 = .ok (.invokevirtual 126, 3) := by decide +kernel
theorem xl_d_954 : decode code 954 = .ok (.pop, 1) := by decide +kernel
theorem xl_d_955 : decode code 955 = .ok (.aload_n 2, 1) := by decide +kernel
theorem xl_d_956 : decode code 956 = .ok (.aload_n 0, 1) := by decide +kernel
theorem xl_d_957 : decode code 957 = .ok (.iload_n 3, 1) := by decide +kernel
theorem xl_d_958 : decode code 958 = .ok (.iconst 1, 1) := by decide +kernel
theorem xl_d_959 : decode code 959 = .ok (.iadd, 1) := by decide +kernel
theorem xl_d_960 : decode code 960 = .ok (.iaload, 1) := by decide +kernel
theorem xl_d_961 : decode code 961 = .ok (.invokevirtual 129, 3) := by decide +kernel
theorem xl_d_964 : decode code 964 = .ok (.pop, 1) := by decide +kernel
theorem xl_d_965 : decode code 965 = .ok (.goto 1171, 3) := by decide +kernel
theorem xl_d_968 : decode code 968 = .ok (.aload_n 1, 1) := by decide +kernel
theorem xl_d_969 : decode code 969 = .ok (.invokevirtual 130, 3) := by decide +kernel
theorem xl_d_972 : decode code 972 = .ok (.pop, 1) := by decide +kernel
theorem xl_d_973 : decode code 973 = .ok (.aload_n 2, 1) := by decide +kernel
theorem xl_d_974 : decode code 974 = .ok (.invokevirtual 133, 3) := by decide +kernel
theorem xl_d_977 : decode code 977 = .ok (.pop, 1) := by decide +kernel
theorem xl_d_978 : decode code 978 = .ok (.goto 1158, 3) := by decide +kernel
theorem xl_d_981 : decode code 981 = .ok (.aload_n 1, 1) := by decide +kernel
theorem xl_d_982 : decode code 982 = .ok (.invokevirtual 134, 3) := by decide +kernel
theorem xl_d_985 : decode code 985 = .ok (.pop, 1) := by decide +kernel
theorem xl_d_986 : decode code 986 = .ok (.aload_n 2, 1) := by decide +kernel
theorem xl_d_987 : decode code 987 = .ok (.invokevirtual 137, 3) := by decide +kernel
theorem xl_d_990 : decode code 990 = .ok (.pop, 1) := by decide +kernel
theorem xl_d_991 : decode code 991 = .ok (.goto 1145, 3) := by decide +kernel
theorem xl_d_994 : decode code 994 = .ok (.aload_n 1, 1) := by decide +kernel
theorem xl_d_995 : decode code 995 = .ok (.aload_n 0, 1) := by decide +kernel
theorem xl_d_996 : decode code 996 = .ok (.iload_n 3, 1) := by decide +kernel
theorem xl_d_997 : decode code 997 = .ok (.iconst 1, 1) := by decide +kernel
theorem xl_d_998 : decode code 998 = .ok (.iadd, 1) := by decide +kernel
theorem xl_d_999 : decode code 999 = .ok (.iaload, 1) := by decide +kernel
theorem xl_d_1000 : decode code 1000 = .ok (.invokevirtual 138, 3) := by decide +kernel
theorem xl_d_1003 : decode code 1003 = .ok (.pop, 1) := by decide +kernel
theorem xl_d_1004 : decode code 1004 = .ok (.aload_n 2, 1) := by decide +kernel
theorem xl_d_1005 : decode code 1005 = .ok (.aload_n 0, 1) := by decide +kernel
theorem xl_d_1006 : decode code 1006 = .ok (.iload_n 3, 1) := by decide +kernel
theorem xl_d_1007 : decode code 1007 = .ok (.iconst 1, 1) := by decide +kernel
theorem xl_d_1008 : decode code 1008 = .ok (.iadd, 1) := by decide +kernel
theorem xl_d_1009 : decode code 1009 = .ok (.iaload, 1) := by decide +kernel
theorem xl_d_1010 : decode code 1010 = .ok (.invokevirtual 141, 3) := by decide +kernel
theorem xl_d_1013 : decode code 1013 = .ok (.pop, 1) := by decide +kernel
theorem xl_d_1014 : decode code 1014 = .ok (.goto 1122, 3) := by decide +kernel
theorem xl_d_1017 : decode code 1017 = .ok (.aload_n 1, 1) := by decide +kernel
theorem xl_d_1018 : decode code 1018 = .ok (.aload_n 0, 1) := by decide +kernel
theorem xl_d_1019 : decode code 1019 = .ok (.iload_n 3, 1) := by decide +kernel
theorem xl_d_1020 : decode code 1020 = .ok (.iconst 1, 1) := by decide +kernel
theorem xl_d_1021 : decode code 1021 = .ok (.iadd, 1) := by decide +kernel
theorem xl_d_1022 : decode code 1022 = .ok (.iaload, 1) := by decide +kernel
theorem xl_d_1023 : decode code 1023 = .ok (.aload_n 0, 1) := by decide +kernel
theorem xl_d_1024 : decode code 1024 = .ok (.iload_n 3, 1) := by decide +kernel
theorem xl_d_1025 : decode code 1025 = .ok (.iconst 2, 1) := by decide +kernel
theorem xl_d_1026 : decode code 1026 = .ok (.iadd, 1) := by decide +kernel
theorem xl_d_1027 : decode code 1027 = .ok (.iaload, 1) := by decide +kernel
theorem xl_d_1028 : decode code 1028 = .ok (.invokevirtual 142, 3) := by decide +kernel
theorem xl_d_1031 : decode code 1031 = .ok (.pop, 1) := by decide +kernel
theorem xl_d_1032 : decode code 1032 = .ok (.aload_n 2, 1) := by decide +kernel
theorem xl_d_1033 : decode code 1033 = .ok (.aload_n 0, 1) := by decide +kernel
theorem xl_d_1034 : decode code 1034 = .ok (.iload_n 3, 1) := by decide +kernel
theorem xl_d_1035 : decode code 1035 = .ok (.iconst 1, 1) := by decide +kernel
theorem xl_d_1036 : decode code 1036 = .ok (.iadd, 1) := by decide +kernel
theorem xl_d_1037 : decode code 1037 = .ok (.iaload, 1) := by decide +kernel
theorem xl_d_1038 : decode code 1038 = .ok (.aload_n 0, 1) := by decide +kernel
theorem xl_d_1039 : decode code 1039 = .ok (.iload_n 3, 1) := by decide +kernel
theorem xl_d_1040 : decode code 1040 = .ok (.iconst 2, 1) := by decide +kernel
theorem xl_d_1041 : decode code 1041 = .ok (.iadd, 1) := by decide +kernel
theorem xl_d_1042 : decode code 1042 = .ok (.iaload, 1) := by decide +kernel
theorem xl_d_1043 : decode code 1043 = .ok (.invokevirtual 145, 3) := by decide +kernel
theorem xl_d_1046 : decode code 1046 = .ok (.pop, 1) := by decide +kernel
theorem xl_d_1047 : decode code 1047 = .ok (.goto 1089, 3) := by decide +kernel
theorem xl_d_1050 : decode code 1050 = .ok (.aload_n 1, 1) := by decide +kernel
theorem xl_d_1051 : decode code 1051 = .ok (.aload_n 0, 1) := by decide +kernel
theorem xl_d_1052 : decode code 1052 = .ok (.iload_n 3, 1) := by decide +kernel
theorem xl_d_1053 : decode code 1053 = .ok (.iconst 1, 1) := by decide +kernel
theorem xl_d_1054 : decode code 1054 = .ok (.iadd, 1) := by decide +kernel
theorem xl_d_1055 : decode code 1055 = .ok (.iaload, 1) := by decide +kernel
theorem xl_d_1056 : decode code 1056 = .ok (.invokevirtual 146, 3) := by decide +kernel
theorem xl_d_1059 : decode code 1059 = .ok (.pop, 1) := by decide +kernel
theorem xl_d_1060 : decode code 1060 = .ok (.aload_n 2, 1) := by decide +kernel
theorem xl_d_1061 : decode code 1061 = .ok (.aload_n 0, 1) := by decide +kernel
theorem xl_d_1062 : decode code 1062 = .ok (.iload_n 3, 1) := by decide +kernel
theorem xl_d_1063 : decode code 1063 = .ok (.iconst 1, 1) := by decide +kernel
theorem xl_d_1064 : decode code 1064 = .ok (.iadd, 1) := by decide +kernel
theorem xl_d_1065 : decode code 1065 = .ok (.iaload, 1) := by decide +kernel
theorem xl_d_1066 : decode code 1066 = .ok (.invokevirtual 149, 3) := by decide +kernel
theorem xl_d_1069 : decode code 1069 = .ok (.pop, 1) := by decide +kernel
theorem xl_d_1070 : decode code 1070 = .ok (.goto 1066, 3) := by decide +kernel
theorem xl_d_1073 : decode code 1073 = .ok (.aload_n 1, 1) := by decide +kernel
theorem xl_d_1074 : decode code 1074 = .ok (.invokevirtual 150, 3) := by decide +kernel
theorem xl_d_1077 : decode code 1077 = .ok (.pop, 1) := by decide +kernel
theorem xl_d_1078 : decode code 1078 = .ok (.aload_n 2, 1) := by decide +kernel
theorem xl_d_1079 : decode code 1079 = .ok (.invokevirtual 153, 3) := by decide +kernel
theorem xl_d_1082 : decode code 1082 = .ok (.pop, 1) := by decide +kernel
theorem xl_d_1083 : decode code 1083 = .ok (.goto 1053, 3) := by decide +kernel
theorem xl_d_1086 : decode code 1086 = .ok (.aload_n 1, 1) := by decide +kernel
theorem xl_d_1087 : decode code 1087 = .ok (.invokevirtual 154, 3) := by decide +kernel
theorem xl_d_1090 : decode code 1090 = .ok (.pop, 1) := by decide +kernel
theorem xl_d_1091 : decode code 1091 = .ok (.aload_n 2, 1) := by decide +kernel
theorem xl_d_1092 : decode code 1092 = .ok (.invokevirtual 157, 3) := by decide +kernel
theorem xl_d_1095 : decode code 1095 = .ok (.pop, 1) := by decide +kernel
theorem xl_d_1096 : decode code 1096 = .ok (.goto 1040, 3) := by decide +kernel
theorem xl_d_1099 : decode code 1099 = .ok (.aload_n 1, 1) := by decide +kernel
theorem xl_d_1100 : decode code 1100 = .ok (.aload_n 0, 1) := by decide +kernel
theorem xl_d_1101 : decode code 1101 = .ok (.iload_n 3, 1) := by decide +kernel
theorem xl_d_1102 : decode code 1102 = .ok (.iconst 1, 1) := by decide +kernel
theorem xl_d_1103 : decode code 1103 = .ok (.iadd, 1) := by decide +kernel
theorem xl_d_1104 : decode code 1104 = .ok (.iaload, 1) := by decide +kernel
theorem xl_d_1105 : decode code 1105 = .ok (.invokevirtual 158, 3) := by decide +kernel
theorem xl_d_1108 : decode code 1108 = .ok (.pop, 1) := by decide +kernel
theorem xl_d_1109 : decode code 1109 = .ok (.aload_n 2, 1) := by decide +kernel
theorem xl_d_1110 : decode code 1110 = .ok (.aload_n 0, 1) := by decide +kernel
theorem xl_d_1111 : decode code 1111 = .ok (.iload_n 3, 1) := by decide +kernel
theorem xl_d_1112 : decode code 1112 = .ok (.iconst 1, 1) := by decide +kernel
theorem xl_d_1113 : decode code 1113 = .ok (.iadd, 1) := by decide +kernel
theorem xl_d_1114 : decode code 1114 = .ok (.iaload, 1) := by decide +kernel
theorem xl_d_1115 : decode code 1115 = .ok (.invokevirtual 161, 3) := by decide +kernel
theorem xl_d_1118 : decode code 1118 = .ok (.pop, 1) := by decide +kernel
theorem xl_d_1119 : decode code 1119 = .ok (.goto 1017, 3) := by decide +kernel
theorem xl_d_1122 : decode code 1122 = .ok (.aload_n 1, 1) := by decide +kernel
theorem xl_d_1123 : decode code 1123 = .ok (.aload_n 0, 1) := by decide +kernel
theorem xl_d_1124 : decode code 1124 = .ok (.iload_n 3, 1) := by decide +kernel
theorem xl_d_1125 : decode code 1125 = .ok (.iconst 1, 1) := by decide +kernel
theorem xl_d_1126 : decode code 1126 = .ok (.iadd, 1) := by decide +kernel
theorem xl_d_1127 : decode code 1127 = .ok (.iaload, 1) := by decide +kernel
theorem xl_d_1128 : decode code 1128 = .ok (.invokevirtual 162, 3) := by decide +kernel
theorem xl_d_1131 : decode code 1131 = .ok (.pop, 1) := by decide +kernel
theorem xl_d_1132 : decode code 1132 = .ok (.aload_n 2, 1) := by decide +kernel
theorem xl_d_1133 : decode code 1133 = .ok (.aload_n 0, 1) := by decide +kernel
theorem xl_d_1134 : decode code 1134 = .ok (.iload_n 3, 1) := by decide +kernel
theorem xl_d_1135 : decode code 1135 = .ok (.iconst 1, 1) := by decide +kernel
theorem xl_d_1136 : decode code 1136 = .ok (.iadd, 1) := by decide +kernel
theorem xl_d_1137 : decode code 1137 = .ok (.iaload, 1) := by decide +kernel
theorem xl_d_1138 : decode code 1138 = .ok (.invokevirtual 165, 3) := by decide +kernel
theorem xl_d_1141 : decode code 1141 = .ok (.pop, 1) := by decide +kernel
theorem xl_d_1142 : decode code 1142 = .ok (.goto 994, 3) := by decide +kernel
theorem xl_d_1145 : decode code 1145 = .ok (.aload_n 1, 1) := by decide +kernel
theorem xl_d_1146 : decode code 1146 = .ok (.aload_n 0, 1) := by decide +kernel
theorem xl_d_1147 : decode code 1147 = .ok (.iload_n 3, 1) := by decide +kernel
theorem xl_d_1148 : decode code 1148 = .ok (.iconst 1, 1) := by decide +kernel
theorem xl_d_1149 : decode code 1149 = .ok (.iadd, 1) := by decide +kernel
theorem xl_d_1150 : decode code 1150 = .ok (.iaload, 1) := by decide +kernel
theorem xl_d_1151 : decode code 1151 = .ok (.invokevirtual 166, 3) := by decide +kernel
theorem xl_d_1154 : decode code 1154 = .ok (.pop, 1) := by decide +kernel
theorem xl_d_1155 : decode code 1155 = .ok (.aload_n 2, 1) := by decide +kernel
theorem xl_d_1156 : decode code 1156 = .ok (.aload_n 0, 1) := by decide +kernel
theorem xl_d_1157 : decode code 1157 = .ok (.iload_n 3, 1) := by decide +kernel
theorem xl_d_1158 : decode code 1158 = .ok (.iconst 1, 1) := by decide +kernel
theorem xl_d_1159 : decode code 1159 = .ok (.iadd, 1) := by decide +kernel
theorem xl_d_1160 : decode code 1160 = .ok (.iaload, 1) := by decide +kernel
theorem xl_d_1161 : decode code 1161 = .ok (.invokevirtual 169, 3) := by decide +kernel
theorem xl_d_1164 : decode code 1164 = .ok (.pop, 1) := by decide +kernel
theorem xl_d_1165 : decode code 1165 = .ok (.goto 971, 3) := by decide +kernel
theorem xl_d_1168 : decode code 1168 = .ok (.aload_n 1, 1) := by decide +kernel
theorem xl_d_1169 : decode code 1169 = .ok (.aload_n 0, 1) := by decide +kernel
theorem xl_d_1170 : decode code 1170 = .ok (.iload_n 3, 1) := by decide +kernel
theorem xl_d_1171 : decode code 1171 = .ok (.iconst 1, 1) := by decide +kernel
theorem xl_d_1172 : decode code 1172 = .ok (.iadd, 1) := by decide +kernel
theorem xl_d_1173 : decode code 1173 = .ok (.iaload, 1) := by decide +kernel
theorem xl_d_1174 : decode code 1174 = .ok (.invokevirtual 170, 3) := by decide +kernel
theorem xl_d_1177 : decode code 1177 = .ok (.pop, 1) := by decide +kernel
theorem xl_d_1178 : decode code 1178 = .ok (.aload_n 2, 1) := by decide +kernel
theorem xl_d_1179 : decode code 1179 = .ok (.aload_n 0, 1) := by decide +kernel
theorem xl_d_1180 : decode code 1180 = .ok (.iload_n 3, 1) := by decide +kernel
theorem xl_d_1181 : decode code 1181 = .ok (.iconst 1, 1) := by decide +kernel
theorem xl_d_1182 : decode code 1182 = .ok (.iadd, 1) := by decide +kernel
theorem xl_d_1183 : decode code 1183 = .ok (.iaload, 1) := by decide +kernel
theorem xl_d_1184 : decode code 1184 = .ok (.invokevirtual 173, 3) := by decide +kernel
theorem xl_d_1187 : decode code 1187 = .ok (.pop, 1) := by decide +kernel
theorem xl_d_1188 : decode code 1188 = .ok (.goto 948, 3) := by decide +kernel
theorem xl_d_1191 : decode code 1191 = .ok (.aload_n 1, 1) := by decide +kernel
theorem xl_d_1192 : decode code 1192 = .ok (.aload_n 0, 1) := by decide +kernel
theorem xl_d_1193 : decode code 1193 = .ok (.iload_n 3, 1) := by decide +kernel
theorem xl_d_1194 : decode code 1194 = .ok (.iconst 1, 1) := by decide +kernel
theorem xl_d_1195 : decode code 1195 = .ok (.iadd, 1) := by decide +kernel
theorem xl_d_1196 : decode code 1196 = .ok (.iaload, 1) := by decide +kernel
theorem xl_d_1197 : decode code 1197 = .ok (.aload_n 0, 1) := by decide +kernel
theorem xl_d_1198 : decode code 1198 = .ok (.iload_n 3, 1) := by decide +kernel
theorem xl_d_1199 : decode code 1199 = .ok (.iconst 2, 1) := by decide +kernel
theorem xl_d_1200 : decode code 1200 = .ok (.iadd, 1) := by decide +kernel
theorem xl_d_1201 : decode code 1201 = .ok (.iaload, 1) := by decide +kernel
theorem xl_d_1202 : decode code 1202 = .ok (.invokevirtual 174, 3) := by decide +kernel
theorem xl_d_1205 : decode code 1205 = .ok (.pop, 1) := by decide +kernel
theorem xl_d_1206 : decode code 1206 = .ok (.aload_n 2, 1) := by decide +kernel
theorem xl_d_1207 : decode code 1207 = .ok (.aload_n 0, 1) := by decide +kernel
theorem xl_d_1208 : decode code 1208 = .ok (.iload_n 3, 1) := by decide +kernel
theorem xl_d_1209 : decode code 1209 = .ok (.iconst 1, 1) := by decide +kernel
theorem xl_d_1210 : decode code 1210 = .ok (.iadd, 1) := by decide +kernel
theorem xl_d_1211 : decode code 1211 = .ok (.iaload, 1) := by decide +kernel
theorem xl_d_1212 : decode code 1212 = .ok (.aload_n 0, 1) := by decide +kernel
theorem xl_d_1213 : decode code 1213 = .ok (.iload_n 3, 1) := by decide +kernel
theorem xl_d_1214 : decode code 1214 = .ok (.iconst 2, 1) := by decide +kernel
theorem xl_d_1215 : decode code 1215 = .ok (.iadd, 1) := by decide +kernel
theorem xl_d_1216 : decode code 1216 = .ok (.iaload, 1) := by decide +kernel
theorem xl_d_1217 : decode code 1217 = .ok (.invokevirtual 177, 3) := by decide +kernel
theorem xl_d_1220 : decode code 1220 = .ok (.pop, 1) := by decide +kernel
theorem xl_d_1221 : decode code 1221 = .ok (.goto 915, 3) := by decide +kernel
theorem xl_d_1224 : decode code 1224 = .ok (.aload_n 1, 1) := by decide +kernel
theorem xl_d_1225 : decode code 1225 = .ok (.aload_n 0, 1) := by decide +kernel
theorem xl_d_1226 : decode code 1226 = .ok (.iload_n 3, 1) := by decide +kernel
theorem xl_d_1227 : decode code 1227 = .ok (.iconst 1, 1) := by decide +kernel
theorem xl_d_1228 : decode code 1228 = .ok (.iadd, 1) := by decide +kernel
theorem xl_d_1229 : decode code 1229 = .ok (.iaload, 1) := by decide +kernel
theorem xl_d_1230 : decode code 1230 = .ok (.invokevirtual 178, 3) := by decide +kernel
theorem xl_d_1233 : decode code 1233 = .ok (.pop, 1) := by decide +kernel
theorem xl_d_1234 : decode code 1234 = .ok (.aload_n 2, 1) := by decide +kernel
theorem xl_d_1235 : decode code 1235 = .ok (.aload_n 0, 1) := by decide +kernel
theorem xl_d_1236 : decode code 1236 = .ok (.iload_n 3, 1) := by decide +kernel
theorem xl_d_1237 : decode code 1237 = .ok (.iconst 1, 1) := by decide +kernel
theorem xl_d_1238 : decode code 1238 = .ok (.iadd, 1) := by decide +kernel
theorem xl_d_1239 : decode code 1239 = .ok (.iaload, 1) := by decide +kernel
theorem xl_d_1240 : decode code 1240 = .ok (.invokevirtual 181, 3) := by decide +kernel
theorem xl_d_1243 : decode code 1243 = .ok (.pop, 1) := by decide +kernel
theorem xl_d_1244 : decode code 1244 = .ok (.goto 892, 3) := by decide +kernel
theorem xl_d_1247 : decode code 1247 = .ok (.aload_n 1, 1) := by decide +kernel
theorem xl_d_1248 : decode code 1248 = .ok (.aload_n 0, 1) := by decide +kernel
theorem xl_d_1249 : decode code 1249 = .ok (.iload_n 3, 1) := by decide +kernel
theorem xl_d_1250 : decode code 1250 = .ok (.iconst 1, 1) := by decide +kernel
theorem xl_d_1251 : decode code 1251 = .ok (.iadd, 1) := by decide +kernel
theorem xl_d_1252 : decode code 1252 = .ok (.iaload, 1) := by decide +kernel
theorem xl_d_1253 : decode code 1253 = .ok (.invokevirtual 182, 3) := by decide +kernel
theorem xl_d_1256 : decode code 1256 = .ok (.pop, 1) := by decide +kernel
theorem xl_d_1257 : decode code 1257 = .ok (.aload_n 2, 1) := by decide +kernel
theorem xl_d_1258 : decode code 1258 = .ok (.aload_n 0, 1) := by decide +kernel
theorem xl_d_1259 : decode code 1259 = .ok (.iload_n 3, 1) := by decide +kernel
theorem xl_d_1260 : decode code 1260 = .ok (.iconst 1, 1) := by decide +kernel
theorem xl_d_1261 : decode code 1261 = .ok (.iadd, 1) := by decide +kernel
theorem xl_d_1262 : decode code 1262 = .ok (.iaload, 1) := by decide +kernel
theorem xl_d_1263 : decode code 1263 = .ok (.invokevirtual 185, 3) := by decide +kernel
theorem xl_d_1266 : decode code 1266 = .ok (.pop, 1) := by decide +kernel
theorem xl_d_1267 : decode code 1267 = .ok (.goto 869, 3) := by decide +kernel
theorem xl_d_1270 : decode code 1270 = .ok (.aload_n 1, 1) := by decide +kernel
theorem xl_d_1271 : decode code 1271 = .ok (.aload_n 0, 1) := by decide +kernel
theorem xl_d_1272 : decode code 1272 = .ok (.iload_n 3, 1) := by decide +kernel
theorem xl_d_1273 : decode code 1273 = .ok (.iconst 1, 1) := by decide +kernel
theorem xl_d_1274 : decode code 1274 = .ok (.iadd, 1) := by decide +kernel
theorem xl_d_1275 : decode code 1275 = .ok (.iaload, 1) := by decide +kernel
theorem xl_d_1276 : decode code 1276 = .ok (.invokevirtual 186, 3) := by decide +kernel
theorem xl_d_1279 : decode code 1279 = .ok (.pop, 1) := by decide +kernel
theorem xl_d_1280 : decode code 1280 = .ok (.aload_n 2, 1) := by decide +kernel
theorem xl_d_1281 : decode code 1281 = .ok (.aload_n 0, 1) := by decide +kernel
theorem xl_d_1282 : decode code 1282 = .ok (.iload_n 3, 1) := by decide +kernel
theorem xl_d_1283 : decode code 1283 = .ok (.iconst 1, 1) := by decide +kernel
theorem xl_d_1284 : decode code 1284 = .ok (.iadd, 1) := by decide +kernel
theorem xl_d_1285 : decode code 1285 = .ok (.iaload, 1) := by decide +kernel
theorem xl_d_1286 : decode code 1286 = .ok (.invokevirtual 189, 3) := by decide +kernel
theorem xl_d_1289 : decode code 1289 = .ok (.pop, 1) := by decide +kernel
theorem xl_d_1290 : decode code 1290 = .ok (.goto 846, 3) := by decide +kernel
theorem xl_d_1293 : decode code 1293 = .ok (.aload_n 1, 1) := by decide +kernel
theorem xl_d_1294 : decode code 1294 = .ok (.aload_n 0, 1) := by decide +kernel
theorem xl_d_1295 : decode code 1295 = .ok (.iload_n 3, 1) := by decide +kernel
theorem xl_d_1296 : decode code 1296 = .ok (.iconst 1, 1) := by decide +kernel
theorem xl_d_1297 : decode code 1297 = .ok (.iadd, 1) := by decide +kernel
theorem xl_d_1298 : decode code 1298 = .ok (.iaload, 1) := by decide +kernel
theorem xl_d_1299 : decode code 1299 = .ok (.invokevirtual 190, 3) := by decide +kernel
theorem xl_d_1302 : decode code 1302 = .ok (.pop, 1) := by decide +kernel
theorem xl_d_1303 : decode code 1303 = .ok (.aload_n 2, 1) := by decide +kernel
theorem xl_d_1304 : decode code 1304 = .ok (.aload_n 0, 1) := by decide +kernel
theorem xl_d_1305 : decode code 1305 = .ok (.iload_n 3, 1) := by decide +kernel
theorem xl_d_1306 : decode code 1306 = .ok (.iconst 1, 1) := by decide +kernel
theorem xl_d_1307 : decode code 1307 = .ok (.iadd, 1) := by decide +kernel
theorem xl_d_1308 : decode code 1308 = .ok (.iaload, 1) := by decide +kernel
theorem xl_d_1309 : decode code 1309 = .ok (.invokevirtual 193, 3) := by decide +kernel
theorem xl_d_1312 : decode code 1312 = .ok (.pop, 1) := by decide +kernel
theorem xl_d_1313 : decode code 1313 = .ok (.goto 823, 3) := by decide +kernel
theorem xl_d_1316 : decode code 1316 = .ok (.aload_n 1, 1) := by decide +kernel
theorem xl_d_1317 : decode code 1317 = .ok (.aload_n 0, 1) := by decide +kernel
theorem xl_d_1318 : decode code 1318 = .ok (.iload_n 3, 1) := by decide +kernel
theorem xl_d_1319 : decode code 1319 = .ok (.iconst 1, 1) := by decide +kernel
theorem xl_d_1320 : decode code 1320 = .ok (.iadd, 1) := by decide +kernel
theorem xl_d_1321 : decode code 1321 = .ok (.iaload, 1) := by decide +kernel
theorem xl_d_1322 : decode code 1322 = .ok (.aload_n 0, 1) := by decide +kernel
theorem xl_d_1323 : decode code 1323 = .ok (.iload_n 3, 1) := by decide +kernel
theorem xl_d_1324 : decode code 1324 = .ok (.iconst 2, 1) := by decide +kernel
theorem xl_d_1325 : decode code 1325 = .ok (.iadd, 1) := by decide +kernel
theorem xl_d_1326 : decode code 1326 = .ok (.iaload, 1) := by decide +kernel
theorem xl_d_1327 : decode code 1327 = .ok (.invokevirtual 194, 3) := by decide +kernel
theorem xl_d_1330 : decode code 1330 = .ok (.pop, 1) := by decide +kernel
theorem xl_d_1331 : decode code 1331 = .ok (.aload_n 2, 1) := by decide +kernel
theorem xl_d_1332 : decode code 1332 = .ok (.aload_n 0, 1) := by decide +kernel
theorem xl_d_1333 : decode code 1333 = .ok (.iload_n 3, 1) := by decide +kernel
theorem xl_d_1334 : decode code 1334 = .ok (.iconst 1, 1) := by decide +kernel
theorem xl_d_1335 : decode code 1335 = .ok (.iadd, 1) := by decide +kernel
theorem xl_d_1336 : decode code 1336 = .ok (.iaload, 1) := by decide +kernel
theorem xl_d_1337 : decode code 1337 = .ok (.aload_n 0, 1) := by decide +kernel
theorem xl_d_1338 : decode code 1338 = .ok (.iload_n 3, 1) := by decide +kernel
theorem xl_d_1339 : decode code 1339 = .ok (.iconst 2, 1) := by decide +kernel
theorem xl_d_1340 : decode code 1340 = .ok (.iadd, 1) := by decide +kernel
theorem xl_d_1341 : decode code 1341 = .ok (.iaload, 1) := by decide +kernel
theorem xl_d_1342 : decode code 1342 = .ok (.invokevirtual 197, 3) := by decide +kernel
theorem xl_d_1345 : decode code 1345 = .ok (.pop, 1) := by decide +kernel
theorem xl_d_1346 : decode code 1346 = .ok (.goto 790, 3) := by decide +kernel
theorem xl_d_1349 : decode code 1349 = .ok (.aload_n 1, 1) := by decide +kernel
theorem xl_d_1350 : decode code 1350 = .ok (.aload_n 0, 1) := by decide +kernel
theorem xl_d_1351 : decode code 1351 = .ok (.iload_n 3, 1) := by decide +kernel
theorem xl_d_1352 : decode code 1352 = .ok (.iconst 1, 1) := by decide +kernel
theorem xl_d_1353 : decode code 1353 = .ok (.iadd, 1) := by decide +kernel
theorem xl_d_1354 : decode code 1354 = .ok (.iaload, 1) := by decide +kernel
theorem xl_d_1355 : decode code 1355 = .ok (.aload_n 0, 1) := by decide +kernel
theorem xl_d_1356 : decode code 1356 = .ok (.iload_n 3, 1) := by decide +kernel
theorem xl_d_1357 : decode code 1357 = .ok (.iconst 2, 1) := by decide +kernel
theorem xl_d_1358 : decode code 1358 = .ok (.iadd, 1) := by decide +kernel
theorem xl_d_1359 : decode code 1359 = .ok (.iaload, 1) := by decide +kernel
theorem xl_d_1360 : decode code 1360 = .ok (.invokevirtual 198, 3) := by decide +kernel
theorem xl_d_1363 : decode code 1363 = .ok (.pop, 1) := by decide +kernel
theorem xl_d_1364 : decode code 1364 = .ok (.aload_n 2, 1) := by decide +kernel
theorem xl_d_1365 : decode code 1365 = .ok (.aload_n 0, 1) := by decide +kernel
theorem xl_d_1366 : decode code 1366 = .ok (.iload_n 3, 1) := by decide +kernel
theorem xl_d_1367 : decode code 1367 = .ok (.iconst 1, 1) := by decide +kernel
theorem xl_d_1368 : decode code 1368 = .ok (.iadd, 1) := by decide +kernel
theorem xl_d_1369 : decode code 1369 = .ok (.iaload, 1) := by decide +kernel
theorem xl_d_1370 : decode code 1370 = .ok (.aload_n 0, 1) := by decide +kernel
theorem xl_d_1371 : decode code 1371 = .ok (.iload_n 3, 1) := by decide +kernel
theorem xl_d_1372 : decode code 1372 = .ok (.iconst 2, 1) := by decide +kernel
theorem xl_d_1373 : decode code 1373 = .ok (.iadd, 1) := by decide +kernel
theorem xl_d_1374 : decode code 1374 = .ok (.iaload, 1) := by decide +kernel
theorem xl_d_1375 : decode code 1375 = .ok (.invokevirtual 201, 3) := by decide +kernel
theorem xl_d_1378 : decode code 1378 = .ok (.pop, 1) := by decide +kernel
theorem xl_d_1379 : decode code 1379 = .ok (.goto 757, 3) := by decide +kernel
theorem xl_d_1382 : decode code 1382 = .ok (.aload_n 1, 1) := by decide +kernel
theorem xl_d_1383 : decode code 1383 = .ok (.invokevirtual 202, 3) := by decide +kernel
theorem xl_d_1386 : decode code 1386 = .ok (.pop, 1) := by decide +kernel
theorem xl_d_1387 : decode code 1387 = .ok (.aload_n 2, 1) := by decide +kernel
theorem xl_d_1388 : decode code 1388 = .ok (.invokevirtual 205, 3) := by decide +kernel
theorem xl_d_1391 : decode code 1391 = .ok (.pop, 1) := by decide +kernel
theorem xl_d_1392 : decode code 1392 = .ok (.goto 744, 3) := by decide +kernel
theorem xl_d_1395 : decode code 1395 = .ok (.aload_n 1, 1) := by decide +kernel
theorem xl_d_1396 : decode code 1396 = .ok (.invokevirtual 206, 3) := by decide +kernel
theorem xl_d_1399 : decode code 1399 = .ok (.pop, 1) := by decide +kernel
theorem xl_d_1400 : decode code 1400 = .ok (.aload_n 2, 1) := by decide +kernel
theorem xl_d_1401 : decode code 1401 = .ok (.invokevirtual 209, 3) := by decide +kernel
theorem xl_d_1404 : decode code 1404 = .ok (.pop, 1) := by decide +kernel
theorem xl_d_1405 : decode code 1405 = .ok (.goto 731, 3) := by decide +kernel
theorem xl_d_1408 : decode code 1408 = .ok (.aload_n 1, 1) := by decide +kernel
theorem xl_d_1409 : decode code 1409 = .ok (.aload_n 0, 1) := by decide +kernel
