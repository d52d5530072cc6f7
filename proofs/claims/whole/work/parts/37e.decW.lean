/-! The law: decode rows. Written by wip/whole/gen/genL0.py. -/
theorem dL_law_926 : decode code 926 = .ok (.iload 4, 2) := by decide +kernel
theorem dL_law_928 : decode code 928 = .ok (.iconst 3, 1) := by decide +kernel
theorem dL_law_929 : decode code 929 = .ok (.iadd, 1) := by decide +kernel
theorem dL_law_930 : decode code 930 = .ok (.iaload, 1) := by decide +kernel
theorem dL_law_931 : decode code 931 = .ok (.aload_n 3, 1) := by decide +kernel
theorem dL_law_932 : decode code 932 = .ok (.invokestatic 113, 3) := by decide +kernel
theorem dL_law_935 : decode code 935 = .ok (.istore 5, 2) := by decide +kernel
theorem dL_law_937 : decode code 937 = .ok (.aload_n 2, 1) := by decide +kernel
theorem dL_law_938 : decode code 938 = .ok (.aload_n 0, 1) := by decide +kernel
theorem dL_law_939 : decode code 939 = .ok (.iload 4, 2) := by decide +kernel
theorem dL_law_941 : decode code 941 = .ok (.iconst 1, 1) := by decide +kernel
theorem dL_law_942 : decode code 942 = .ok (.iadd, 1) := by decide +kernel
theorem dL_law_943 : decode code 943 = .ok (.iaload, 1) := by decide +kernel
theorem dL_law_944 : decode code 944 = .ok (.aload_n 0, 1) := by decide +kernel
theorem dL_law_945 : decode code 945 = .ok (.iload 4, 2) := by decide +kernel
theorem dL_law_947 : decode code 947 = .ok (.iconst 2, 1) := by decide +kernel
theorem dL_law_948 : decode code 948 = .ok (.iadd, 1) := by decide +kernel
theorem dL_law_949 : decode code 949 = .ok (.iaload, 1) := by decide +kernel
theorem dL_law_950 : decode code 950 = .ok (.aload_n 0, 1) := by decide +kernel
theorem dL_law_951 : decode code 951 = .ok (.iload 4, 2) := by decide +kernel
theorem dL_law_953 : decode code 953 = .ok (.iconst 3, 1) := by decide +kernel
theorem dL_law_954 : decode code 954 = .ok (.iadd, 1) := by decide +kernel
theorem dL_law_955 : decode code 955 = .ok (.iaload, 1) := by decide +kernel
theorem dL_law_956 : decode code 956 = .ok (.invokevirtual 115, 3) := by decide +kernel
theorem dL_law_959 : decode code 959 = .ok (.istore 6, 2) := by decide +kernel
theorem dL_law_961 : decode code 961 = .ok (.aload_n 2, 1) := by decide +kernel
theorem dL_law_962 : decode code 962 = .ok (.invokevirtual 73, 3) := by decide +kernel
theorem dL_law_965 : decode code 965 = .ok (.iload 5, 2) := by decide +kernel
theorem dL_law_967 : decode code 967 = .ok (.if_icmp .eq 5, 3) := by decide +kernel
theorem dL_law_970 : decode code 970 = .ok (.iconst 0, 1) := by decide +kernel
theorem dL_law_971 : decode code 971 = .ok (.ireturn, 1) := by decide +kernel
theorem dL_law_972 : decode code 972 = .ok (.iload 5, 2) := by decide +kernel
theorem dL_law_974 : decode code 974 = .ok (.ifCond .ne 15, 3) := by decide +kernel
theorem dL_law_977 : decode code 977 = .ok (.aload_n 3, 1) := by decide +kernel
theorem dL_law_978 : decode code 978 = .ok (.iconst 0, 1) := by decide +kernel
theorem dL_law_979 : decode code 979 = .ok (.laload, 1) := by decide +kernel
theorem dL_law_980 : decode code 980 = .ok (.iload 6, 2) := by decide +kernel
theorem dL_law_982 : decode code 982 = .ok (.i2l, 1) := by decide +kernel
theorem dL_law_983 : decode code 983 = .ok (.lcmp, 1) := by decide +kernel
theorem dL_law_984 : decode code 984 = .ok (.ifCond .eq 5, 3) := by decide +kernel
theorem dL_law_987 : decode code 987 = .ok (.iconst 0, 1) := by decide +kernel
theorem dL_law_988 : decode code 988 = .ok (.ireturn, 1) := by decide +kernel
theorem dL_law_989 : decode code 989 = .ok (.goto 208, 3) := by decide +kernel
theorem dL_law_992 : decode code 992 = .ok (.aload_n 1, 1) := by decide +kernel
theorem dL_law_993 : decode code 993 = .ok (.aload_n 0, 1) := by decide +kernel
theorem dL_law_994 : decode code 994 = .ok (.iload 4, 2) := by decide +kernel
theorem dL_law_996 : decode code 996 = .ok (.iconst 1, 1) := by decide +kernel
theorem dL_law_997 : decode code 997 = .ok (.iadd, 1) := by decide +kernel
theorem dL_law_998 : decode code 998 = .ok (.iaload, 1) := by decide +kernel
theorem dL_law_999 : decode code 999 = .ok (.aload_n 0, 1) := by decide +kernel
theorem dL_law_1000 : decode code 1000 = .ok (.iload 4, 2) := by decide +kernel
theorem dL_law_1002 : decode code 1002 = .ok (.iconst 2, 1) := by decide +kernel
theorem dL_law_1003 : decode code 1003 = .ok (.iadd, 1) := by decide +kernel
theorem dL_law_1004 : decode code 1004 = .ok (.iaload, 1) := by decide +kernel
theorem dL_law_1005 : decode code 1005 = .ok (.aload_n 3, 1) := by decide +kernel
theorem dL_law_1006 : decode code 1006 = .ok (.invokestatic 116, 3) := by decide +kernel
theorem dL_law_1009 : decode code 1009 = .ok (.istore 5, 2) := by decide +kernel
theorem dL_law_1011 : decode code 1011 = .ok (.aload_n 2, 1) := by decide +kernel
theorem dL_law_1012 : decode code 1012 = .ok (.aload_n 0, 1) := by decide +kernel
theorem dL_law_1013 : decode code 1013 = .ok (.iload 4, 2) := by decide +kernel
theorem dL_law_1015 : decode code 1015 = .ok (.iconst 1, 1) := by decide +kernel
theorem dL_law_1016 : decode code 1016 = .ok (.iadd, 1) := by decide +kernel
theorem dL_law_1017 : decode code 1017 = .ok (.iaload, 1) := by decide +kernel
theorem dL_law_1018 : decode code 1018 = .ok (.aload_n 0, 1) := by decide +kernel
theorem dL_law_1019 : decode code 1019 = .ok (.iload 4, 2) := by decide +kernel
theorem dL_law_1021 : decode code 1021 = .ok (.iconst 2, 1) := by decide +kernel
theorem dL_law_1022 : decode code 1022 = .ok (.iadd, 1) := by decide +kernel
theorem dL_law_1023 : decode code 1023 = .ok (.iaload, 1) := by decide +kernel
theorem dL_law_1024 : decode code 1024 = .ok (.invokevirtual 118, 3) := by decide +kernel
theorem dL_law_1027 : decode code 1027 = .ok (.istore 6, 2) := by decide +kernel
theorem dL_law_1029 : decode code 1029 = .ok (.aload_n 2, 1) := by decide +kernel
theorem dL_law_1030 : decode code 1030 = .ok (.invokevirtual 73, 3) := by decide +kernel
theorem dL_law_1033 : decode code 1033 = .ok (.iload 5, 2) := by decide +kernel
theorem dL_law_1035 : decode code 1035 = .ok (.if_icmp .eq 5, 3) := by decide +kernel
theorem dL_law_1038 : decode code 1038 = .ok (.iconst 0, 1) := by decide +kernel
theorem dL_law_1039 : decode code 1039 = .ok (.ireturn, 1) := by decide +kernel
theorem dL_law_1040 : decode code 1040 = .ok (.iload 5, 2) := by decide +kernel
theorem dL_law_1042 : decode code 1042 = .ok (.ifCond .ne 15, 3) := by decide +kernel
theorem dL_law_1045 : decode code 1045 = .ok (.aload_n 3, 1) := by decide +kernel
theorem dL_law_1046 : decode code 1046 = .ok (.iconst 0, 1) := by decide +kernel
theorem dL_law_1047 : decode code 1047 = .ok (.laload, 1) := by decide +kernel
theorem dL_law_1048 : decode code 1048 = .ok (.iload 6, 2) := by decide +kernel
theorem dL_law_1050 : decode code 1050 = .ok (.i2l, 1) := by decide +kernel
theorem dL_law_1051 : decode code 1051 = .ok (.lcmp, 1) := by decide +kernel
theorem dL_law_1052 : decode code 1052 = .ok (.ifCond .eq 5, 3) := by decide +kernel
theorem dL_law_1055 : decode code 1055 = .ok (.iconst 0, 1) := by decide +kernel
theorem dL_law_1056 : decode code 1056 = .ok (.ireturn, 1) := by decide +kernel
theorem dL_law_1057 : decode code 1057 = .ok (.goto 140, 3) := by decide +kernel
theorem dL_law_1060 : decode code 1060 = .ok (.aload_n 1, 1) := by decide +kernel
theorem dL_law_1061 : decode code 1061 = .ok (.aload_n 0, 1) := by decide +kernel
theorem dL_law_1062 : decode code 1062 = .ok (.iload 4, 2) := by decide +kernel
theorem dL_law_1064 : decode code 1064 = .ok (.iconst 1, 1) := by decide +kernel
theorem dL_law_1065 : decode code 1065 = .ok (.iadd, 1) := by decide +kernel
theorem dL_law_1066 : decode code 1066 = .ok (.iaload, 1) := by decide +kernel
theorem dL_law_1067 : decode code 1067 = .ok (.invokevirtual 119, 3) := by decide +kernel
theorem dL_law_1070 : decode code 1070 = .ok (.aload_n 2, 1) := by decide +kernel
theorem dL_law_1071 : decode code 1071 = .ok (.aload_n 0, 1) := by decide +kernel
theorem dL_law_1072 : decode code 1072 = .ok (.iload 4, 2) := by decide +kernel
theorem dL_law_1074 : decode code 1074 = .ok (.iconst 1, 1) := by decide +kernel
theorem dL_law_1075 : decode code 1075 = .ok (.iadd, 1) := by decide +kernel
theorem dL_law_1076 : decode code 1076 = .ok (.iaload, 1) := by decide +kernel
theorem dL_law_1077 : decode code 1077 = .ok (.invokevirtual 122, 3) := by decide +kernel
theorem dL_law_1080 : decode code 1080 = .ok (.if_icmp .eq 117, 3) := by decide +kernel
theorem dL_law_1083 : decode code 1083 = .ok (.iconst 0, 1) := by decide +kernel
theorem dL_law_1084 : decode code 1084 = .ok (.ireturn, 1) := by decide +kernel
theorem dL_law_1085 : decode code 1085 = .ok (.aload_n 1, 1) := by decide +kernel
theorem dL_law_1086 : decode code 1086 = .ok (.aload_n 0, 1) := by decide +kernel
theorem dL_law_1087 : decode code 1087 = .ok (.iload 4, 2) := by decide +kernel
theorem dL_law_1089 : decode code 1089 = .ok (.iconst 1, 1) := by decide +kernel
theorem dL_law_1090 : decode code 1090 = .ok (.iadd, 1) := by decide +kernel
theorem dL_law_1091 : decode code 1091 = .ok (.iaload, 1) := by decide +kernel
theorem dL_law_1092 : decode code 1092 = .ok (.aload_n 0, 1) := by decide +kernel
theorem dL_law_1093 : decode code 1093 = .ok (.iload 4, 2) := by decide +kernel
theorem dL_law_1095 : decode code 1095 = .ok (.iconst 2, 1) := by decide +kernel
theorem dL_law_1096 : decode code 1096 = .ok (.iadd, 1) := by decide +kernel
theorem dL_law_1097 : decode code 1097 = .ok (.iaload, 1) := by decide +kernel
theorem dL_law_1098 : decode code 1098 = .ok (.aload_n 0, 1) := by decide +kernel
theorem dL_law_1099 : decode code 1099 = .ok (.iload 4, 2) := by decide +kernel
theorem dL_law_1101 : decode code 1101 = .ok (.iconst 3, 1) := by decide +kernel
theorem dL_law_1102 : decode code 1102 = .ok (.iadd, 1) := by decide +kernel
theorem dL_law_1103 : decode code 1103 = .ok (.iaload, 1) := by decide +kernel
theorem dL_law_1104 : decode code 1104 = .ok (.aload_n 3, 1) := by decide +kernel
theorem dL_law_1105 : decode code 1105 = .ok (.invokestatic 123, 3) := by decide +kernel
theorem dL_law_1108 : decode code 1108 = .ok (.istore 5, 2) := by decide +kernel
theorem dL_law_1110 : decode code 1110 = .ok (.aload_n 2, 1) := by decide +kernel
theorem dL_law_1111 : decode code 1111 = .ok (.aload_n 0, 1) := by decide +kernel
theorem dL_law_1112 : decode code 1112 = .ok (.iload 4, 2) := by decide +kernel
theorem dL_law_1114 : decode code 1114 = .ok (.iconst 1, 1) := by decide +kernel
theorem dL_law_1115 : decode code 1115 = .ok (.iadd, 1) := by decide +kernel
theorem dL_law_1116 : decode code 1116 = .ok (.iaload, 1) := by decide +kernel
theorem dL_law_1117 : decode code 1117 = .ok (.aload_n 0, 1) := by decide +kernel
theorem dL_law_1118 : decode code 1118 = .ok (.iload 4, 2) := by decide +kernel
theorem dL_law_1120 : decode code 1120 = .ok (.iconst 2, 1) := by decide +kernel
theorem dL_law_1121 : decode code 1121 = .ok (.iadd, 1) := by decide +kernel
theorem dL_law_1122 : decode code 1122 = .ok (.iaload, 1) := by decide +kernel
theorem dL_law_1123 : decode code 1123 = .ok (.aload_n 0, 1) := by decide +kernel
theorem dL_law_1124 : decode code 1124 = .ok (.iload 4, 2) := by decide +kernel
theorem dL_law_1126 : decode code 1126 = .ok (.iconst 3, 1) := by decide +kernel
theorem dL_law_1127 : decode code 1127 = .ok (.iadd, 1) := by decide +kernel
theorem dL_law_1128 : decode code 1128 = .ok (.iaload, 1) := by decide +kernel
theorem dL_law_1129 : decode code 1129 = .ok (.invokevirtual 125, 3) := by decide +kernel
theorem dL_law_1132 : decode code 1132 = .ok (.istore 6, 2) := by decide +kernel
theorem dL_law_1134 : decode code 1134 = .ok (.aload_n 2, 1) := by decide +kernel
theorem dL_law_1135 : decode code 1135 = .ok (.invokevirtual 73, 3) := by decide +kernel
theorem dL_law_1138 : decode code 1138 = .ok (.iload 5, 2) := by decide +kernel
theorem dL_law_1140 : decode code 1140 = .ok (.if_icmp .eq 5, 3) := by decide +kernel
theorem dL_law_1143 : decode code 1143 = .ok (.iconst 0, 1) := by decide +kernel
theorem dL_law_1144 : decode code 1144 = .ok (.ireturn, 1) := by decide +kernel
theorem dL_law_1145 : decode code 1145 = .ok (.iload 5, 2) := by decide +kernel
theorem dL_law_1147 : decode code 1147 = .ok (.ifCond .ne 22, 3) := by decide +kernel
theorem dL_law_1150 : decode code 1150 = .ok (.aload_n 3, 1) := by decide +kernel
theorem dL_law_1151 : decode code 1151 = .ok (.iconst 0, 1) := by decide +kernel
theorem dL_law_1152 : decode code 1152 = .ok (.laload, 1) := by decide +kernel
theorem dL_law_1153 : decode code 1153 = .ok (.iload 6, 2) := by decide +kernel
theorem dL_law_1155 : decode code 1155 = .ok (.ifCond .eq 7, 3) := by decide +kernel
theorem dL_law_1158 : decode code 1158 = .ok (.lconst 1, 1) := by decide +kernel
theorem dL_law_1159 : decode code 1159 = .ok (.goto 4, 3) := by decide +kernel
theorem dL_law_1162 : decode code 1162 = .ok (.lconst 0, 1) := by decide +kernel
theorem dL_law_1163 : decode code 1163 = .ok (.lcmp, 1) := by decide +kernel
theorem dL_law_1164 : decode code 1164 = .ok (.ifCond .eq 5, 3) := by decide +kernel
theorem dL_law_1167 : decode code 1167 = .ok (.iconst 0, 1) := by decide +kernel
theorem dL_law_1168 : decode code 1168 = .ok (.ireturn, 1) := by decide +kernel
theorem dL_law_1169 : decode code 1169 = .ok (.goto 28, 3) := by decide +kernel
theorem dL_law_1172 : decode code 1172 = .ok (.aload_n 1, 1) := by decide +kernel
theorem dL_law_1173 : decode code 1173 = .ok (.aload_n 0, 1) := by decide +kernel
theorem dL_law_1174 : decode code 1174 = .ok (.iload 4, 2) := by decide +kernel
theorem dL_law_1176 : decode code 1176 = .ok (.iconst 1, 1) := by decide +kernel
theorem dL_law_1177 : decode code 1177 = .ok (.iadd, 1) := by decide +kernel
theorem dL_law_1178 : decode code 1178 = .ok (.iaload, 1) := by decide +kernel
theorem dL_law_1179 : decode code 1179 = .ok (.invokevirtual 126, 3) := by decide +kernel
theorem dL_law_1182 : decode code 1182 = .ok (.aload_n 2, 1) := by decide +kernel
theorem dL_law_1183 : decode code 1183 = .ok (.aload_n 0, 1) := by decide +kernel
theorem dL_law_1184 : decode code 1184 = .ok (.iload 4, 2) := by decide +kernel
theorem dL_law_1186 : decode code 1186 = .ok (.iconst 1, 1) := by decide +kernel
theorem dL_law_1187 : decode code 1187 = .ok (.iadd, 1) := by decide +kernel
theorem dL_law_1188 : decode code 1188 = .ok (.iaload, 1) := by decide +kernel
theorem dL_law_1189 : decode code 1189 = .ok (.invokevirtual 129, 3) := by decide +kernel
theorem dL_law_1192 : decode code 1192 = .ok (.if_icmp .eq 5, 3) := by decide +kernel
theorem dL_law_1195 : decode code 1195 = .ok (.iconst 0, 1) := by decide +kernel
theorem dL_law_1196 : decode code 1196 = .ok (.ireturn, 1) := by decide +kernel
theorem dL_law_1197 : decode code 1197 = .ok (.iinc 4 4, 3) := by decide +kernel
theorem dL_law_1200 : decode code 1200 = .ok (.goto (-1177), 3) := by decide +kernel
theorem dL_law_1203 : decode code 1203 = .ok (.iconst 1, 1) := by decide +kernel
theorem dL_law_1204 : decode code 1204 = .ok (.ireturn, 1) := by decide +kernel
