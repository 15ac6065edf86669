theorem d_Law_law_1018 : decode code 1018 = .ok (.aload_n 0, 1) := by decide +kernel
theorem d_Law_law_1019 : decode code 1019 = .ok (.iload_n 3, 1) := by decide +kernel
theorem d_Law_law_1020 : decode code 1020 = .ok (.iconst 3, 1) := by decide +kernel
theorem d_Law_law_1021 : decode code 1021 = .ok (.iadd, 1) := by decide +kernel
theorem d_Law_law_1022 : decode code 1022 = .ok (.iaload, 1) := by decide +kernel
theorem d_Law_law_1023 : decode code 1023 = .ok (.invokevirtual 133, 3) := by decide +kernel
theorem d_Law_law_1026 : decode code 1026 = .ok (.if_icmp .eq 297, 3) := by decide +kernel
theorem d_Law_law_1029 : decode code 1029 = .ok (.iconst 0, 1) := by decide +kernel
theorem d_Law_law_1031 : decode code 1031 = .ok (.aload_n 1, 1) := by decide +kernel
theorem d_Law_law_1032 : decode code 1032 = .ok (.aload_n 0, 1) := by decide +kernel
theorem d_Law_law_1033 : decode code 1033 = .ok (.iload_n 3, 1) := by decide +kernel
theorem d_Law_law_1034 : decode code 1034 = .ok (.iconst 1, 1) := by decide +kernel
theorem d_Law_law_1035 : decode code 1035 = .ok (.iadd, 1) := by decide +kernel
theorem d_Law_law_1036 : decode code 1036 = .ok (.iaload, 1) := by decide +kernel
theorem d_Law_law_1037 : decode code 1037 = .ok (.invokevirtual 134, 3) := by decide +kernel
theorem d_Law_law_1040 : decode code 1040 = .ok (.aload_n 2, 1) := by decide +kernel
theorem d_Law_law_1041 : decode code 1041 = .ok (.aload_n 0, 1) := by decide +kernel
theorem d_Law_law_1042 : decode code 1042 = .ok (.iload_n 3, 1) := by decide +kernel
theorem d_Law_law_1043 : decode code 1043 = .ok (.iconst 1, 1) := by decide +kernel
theorem d_Law_law_1044 : decode code 1044 = .ok (.iadd, 1) := by decide +kernel
theorem d_Law_law_1045 : decode code 1045 = .ok (.iaload, 1) := by decide +kernel
theorem d_Law_law_1046 : decode code 1046 = .ok (.invokevirtual 137, 3) := by decide +kernel
theorem d_Law_law_1049 : decode code 1049 = .ok (.if_icmp .eq 274, 3) := by decide +kernel
theorem d_Law_law_1052 : decode code 1052 = .ok (.iconst 0, 1) := by decide +kernel
theorem d_Law_law_1054 : decode code 1054 = .ok (.aload_n 1, 1) := by decide +kernel
theorem d_Law_law_1055 : decode code 1055 = .ok (.aload_n 0, 1) := by decide +kernel
theorem d_Law_law_1056 : decode code 1056 = .ok (.iload_n 3, 1) := by decide +kernel
theorem d_Law_law_1057 : decode code 1057 = .ok (.iconst 1, 1) := by decide +kernel
theorem d_Law_law_1058 : decode code 1058 = .ok (.iadd, 1) := by decide +kernel
theorem d_Law_law_1059 : decode code 1059 = .ok (.iaload, 1) := by decide +kernel
theorem d_Law_law_1060 : decode code 1060 = .ok (.aload_n 0, 1) := by decide +kernel
theorem d_Law_law_1061 : decode code 1061 = .ok (.iload_n 3, 1) := by decide +kernel
theorem d_Law_law_1062 : decode code 1062 = .ok (.iconst 2, 1) := by decide +kernel
theorem d_Law_law_1063 : decode code 1063 = .ok (.iadd, 1) := by decide +kernel
theorem d_Law_law_1064 : decode code 1064 = .ok (.iaload, 1) := by decide +kernel
theorem d_Law_law_1065 : decode code 1065 = .ok (.invokevirtual 138, 3) := by decide +kernel
theorem d_Law_law_1068 : decode code 1068 = .ok (.aload_n 2, 1) := by decide +kernel
theorem d_Law_law_1069 : decode code 1069 = .ok (.aload_n 0, 1) := by decide +kernel
theorem d_Law_law_1070 : decode code 1070 = .ok (.iload_n 3, 1) := by decide +kernel
theorem d_Law_law_1071 : decode code 1071 = .ok (.iconst 1, 1) := by decide +kernel
theorem d_Law_law_1072 : decode code 1072 = .ok (.iadd, 1) := by decide +kernel
theorem d_Law_law_1073 : decode code 1073 = .ok (.iaload, 1) := by decide +kernel
theorem d_Law_law_1074 : decode code 1074 = .ok (.aload_n 0, 1) := by decide +kernel
theorem d_Law_law_1075 : decode code 1075 = .ok (.iload_n 3, 1) := by decide +kernel
theorem d_Law_law_1076 : decode code 1076 = .ok (.iconst 2, 1) := by decide +kernel
theorem d_Law_law_1077 : decode code 1077 = .ok (.iadd, 1) := by decide +kernel
theorem d_Law_law_1078 : decode code 1078 = .ok (.iaload, 1) := by decide +kernel
theorem d_Law_law_1079 : decode code 1079 = .ok (.invokevirtual 141, 3) := by decide +kernel
theorem d_Law_law_1082 : decode code 1082 = .ok (.if_icmp .eq 241, 3) := by decide +kernel
theorem d_Law_law_1085 : decode code 1085 = .ok (.iconst 0, 1) := by decide +kernel
theorem d_Law_law_1087 : decode code 1087 = .ok (.aload_n 1, 1) := by decide +kernel
theorem d_Law_law_1088 : decode code 1088 = .ok (.aload_n 0, 1) := by decide +kernel
theorem d_Law_law_1089 : decode code 1089 = .ok (.iload_n 3, 1) := by decide +kernel
theorem d_Law_law_1090 : decode code 1090 = .ok (.iconst 1, 1) := by decide +kernel
theorem d_Law_law_1091 : decode code 1091 = .ok (.iadd, 1) := by decide +kernel
theorem d_Law_law_1092 : decode code 1092 = .ok (.iaload, 1) := by decide +kernel
theorem d_Law_law_1093 : decode code 1093 = .ok (.invokevirtual 142, 3) := by decide +kernel
theorem d_Law_law_1096 : decode code 1096 = .ok (.aload_n 2, 1) := by decide +kernel
theorem d_Law_law_1097 : decode code 1097 = .ok (.aload_n 0, 1) := by decide +kernel
theorem d_Law_law_1098 : decode code 1098 = .ok (.iload_n 3, 1) := by decide +kernel
theorem d_Law_law_1099 : decode code 1099 = .ok (.iconst 1, 1) := by decide +kernel
theorem d_Law_law_1100 : decode code 1100 = .ok (.iadd, 1) := by decide +kernel
theorem d_Law_law_1101 : decode code 1101 = .ok (.iaload, 1) := by decide +kernel
theorem d_Law_law_1102 : decode code 1102 = .ok (.invokevirtual 145, 3) := by decide +kernel
theorem d_Law_law_1105 : decode code 1105 = .ok (.if_icmp .eq 218, 3) := by decide +kernel
theorem d_Law_law_1108 : decode code 1108 = .ok (.iconst 0, 1) := by decide +kernel
theorem d_Law_law_1110 : decode code 1110 = .ok (.aload_n 1, 1) := by decide +kernel
theorem d_Law_law_1111 : decode code 1111 = .ok (.aload_n 0, 1) := by decide +kernel
theorem d_Law_law_1112 : decode code 1112 = .ok (.iload_n 3, 1) := by decide +kernel
theorem d_Law_law_1113 : decode code 1113 = .ok (.iconst 1, 1) := by decide +kernel
theorem d_Law_law_1114 : decode code 1114 = .ok (.iadd, 1) := by decide +kernel
theorem d_Law_law_1115 : decode code 1115 = .ok (.iaload, 1) := by decide +kernel
theorem d_Law_law_1116 : decode code 1116 = .ok (.aload_n 0, 1) := by decide +kernel
theorem d_Law_law_1117 : decode code 1117 = .ok (.iload_n 3, 1) := by decide +kernel
theorem d_Law_law_1118 : decode code 1118 = .ok (.iconst 2, 1) := by decide +kernel
theorem d_Law_law_1119 : decode code 1119 = .ok (.iadd, 1) := by decide +kernel
theorem d_Law_law_1120 : decode code 1120 = .ok (.iaload, 1) := by decide +kernel
theorem d_Law_law_1121 : decode code 1121 = .ok (.aload_n 0, 1) := by decide +kernel
theorem d_Law_law_1122 : decode code 1122 = .ok (.iload_n 3, 1) := by decide +kernel
theorem d_Law_law_1123 : decode code 1123 = .ok (.iconst 3, 1) := by decide +kernel
theorem d_Law_law_1124 : decode code 1124 = .ok (.iadd, 1) := by decide +kernel
theorem d_Law_law_1125 : decode code 1125 = .ok (.iaload, 1) := by decide +kernel
theorem d_Law_law_1126 : decode code 1126 = .ok (.invokevirtual 146, 3) := by decide +kernel
theorem d_Law_law_1129 : decode code 1129 = .ok (.aload_n 2, 1) := by decide +kernel
theorem d_Law_law_1130 : decode code 1130 = .ok (.aload_n 0, 1) := by decide +kernel
theorem d_Law_law_1131 : decode code 1131 = .ok (.iload_n 3, 1) := by decide +kernel
theorem d_Law_law_1132 : decode code 1132 = .ok (.iconst 1, 1) := by decide +kernel
theorem d_Law_law_1133 : decode code 1133 = .ok (.iadd, 1) := by decide +kernel
theorem d_Law_law_1134 : decode code 1134 = .ok (.iaload, 1) := by decide +kernel
theorem d_Law_law_1135 : decode code 1135 = .ok (.aload_n 0, 1) := by decide +kernel
theorem d_Law_law_1136 : decode code 1136 = .ok (.iload_n 3, 1) := by decide +kernel
theorem d_Law_law_1137 : decode code 1137 = .ok (.iconst 2, 1) := by decide +kernel
theorem d_Law_law_1138 : decode code 1138 = .ok (.iadd, 1) := by decide +kernel
theorem d_Law_law_1139 : decode code 1139 = .ok (.iaload, 1) := by decide +kernel
theorem d_Law_law_1140 : decode code 1140 = .ok (.aload_n 0, 1) := by decide +kernel
theorem d_Law_law_1141 : decode code 1141 = .ok (.iload_n 3, 1) := by decide +kernel
theorem d_Law_law_1142 : decode code 1142 = .ok (.iconst 3, 1) := by decide +kernel
theorem d_Law_law_1143 : decode code 1143 = .ok (.iadd, 1) := by decide +kernel
theorem d_Law_law_1144 : decode code 1144 = .ok (.iaload, 1) := by decide +kernel
theorem d_Law_law_1145 : decode code 1145 = .ok (.invokevirtual 149, 3) := by decide +kernel
theorem d_Law_law_1148 : decode code 1148 = .ok (.if_icmp .eq 175, 3) := by decide +kernel
theorem d_Law_law_1151 : decode code 1151 = .ok (.iconst 0, 1) := by decide +kernel
theorem d_Law_law_1153 : decode code 1153 = .ok (.aload_n 1, 1) := by decide +kernel
theorem d_Law_law_1154 : decode code 1154 = .ok (.aload_n 0, 1) := by decide +kernel
theorem d_Law_law_1155 : decode code 1155 = .ok (.iload_n 3, 1) := by decide +kernel
theorem d_Law_law_1156 : decode code 1156 = .ok (.iconst 1, 1) := by decide +kernel
theorem d_Law_law_1157 : decode code 1157 = .ok (.iadd, 1) := by decide +kernel
theorem d_Law_law_1158 : decode code 1158 = .ok (.iaload, 1) := by decide +kernel
theorem d_Law_law_1159 : decode code 1159 = .ok (.aload_n 0, 1) := by decide +kernel
theorem d_Law_law_1160 : decode code 1160 = .ok (.iload_n 3, 1) := by decide +kernel
theorem d_Law_law_1161 : decode code 1161 = .ok (.iconst 2, 1) := by decide +kernel
theorem d_Law_law_1162 : decode code 1162 = .ok (.iadd, 1) := by decide +kernel
theorem d_Law_law_1163 : decode code 1163 = .ok (.iaload, 1) := by decide +kernel
theorem d_Law_law_1164 : decode code 1164 = .ok (.aload_n 0, 1) := by decide +kernel
theorem d_Law_law_1165 : decode code 1165 = .ok (.iload_n 3, 1) := by decide +kernel
theorem d_Law_law_1166 : decode code 1166 = .ok (.iconst 3, 1) := by decide +kernel
theorem d_Law_law_1167 : decode code 1167 = .ok (.iadd, 1) := by decide +kernel
theorem d_Law_law_1168 : decode code 1168 = .ok (.iaload, 1) := by decide +kernel
theorem d_Law_law_1169 : decode code 1169 = .ok (.i2l, 1) := by decide +kernel
theorem d_Law_law_1170 : decode code 1170 = .ok (.bipush 32, 2) := by decide +kernel
theorem d_Law_law_1172 : decode code 1172 = .ok (.lshl, 1) := by decide +kernel
theorem d_Law_law_1173 : decode code 1173 = .ok (.aload_n 0, 1) := by decide +kernel
theorem d_Law_law_1174 : decode code 1174 = .ok (.iload_n 3, 1) := by decide +kernel
theorem d_Law_law_1175 : decode code 1175 = .ok (.iconst 4, 1) := by decide +kernel
theorem d_Law_law_1176 : decode code 1176 = .ok (.iadd, 1) := by decide +kernel
theorem d_Law_law_1177 : decode code 1177 = .ok (.iaload, 1) := by decide +kernel
theorem d_Law_law_1178 : decode code 1178 = .ok (.i2l, 1) := by decide +kernel
theorem d_Law_law_1179 : decode code 1179 = .ok (.ldc2_w 150, 3) := by decide +kernel
theorem d_Law_law_1182 : decode code 1182 = .ok (.land, 1) := by decide +kernel
theorem d_Law_law_1183 : decode code 1183 = .ok (.lor, 1) := by decide +kernel
