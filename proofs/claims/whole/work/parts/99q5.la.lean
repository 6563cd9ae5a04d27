theorem d_La_law_1019 : decode code 1019 = .ok (.aload_n 1, 1) := by decide +kernel
theorem d_La_law_1020 : decode code 1020 = .ok (.aload_n 0, 1) := by decide +kernel
theorem d_La_law_1021 : decode code 1021 = .ok (.iload_n 3, 1) := by decide +kernel
theorem d_La_law_1022 : decode code 1022 = .ok (.iconst 1, 1) := by decide +kernel
theorem d_La_law_1023 : decode code 1023 = .ok (.iadd, 1) := by decide +kernel
theorem d_La_law_1024 : decode code 1024 = .ok (.iaload, 1) := by decide +kernel
theorem d_La_law_1025 : decode code 1025 = .ok (.invokevirtual 122, 3) := by decide +kernel
theorem d_La_law_1028 : decode code 1028 = .ok (.aload_n 2, 1) := by decide +kernel
theorem d_La_law_1029 : decode code 1029 = .ok (.aload_n 0, 1) := by decide +kernel
theorem d_La_law_1030 : decode code 1030 = .ok (.iload_n 3, 1) := by decide +kernel
theorem d_La_law_1031 : decode code 1031 = .ok (.iconst 1, 1) := by decide +kernel
theorem d_La_law_1032 : decode code 1032 = .ok (.iadd, 1) := by decide +kernel
theorem d_La_law_1033 : decode code 1033 = .ok (.iaload, 1) := by decide +kernel
theorem d_La_law_1034 : decode code 1034 = .ok (.invokevirtual 125, 3) := by decide +kernel
theorem d_La_law_1037 : decode code 1037 = .ok (.if_icmp .eq 484, 3) := by decide +kernel
theorem d_La_law_1040 : decode code 1040 = .ok (.iconst 0, 1) := by decide +kernel
theorem d_La_law_1041 : decode code 1041 = .ok (.ireturn, 1) := by decide +kernel
theorem d_La_law_1042 : decode code 1042 = .ok (.aload_n 1, 1) := by decide +kernel
theorem d_La_law_1043 : decode code 1043 = .ok (.invokevirtual 126, 3) := by decide +kernel
theorem d_La_law_1046 : decode code 1046 = .ok (.aload_n 2, 1) := by decide +kernel
theorem d_La_law_1047 : decode code 1047 = .ok (.invokevirtual 129, 3) := by decide +kernel
theorem d_La_law_1050 : decode code 1050 = .ok (.if_icmp .eq 471, 3) := by decide +kernel
theorem d_La_law_1053 : decode code 1053 = .ok (.iconst 0, 1) := by decide +kernel
theorem d_La_law_1054 : decode code 1054 = .ok (.ireturn, 1) := by decide +kernel
theorem d_La_law_1055 : decode code 1055 = .ok (.aload_n 1, 1) := by decide +kernel
theorem d_La_law_1056 : decode code 1056 = .ok (.aload_n 0, 1) := by decide +kernel
theorem d_La_law_1057 : decode code 1057 = .ok (.iload_n 3, 1) := by decide +kernel
theorem d_La_law_1058 : decode code 1058 = .ok (.iconst 1, 1) := by decide +kernel
theorem d_La_law_1059 : decode code 1059 = .ok (.iadd, 1) := by decide +kernel
theorem d_La_law_1060 : decode code 1060 = .ok (.iaload, 1) := by decide +kernel
theorem d_La_law_1061 : decode code 1061 = .ok (.invokevirtual 130, 3) := by decide +kernel
theorem d_La_law_1064 : decode code 1064 = .ok (.aload_n 2, 1) := by decide +kernel
theorem d_La_law_1065 : decode code 1065 = .ok (.aload_n 0, 1) := by decide +kernel
theorem d_La_law_1066 : decode code 1066 = .ok (.iload_n 3, 1) := by decide +kernel
theorem d_La_law_1067 : decode code 1067 = .ok (.iconst 1, 1) := by decide +kernel
theorem d_La_law_1068 : decode code 1068 = .ok (.iadd, 1) := by decide +kernel
theorem d_La_law_1069 : decode code 1069 = .ok (.iaload, 1) := by decide +kernel
theorem d_La_law_1070 : decode code 1070 = .ok (.invokevirtual 133, 3) := by decide +kernel
theorem d_La_law_1073 : decode code 1073 = .ok (.if_icmp .eq 448, 3) := by decide +kernel
theorem d_La_law_1076 : decode code 1076 = .ok (.iconst 0, 1) := by decide +kernel
theorem d_La_law_1077 : decode code 1077 = .ok (.ireturn, 1) := by decide +kernel
theorem d_La_law_1078 : decode code 1078 = .ok (.aload_n 1, 1) := by decide +kernel
theorem d_La_law_1079 : decode code 1079 = .ok (.invokevirtual 134, 3) := by decide +kernel
theorem d_La_law_1082 : decode code 1082 = .ok (.aload_n 2, 1) := by decide +kernel
theorem d_La_law_1083 : decode code 1083 = .ok (.invokevirtual 137, 3) := by decide +kernel
theorem d_La_law_1086 : decode code 1086 = .ok (.if_icmp .eq 435, 3) := by decide +kernel
theorem d_La_law_1089 : decode code 1089 = .ok (.iconst 0, 1) := by decide +kernel
theorem d_La_law_1090 : decode code 1090 = .ok (.ireturn, 1) := by decide +kernel
theorem d_La_law_1091 : decode code 1091 = .ok (.aload_n 1, 1) := by decide +kernel
theorem d_La_law_1092 : decode code 1092 = .ok (.invokevirtual 138, 3) := by decide +kernel
theorem d_La_law_1095 : decode code 1095 = .ok (.aload_n 2, 1) := by decide +kernel
theorem d_La_law_1096 : decode code 1096 = .ok (.invokevirtual 141, 3) := by decide +kernel
theorem d_La_law_1099 : decode code 1099 = .ok (.if_icmp .eq 422, 3) := by decide +kernel
theorem d_La_law_1102 : decode code 1102 = .ok (.iconst 0, 1) := by decide +kernel
theorem d_La_law_1103 : decode code 1103 = .ok (.ireturn, 1) := by decide +kernel
theorem d_La_law_1104 : decode code 1104 = .ok (.aload_n 1, 1) := by decide +kernel
theorem d_La_law_1105 : decode code 1105 = .ok (.invokevirtual 142, 3) := by decide +kernel
theorem d_La_law_1108 : decode code 1108 = .ok (.aload_n 2, 1) := by decide +kernel
theorem d_La_law_1109 : decode code 1109 = .ok (.invokevirtual 145, 3) := by decide +kernel
theorem d_La_law_1112 : decode code 1112 = .ok (.if_icmp .eq 409, 3) := by decide +kernel
theorem d_La_law_1115 : decode code 1115 = .ok (.iconst 0, 1) := by decide +kernel
theorem d_La_law_1116 : decode code 1116 = .ok (.ireturn, 1) := by decide +kernel
theorem d_La_law_1117 : decode code 1117 = .ok (.aload_n 1, 1) := by decide +kernel
theorem d_La_law_1118 : decode code 1118 = .ok (.invokevirtual 146, 3) := by decide +kernel
theorem d_La_law_1121 : decode code 1121 = .ok (.aload_n 2, 1) := by decide +kernel
theorem d_La_law_1122 : decode code 1122 = .ok (.invokevirtual 149, 3) := by decide +kernel
theorem d_La_law_1125 : decode code 1125 = .ok (.if_icmp .eq 396, 3) := by decide +kernel
theorem d_La_law_1128 : decode code 1128 = .ok (.iconst 0, 1) := by decide +kernel
theorem d_La_law_1129 : decode code 1129 = .ok (.ireturn, 1) := by decide +kernel
theorem d_La_law_1130 : decode code 1130 = .ok (.aload_n 1, 1) := by decide +kernel
theorem d_La_law_1131 : decode code 1131 = .ok (.aload_n 0, 1) := by decide +kernel
theorem d_La_law_1132 : decode code 1132 = .ok (.iload_n 3, 1) := by decide +kernel
theorem d_La_law_1133 : decode code 1133 = .ok (.iconst 1, 1) := by decide +kernel
theorem d_La_law_1134 : decode code 1134 = .ok (.iadd, 1) := by decide +kernel
theorem d_La_law_1135 : decode code 1135 = .ok (.iaload, 1) := by decide +kernel
theorem d_La_law_1136 : decode code 1136 = .ok (.invokevirtual 150, 3) := by decide +kernel
theorem d_La_law_1139 : decode code 1139 = .ok (.aload_n 2, 1) := by decide +kernel
theorem d_La_law_1140 : decode code 1140 = .ok (.aload_n 0, 1) := by decide +kernel
theorem d_La_law_1141 : decode code 1141 = .ok (.iload_n 3, 1) := by decide +kernel
theorem d_La_law_1142 : decode code 1142 = .ok (.iconst 1, 1) := by decide +kernel
theorem d_La_law_1143 : decode code 1143 = .ok (.iadd, 1) := by decide +kernel
theorem d_La_law_1144 : decode code 1144 = .ok (.iaload, 1) := by decide +kernel
theorem d_La_law_1145 : decode code 1145 = .ok (.invokevirtual 153, 3) := by decide +kernel
theorem d_La_law_1148 : decode code 1148 = .ok (.if_icmp .eq 373, 3) := by decide +kernel
theorem d_La_law_1151 : decode code 1151 = .ok (.iconst 0, 1) := by decide +kernel
theorem d_La_law_1152 : decode code 1152 = .ok (.ireturn, 1) := by decide +kernel
theorem d_La_law_1153 : decode code 1153 = .ok (.aload_n 1, 1) := by decide +kernel
theorem d_La_law_1154 : decode code 1154 = .ok (.aload_n 0, 1) := by decide +kernel
theorem d_La_law_1155 : decode code 1155 = .ok (.iload_n 3, 1) := by decide +kernel
theorem d_La_law_1156 : decode code 1156 = .ok (.iconst 1, 1) := by decide +kernel
theorem d_La_law_1157 : decode code 1157 = .ok (.iadd, 1) := by decide +kernel
theorem d_La_law_1158 : decode code 1158 = .ok (.iaload, 1) := by decide +kernel
theorem d_La_law_1159 : decode code 1159 = .ok (.aload_n 0, 1) := by decide +kernel
theorem d_La_law_1160 : decode code 1160 = .ok (.iload_n 3, 1) := by decide +kernel
theorem d_La_law_1161 : decode code 1161 = .ok (.iconst 2, 1) := by decide +kernel
theorem d_La_law_1162 : decode code 1162 = .ok (.iadd, 1) := by decide +kernel
theorem d_La_law_1163 : decode code 1163 = .ok (.iaload, 1) := by decide +kernel
theorem d_La_law_1164 : decode code 1164 = .ok (.aload_n 0, 1) := by decide +kernel
theorem d_La_law_1165 : decode code 1165 = .ok (.iload_n 3, 1) := by decide +kernel
theorem d_La_law_1166 : decode code 1166 = .ok (.iconst 3, 1) := by decide +kernel
theorem d_La_law_1167 : decode code 1167 = .ok (.iadd, 1) := by decide +kernel
theorem d_La_law_1168 : decode code 1168 = .ok (.iaload, 1) := by decide +kernel
theorem d_La_law_1169 : decode code 1169 = .ok (.invokevirtual 154, 3) := by decide +kernel
theorem d_La_law_1172 : decode code 1172 = .ok (.aload_n 2, 1) := by decide +kernel
theorem d_La_law_1173 : decode code 1173 = .ok (.aload_n 0, 1) := by decide +kernel
theorem d_La_law_1174 : decode code 1174 = .ok (.iload_n 3, 1) := by decide +kernel
theorem d_La_law_1175 : decode code 1175 = .ok (.iconst 1, 1) := by decide +kernel
theorem d_La_law_1176 : decode code 1176 = .ok (.iadd, 1) := by decide +kernel
theorem d_La_law_1177 : decode code 1177 = .ok (.iaload, 1) := by decide +kernel
theorem d_La_law_1178 : decode code 1178 = .ok (.aload_n 0, 1) := by decide +kernel
theorem d_La_law_1179 : decode code 1179 = .ok (.iload_n 3, 1) := by decide +kernel
theorem d_La_law_1180 : decode code 1180 = .ok (.iconst 2, 1) := by decide +kernel
theorem d_La_law_1181 : decode code 1181 = .ok (.iadd, 1) := by decide +kernel
theorem d_La_law_1182 : decode code 1182 = .ok (.iaload, 1) := by decide +kernel
theorem d_La_law_1183 : decode code 1183 = .ok (.aload_n 0, 1) := by decide +kernel
theorem d_La_law_1184 : decode code 1184 = .ok (.iload_n 3, 1) := by decide +kernel
theorem d_La_law_1185 : decode code 1185 = .ok (.iconst 3, 1) := by decide +kernel
theorem d_La_law_1186 : decode code 1186 = .ok (.iadd, 1) := by decide +kernel
theorem d_La_law_1187 : decode code 1187 = .ok (.iaload, 1) := by decide +kernel
theorem d_La_law_1188 : decode code 1188 = .ok (.invokevirtual 157, 3) := by decide +kernel
theorem d_La_law_1191 : decode code 1191 = .ok (.if_icmp .eq 330, 3) := by decide +kernel
theorem d_La_law_1194 : decode code 1194 = .ok (.iconst 0, 1) := by decide +kernel
theorem d_La_law_1195 : decode code 1195 = .ok (.ireturn, 1) := by decide +kernel
theorem d_La_law_1196 : decode code 1196 = .ok (.aload_n 1, 1) := by decide +kernel
theorem d_La_law_1197 : decode code 1197 = .ok (.aload_n 0, 1) := by decide +kernel
theorem d_La_law_1198 : decode code 1198 = .ok (.iload_n 3, 1) := by decide +kernel
theorem d_La_law_1199 : decode code 1199 = .ok (.iconst 1, 1) := by decide +kernel
theorem d_La_law_1200 : decode code 1200 = .ok (.iadd, 1) := by decide +kernel
theorem d_La_law_1201 : decode code 1201 = .ok (.iaload, 1) := by decide +kernel
theorem d_La_law_1202 : decode code 1202 = .ok (.invokevirtual 158, 3) := by decide +kernel
theorem d_La_law_1205 : decode code 1205 = .ok (.aload_n 2, 1) := by decide +kernel
theorem d_La_law_1206 : decode code 1206 = .ok (.aload_n 0, 1) := by decide +kernel
theorem d_La_law_1207 : decode code 1207 = .ok (.iload_n 3, 1) := by decide +kernel
