theorem d_Lw_law_1056 : decode b_Lw_law 1056 = .ok (.ireturn, 1) := by decide +kernel
theorem d_Lw_law_1057 : decode b_Lw_law 1057 = .ok (.aload_n 1, 1) := by decide +kernel
theorem d_Lw_law_1058 : decode b_Lw_law 1058 = .ok (.aload_n 0, 1) := by decide +kernel
theorem d_Lw_law_1059 : decode b_Lw_law 1059 = .ok (.iload_n 3, 1) := by decide +kernel
theorem d_Lw_law_1060 : decode b_Lw_law 1060 = .ok (.iconst 1, 1) := by decide +kernel
theorem d_Lw_law_1061 : decode b_Lw_law 1061 = .ok (.iadd, 1) := by decide +kernel
theorem d_Lw_law_1062 : decode b_Lw_law 1062 = .ok (.iaload, 1) := by decide +kernel
theorem d_Lw_law_1063 : decode b_Lw_law 1063 = .ok (.aload_n 0, 1) := by decide +kernel
theorem d_Lw_law_1064 : decode b_Lw_law 1064 = .ok (.iload_n 3, 1) := by decide +kernel
theorem d_Lw_law_1065 : decode b_Lw_law 1065 = .ok (.iconst 2, 1) := by decide +kernel
theorem d_Lw_law_1066 : decode b_Lw_law 1066 = .ok (.iadd, 1) := by decide +kernel
theorem d_Lw_law_1067 : decode b_Lw_law 1067 = .ok (.iaload, 1) := by decide +kernel
theorem d_Lw_law_1068 : decode b_Lw_law 1068 = .ok (.invokevirtual 128, 3) := by decide +kernel
theorem d_Lw_law_1071 : decode b_Lw_law 1071 = .ok (.aload_n 2, 1) := by decide +kernel
theorem d_Lw_law_1072 : decode b_Lw_law 1072 = .ok (.aload_n 0, 1) := by decide +kernel
theorem d_Lw_law_1073 : decode b_Lw_law 1073 = .ok (.iload_n 3, 1) := by decide +kernel
theorem d_Lw_law_1074 : decode b_Lw_law 1074 = .ok (.iconst 1, 1) := by decide +kernel
theorem d_Lw_law_1075 : decode b_Lw_law 1075 = .ok (.iadd, 1) := by decide +kernel
theorem d_Lw_law_1076 : decode b_Lw_law 1076 = .ok (.iaload, 1) := by decide +kernel
theorem d_Lw_law_1077 : decode b_Lw_law 1077 = .ok (.aload_n 0, 1) := by decide +kernel
theorem d_Lw_law_1078 : decode b_Lw_law 1078 = .ok (.iload_n 3, 1) := by decide +kernel
theorem d_Lw_law_1079 : decode b_Lw_law 1079 = .ok (.iconst 2, 1) := by decide +kernel
theorem d_Lw_law_1080 : decode b_Lw_law 1080 = .ok (.iadd, 1) := by decide +kernel
theorem d_Lw_law_1081 : decode b_Lw_law 1081 = .ok (.iaload, 1) := by decide +kernel
theorem d_Lw_law_1082 : decode b_Lw_law 1082 = .ok (.invokevirtual 131, 3) := by decide +kernel
theorem d_Lw_law_1085 : decode b_Lw_law 1085 = .ok (.if_icmp .eq 97, 3) := by decide +kernel
theorem d_Lw_law_1088 : decode b_Lw_law 1088 = .ok (.iconst 0, 1) := by decide +kernel
theorem d_Lw_law_1089 : decode b_Lw_law 1089 = .ok (.ireturn, 1) := by decide +kernel
theorem d_Lw_law_1090 : decode b_Lw_law 1090 = .ok (.aload_n 1, 1) := by decide +kernel
theorem d_Lw_law_1091 : decode b_Lw_law 1091 = .ok (.aload_n 0, 1) := by decide +kernel
theorem d_Lw_law_1092 : decode b_Lw_law 1092 = .ok (.iload_n 3, 1) := by decide +kernel
theorem d_Lw_law_1093 : decode b_Lw_law 1093 = .ok (.iconst 1, 1) := by decide +kernel
theorem d_Lw_law_1094 : decode b_Lw_law 1094 = .ok (.iadd, 1) := by decide +kernel
theorem d_Lw_law_1095 : decode b_Lw_law 1095 = .ok (.iaload, 1) := by decide +kernel
theorem d_Lw_law_1096 : decode b_Lw_law 1096 = .ok (.aload_n 0, 1) := by decide +kernel
theorem d_Lw_law_1097 : decode b_Lw_law 1097 = .ok (.iload_n 3, 1) := by decide +kernel
theorem d_Lw_law_1098 : decode b_Lw_law 1098 = .ok (.iconst 2, 1) := by decide +kernel
theorem d_Lw_law_1099 : decode b_Lw_law 1099 = .ok (.iadd, 1) := by decide +kernel
theorem d_Lw_law_1100 : decode b_Lw_law 1100 = .ok (.iaload, 1) := by decide +kernel
theorem d_Lw_law_1101 : decode b_Lw_law 1101 = .ok (.aload_n 0, 1) := by decide +kernel
theorem d_Lw_law_1102 : decode b_Lw_law 1102 = .ok (.iload_n 3, 1) := by decide +kernel
theorem d_Lw_law_1103 : decode b_Lw_law 1103 = .ok (.iconst 3, 1) := by decide +kernel
theorem d_Lw_law_1104 : decode b_Lw_law 1104 = .ok (.iadd, 1) := by decide +kernel
theorem d_Lw_law_1105 : decode b_Lw_law 1105 = .ok (.iaload, 1) := by decide +kernel
theorem d_Lw_law_1106 : decode b_Lw_law 1106 = .ok (.invokevirtual 132, 3) := by decide +kernel
theorem d_Lw_law_1109 : decode b_Lw_law 1109 = .ok (.aload_n 2, 1) := by decide +kernel
theorem d_Lw_law_1110 : decode b_Lw_law 1110 = .ok (.aload_n 0, 1) := by decide +kernel
theorem d_Lw_law_1111 : decode b_Lw_law 1111 = .ok (.iload_n 3, 1) := by decide +kernel
theorem d_Lw_law_1112 : decode b_Lw_law 1112 = .ok (.iconst 1, 1) := by decide +kernel
theorem d_Lw_law_1113 : decode b_Lw_law 1113 = .ok (.iadd, 1) := by decide +kernel
theorem d_Lw_law_1114 : decode b_Lw_law 1114 = .ok (.iaload, 1) := by decide +kernel
theorem d_Lw_law_1115 : decode b_Lw_law 1115 = .ok (.aload_n 0, 1) := by decide +kernel
theorem d_Lw_law_1116 : decode b_Lw_law 1116 = .ok (.iload_n 3, 1) := by decide +kernel
theorem d_Lw_law_1117 : decode b_Lw_law 1117 = .ok (.iconst 2, 1) := by decide +kernel
theorem d_Lw_law_1118 : decode b_Lw_law 1118 = .ok (.iadd, 1) := by decide +kernel
theorem d_Lw_law_1119 : decode b_Lw_law 1119 = .ok (.iaload, 1) := by decide +kernel
theorem d_Lw_law_1120 : decode b_Lw_law 1120 = .ok (.aload_n 0, 1) := by decide +kernel
theorem d_Lw_law_1121 : decode b_Lw_law 1121 = .ok (.iload_n 3, 1) := by decide +kernel
theorem d_Lw_law_1122 : decode b_Lw_law 1122 = .ok (.iconst 3, 1) := by decide +kernel
theorem d_Lw_law_1123 : decode b_Lw_law 1123 = .ok (.iadd, 1) := by decide +kernel
theorem d_Lw_law_1124 : decode b_Lw_law 1124 = .ok (.iaload, 1) := by decide +kernel
theorem d_Lw_law_1125 : decode b_Lw_law 1125 = .ok (.invokevirtual 135, 3) := by decide +kernel
theorem d_Lw_law_1128 : decode b_Lw_law 1128 = .ok (.if_icmp .eq 54, 3) := by decide +kernel
theorem d_Lw_law_1131 : decode b_Lw_law 1131 = .ok (.iconst 0, 1) := by decide +kernel
theorem d_Lw_law_1132 : decode b_Lw_law 1132 = .ok (.ireturn, 1) := by decide +kernel
theorem d_Lw_law_1133 : decode b_Lw_law 1133 = .ok (.aload_n 1, 1) := by decide +kernel
theorem d_Lw_law_1134 : decode b_Lw_law 1134 = .ok (.invokevirtual 136, 3) := by decide +kernel
theorem d_Lw_law_1137 : decode b_Lw_law 1137 = .ok (.aload_n 2, 1) := by decide +kernel
theorem d_Lw_law_1138 : decode b_Lw_law 1138 = .ok (.invokevirtual 139, 3) := by decide +kernel
theorem d_Lw_law_1141 : decode b_Lw_law 1141 = .ok (.if_icmp .eq 41, 3) := by decide +kernel
theorem d_Lw_law_1144 : decode b_Lw_law 1144 = .ok (.iconst 0, 1) := by decide +kernel
theorem d_Lw_law_1145 : decode b_Lw_law 1145 = .ok (.ireturn, 1) := by decide +kernel
theorem d_Lw_law_1146 : decode b_Lw_law 1146 = .ok (.aload_n 1, 1) := by decide +kernel
theorem d_Lw_law_1147 : decode b_Lw_law 1147 = .ok (.invokevirtual 140, 3) := by decide +kernel
theorem d_Lw_law_1150 : decode b_Lw_law 1150 = .ok (.aload_n 2, 1) := by decide +kernel
theorem d_Lw_law_1151 : decode b_Lw_law 1151 = .ok (.invokevirtual 143, 3) := by decide +kernel
theorem d_Lw_law_1154 : decode b_Lw_law 1154 = .ok (.if_icmp .eq 28, 3) := by decide +kernel
theorem d_Lw_law_1157 : decode b_Lw_law 1157 = .ok (.iconst 0, 1) := by decide +kernel
theorem d_Lw_law_1158 : decode b_Lw_law 1158 = .ok (.ireturn, 1) := by decide +kernel
theorem d_Lw_law_1159 : decode b_Lw_law 1159 = .ok (.aload_n 1, 1) := by decide +kernel
theorem d_Lw_law_1160 : decode b_Lw_law 1160 = .ok (.aload_n 0, 1) := by decide +kernel
theorem d_Lw_law_1161 : decode b_Lw_law 1161 = .ok (.iload_n 3, 1) := by decide +kernel
theorem d_Lw_law_1162 : decode b_Lw_law 1162 = .ok (.iconst 1, 1) := by decide +kernel
theorem d_Lw_law_1163 : decode b_Lw_law 1163 = .ok (.iadd, 1) := by decide +kernel
theorem d_Lw_law_1164 : decode b_Lw_law 1164 = .ok (.iaload, 1) := by decide +kernel
theorem d_Lw_law_1165 : decode b_Lw_law 1165 = .ok (.invokevirtual 144, 3) := by decide +kernel
theorem d_Lw_law_1168 : decode b_Lw_law 1168 = .ok (.aload_n 2, 1) := by decide +kernel
theorem d_Lw_law_1169 : decode b_Lw_law 1169 = .ok (.aload_n 0, 1) := by decide +kernel
theorem d_Lw_law_1170 : decode b_Lw_law 1170 = .ok (.iload_n 3, 1) := by decide +kernel
theorem d_Lw_law_1171 : decode b_Lw_law 1171 = .ok (.iconst 1, 1) := by decide +kernel
theorem d_Lw_law_1172 : decode b_Lw_law 1172 = .ok (.iadd, 1) := by decide +kernel
theorem d_Lw_law_1173 : decode b_Lw_law 1173 = .ok (.iaload, 1) := by decide +kernel
theorem d_Lw_law_1174 : decode b_Lw_law 1174 = .ok (.invokevirtual 147, 3) := by decide +kernel
theorem d_Lw_law_1177 : decode b_Lw_law 1177 = .ok (.if_icmp .eq 5, 3) := by decide +kernel
theorem d_Lw_law_1180 : decode b_Lw_law 1180 = .ok (.iconst 0, 1) := by decide +kernel
theorem d_Lw_law_1181 : decode b_Lw_law 1181 = .ok (.ireturn, 1) := by decide +kernel
theorem d_Lw_law_1182 : decode b_Lw_law 1182 = .ok (.iinc 3 7, 3) := by decide +kernel
theorem d_Lw_law_1185 : decode b_Lw_law 1185 = .ok (.goto (-1157), 3) := by decide +kernel
theorem d_Lw_law_1188 : decode b_Lw_law 1188 = .ok (.iconst 1, 1) := by decide +kernel
theorem d_Lw_law_1189 : decode b_Lw_law 1189 = .ok (.ireturn, 1) := by decide +kernel
