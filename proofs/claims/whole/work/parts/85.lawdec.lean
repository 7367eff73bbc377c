theorem d_law0_1094 : decode code 1094 = .ok (.iload_n 3, 1) := by decide +kernel
theorem d_law0_1095 : decode code 1095 = .ok (.iconst 2, 1) := by decide +kernel
theorem d_law0_1096 : decode code 1096 = .ok (.iadd, 1) := by decide +kernel
theorem d_law0_1097 : decode code 1097 = .ok (.iaload, 1) := by decide +kernel
theorem d_law0_1098 : decode code 1098 = .ok (.aload_n 0, 1) := by decide +kernel
theorem d_law0_1099 : decode code 1099 = .ok (.iload_n 3, 1) := by decide +kernel
theorem d_law0_1100 : decode code 1100 = .ok (.iconst 3, 1) := by decide +kernel
theorem d_law0_1101 : decode code 1101 = .ok (.iadd, 1) := by decide +kernel
theorem d_law0_1102 : decode code 1102 = .ok (.iaload, 1) := by decide +kernel
theorem d_law0_1103 : decode code 1103 = .ok (.aload_n 0, 1) := by decide +kernel
theorem d_law0_1104 : decode code 1104 = .ok (.iload_n 3, 1) := by decide +kernel
theorem d_law0_1105 : decode code 1105 = .ok (.iconst 4, 1) := by decide +kernel
theorem d_law0_1106 : decode code 1106 = .ok (.iadd, 1) := by decide +kernel
theorem d_law0_1107 : decode code 1107 = .ok (.iaload, 1) := by decide +kernel
theorem d_law0_1108 : decode code 1108 = .ok (.invokevirtual 117, 3) := by decide +kernel
theorem d_law0_1111 : decode code 1111 = .ok (.if_icmp .eq 173, 3) := by decide +kernel
theorem d_law0_1114 : decode code 1114 = .ok (.iconst 0, 1) := by decide +kernel
theorem d_law0_1115 : decode code 1115 = .ok (.ireturn, 1) := by decide +kernel
theorem d_law0_1116 : decode code 1116 = .ok (.aload_n 1, 1) := by decide +kernel
theorem d_law0_1117 : decode code 1117 = .ok (.aload_n 0, 1) := by decide +kernel
theorem d_law0_1118 : decode code 1118 = .ok (.iload_n 3, 1) := by decide +kernel
theorem d_law0_1119 : decode code 1119 = .ok (.iconst 1, 1) := by decide +kernel
theorem d_law0_1120 : decode code 1120 = .ok (.iadd, 1) := by decide +kernel
theorem d_law0_1121 : decode code 1121 = .ok (.iaload, 1) := by decide +kernel
theorem d_law0_1122 : decode code 1122 = .ok (.invokevirtual 118, 3) := by decide +kernel
theorem d_law0_1125 : decode code 1125 = .ok (.aload_n 2, 1) := by decide +kernel
theorem d_law0_1126 : decode code 1126 = .ok (.aload_n 0, 1) := by decide +kernel
theorem d_law0_1127 : decode code 1127 = .ok (.iload_n 3, 1) := by decide +kernel
theorem d_law0_1128 : decode code 1128 = .ok (.iconst 1, 1) := by decide +kernel
theorem d_law0_1129 : decode code 1129 = .ok (.iadd, 1) := by decide +kernel
theorem d_law0_1130 : decode code 1130 = .ok (.iaload, 1) := by decide +kernel
theorem d_law0_1131 : decode code 1131 = .ok (.invokevirtual 121, 3) := by decide +kernel
theorem d_law0_1134 : decode code 1134 = .ok (.if_icmp .eq 150, 3) := by decide +kernel
theorem d_law0_1137 : decode code 1137 = .ok (.iconst 0, 1) := by decide +kernel
theorem d_law0_1138 : decode code 1138 = .ok (.ireturn, 1) := by decide +kernel
theorem d_law0_1139 : decode code 1139 = .ok (.aload_n 1, 1) := by decide +kernel
theorem d_law0_1140 : decode code 1140 = .ok (.aload_n 0, 1) := by decide +kernel
theorem d_law0_1141 : decode code 1141 = .ok (.iload_n 3, 1) := by decide +kernel
theorem d_law0_1142 : decode code 1142 = .ok (.iconst 1, 1) := by decide +kernel
theorem d_law0_1143 : decode code 1143 = .ok (.iadd, 1) := by decide +kernel
theorem d_law0_1144 : decode code 1144 = .ok (.iaload, 1) := by decide +kernel
theorem d_law0_1145 : decode code 1145 = .ok (.aload_n 0, 1) := by decide +kernel
theorem d_law0_1146 : decode code 1146 = .ok (.iload_n 3, 1) := by decide +kernel
theorem d_law0_1147 : decode code 1147 = .ok (.iconst 2, 1) := by decide +kernel
theorem d_law0_1148 : decode code 1148 = .ok (.iadd, 1) := by decide +kernel
theorem d_law0_1149 : decode code 1149 = .ok (.iaload, 1) := by decide +kernel
theorem d_law0_1150 : decode code 1150 = .ok (.invokevirtual 122, 3) := by decide +kernel
theorem d_law0_1153 : decode code 1153 = .ok (.aload_n 2, 1) := by decide +kernel
theorem d_law0_1154 : decode code 1154 = .ok (.aload_n 0, 1) := by decide +kernel
theorem d_law0_1155 : decode code 1155 = .ok (.iload_n 3, 1) := by decide +kernel
theorem d_law0_1156 : decode code 1156 = .ok (.iconst 1, 1) := by decide +kernel
theorem d_law0_1157 : decode code 1157 = .ok (.iadd, 1) := by decide +kernel
theorem d_law0_1158 : decode code 1158 = .ok (.iaload, 1) := by decide +kernel
theorem d_law0_1159 : decode code 1159 = .ok (.aload_n 0, 1) := by decide +kernel
theorem d_law0_1160 : decode code 1160 = .ok (.iload_n 3, 1) := by decide +kernel
theorem d_law0_1161 : decode code 1161 = .ok (.iconst 2, 1) := by decide +kernel
theorem d_law0_1162 : decode code 1162 = .ok (.iadd, 1) := by decide +kernel
theorem d_law0_1163 : decode code 1163 = .ok (.iaload, 1) := by decide +kernel
theorem d_law0_1164 : decode code 1164 = .ok (.invokevirtual 125, 3) := by decide +kernel
theorem d_law0_1167 : decode code 1167 = .ok (.if_icmp .eq 117, 3) := by decide +kernel
theorem d_law0_1170 : decode code 1170 = .ok (.iconst 0, 1) := by decide +kernel
theorem d_law0_1171 : decode code 1171 = .ok (.ireturn, 1) := by decide +kernel
theorem d_law0_1172 : decode code 1172 = .ok (.aload_n 1, 1) := by decide +kernel
theorem d_law0_1173 : decode code 1173 = .ok (.aload_n 0, 1) := by decide +kernel
theorem d_law0_1174 : decode code 1174 = .ok (.iload_n 3, 1) := by decide +kernel
theorem d_law0_1175 : decode code 1175 = .ok (.iconst 1, 1) := by decide +kernel
theorem d_law0_1176 : decode code 1176 = .ok (.iadd, 1) := by decide +kernel
theorem d_law0_1177 : decode code 1177 = .ok (.iaload, 1) := by decide +kernel
theorem d_law0_1178 : decode code 1178 = .ok (.invokevirtual 126, 3) := by decide +kernel
theorem d_law0_1181 : decode code 1181 = .ok (.aload_n 2, 1) := by decide +kernel
theorem d_law0_1182 : decode code 1182 = .ok (.aload_n 0, 1) := by decide +kernel
theorem d_law0_1183 : decode code 1183 = .ok (.iload_n 3, 1) := by decide +kernel
theorem d_law0_1184 : decode code 1184 = .ok (.iconst 1, 1) := by decide +kernel
theorem d_law0_1185 : decode code 1185 = .ok (.iadd, 1) := by decide +kernel
theorem d_law0_1186 : decode code 1186 = .ok (.iaload, 1) := by decide +kernel
theorem d_law0_1187 : decode code 1187 = .ok (.invokevirtual 129, 3) := by decide +kernel
theorem d_law0_1190 : decode code 1190 = .ok (.if_icmp .eq 94, 3) := by decide +kernel
theorem d_law0_1193 : decode code 1193 = .ok (.iconst 0, 1) := by decide +kernel
theorem d_law0_1194 : decode code 1194 = .ok (.ireturn, 1) := by decide +kernel
theorem d_law0_1195 : decode code 1195 = .ok (.aload_n 1, 1) := by decide +kernel
theorem d_law0_1196 : decode code 1196 = .ok (.aload_n 0, 1) := by decide +kernel
theorem d_law0_1197 : decode code 1197 = .ok (.iload_n 3, 1) := by decide +kernel
theorem d_law0_1198 : decode code 1198 = .ok (.iconst 1, 1) := by decide +kernel
theorem d_law0_1199 : decode code 1199 = .ok (.iadd, 1) := by decide +kernel
theorem d_law0_1200 : decode code 1200 = .ok (.iaload, 1) := by decide +kernel
theorem d_law0_1201 : decode code 1201 = .ok (.aload_n 0, 1) := by decide +kernel
theorem d_law0_1202 : decode code 1202 = .ok (.iload_n 3, 1) := by decide +kernel
theorem d_law0_1203 : decode code 1203 = .ok (.iconst 2, 1) := by decide +kernel
theorem d_law0_1204 : decode code 1204 = .ok (.iadd, 1) := by decide +kernel
theorem d_law0_1205 : decode code 1205 = .ok (.iaload, 1) := by decide +kernel
theorem d_law0_1206 : decode code 1206 = .ok (.invokevirtual 130, 3) := by decide +kernel
theorem d_law0_1209 : decode code 1209 = .ok (.aload_n 2, 1) := by decide +kernel
theorem d_law0_1210 : decode code 1210 = .ok (.aload_n 0, 1) := by decide +kernel
theorem d_law0_1211 : decode code 1211 = .ok (.iload_n 3, 1) := by decide +kernel
theorem d_law0_1212 : decode code 1212 = .ok (.iconst 1, 1) := by decide +kernel
theorem d_law0_1213 : decode code 1213 = .ok (.iadd, 1) := by decide +kernel
theorem d_law0_1214 : decode code 1214 = .ok (.iaload, 1) := by decide +kernel
theorem d_law0_1215 : decode code 1215 = .ok (.aload_n 0, 1) := by decide +kernel
theorem d_law0_1216 : decode code 1216 = .ok (.iload_n 3, 1) := by decide +kernel
theorem d_law0_1217 : decode code 1217 = .ok (.iconst 2, 1) := by decide +kernel
theorem d_law0_1218 : decode code 1218 = .ok (.iadd, 1) := by decide +kernel
theorem d_law0_1219 : decode code 1219 = .ok (.iaload, 1) := by decide +kernel
theorem d_law0_1220 : decode code 1220 = .ok (.invokevirtual 133, 3) := by decide +kernel
theorem d_law0_1223 : decode code 1223 = .ok (.if_icmp .eq 61, 3) := by decide +kernel
theorem d_law0_1226 : decode code 1226 = .ok (.iconst 0, 1) := by decide +kernel
theorem d_law0_1227 : decode code 1227 = .ok (.ireturn, 1) := by decide +kernel
theorem d_law0_1228 : decode code 1228 = .ok (.aload_n 1, 1) := by decide +kernel
theorem d_law0_1229 : decode code 1229 = .ok (.aload_n 0, 1) := by decide +kernel
theorem d_law0_1230 : decode code 1230 = .ok (.iload_n 3, 1) := by decide +kernel
theorem d_law0_1231 : decode code 1231 = .ok (.iconst 1, 1) := by decide +kernel
theorem d_law0_1232 : decode code 1232 = .ok (.iadd, 1) := by decide +kernel
theorem d_law0_1233 : decode code 1233 = .ok (.iaload, 1) := by decide +kernel
theorem d_law0_1234 : decode code 1234 = .ok (.aload_n 0, 1) := by decide +kernel
theorem d_law0_1235 : decode code 1235 = .ok (.iload_n 3, 1) := by decide +kernel
theorem d_law0_1236 : decode code 1236 = .ok (.iconst 2, 1) := by decide +kernel
theorem d_law0_1237 : decode code 1237 = .ok (.iadd, 1) := by decide +kernel
theorem d_law0_1238 : decode code 1238 = .ok (.iaload, 1) := by decide +kernel
theorem d_law0_1239 : decode code 1239 = .ok (.invokevirtual 134, 3) := by decide +kernel
theorem d_law0_1242 : decode code 1242 = .ok (.aload_n 2, 1) := by decide +kernel
theorem d_law0_1243 : decode code 1243 = .ok (.aload_n 0, 1) := by decide +kernel
theorem d_law0_1244 : decode code 1244 = .ok (.iload_n 3, 1) := by decide +kernel
theorem d_law0_1245 : decode code 1245 = .ok (.iconst 1, 1) := by decide +kernel
theorem d_law0_1246 : decode code 1246 = .ok (.iadd, 1) := by decide +kernel
theorem d_law0_1247 : decode code 1247 = .ok (.iaload, 1) := by decide +kernel
theorem d_law0_1248 : decode code 1248 = .ok (.aload_n 0, 1) := by decide +kernel
theorem d_law0_1249 : decode code 1249 = .ok (.iload_n 3, 1) := by decide +kernel
theorem d_law0_1250 : decode code 1250 = .ok (.iconst 2, 1) := by decide +kernel
theorem d_law0_1251 : decode code 1251 = .ok (.iadd, 1) := by decide +kernel
theorem d_law0_1252 : decode code 1252 = .ok (.iaload, 1) := by decide +kernel
theorem d_law0_1253 : decode code 1253 = .ok (.invokevirtual 137, 3) := by decide +kernel
theorem d_law0_1256 : decode code 1256 = .ok (.if_icmp .eq 28, 3) := by decide +kernel
theorem d_law0_1259 : decode code 1259 = .ok (.iconst 0, 1) := by decide +kernel
theorem d_law0_1260 : decode code 1260 = .ok (.ireturn, 1) := by decide +kernel
theorem d_law0_1261 : decode code 1261 = .ok (.aload_n 1, 1) := by decide +kernel
theorem d_law0_1262 : decode code 1262 = .ok (.aload_n 0, 1) := by decide +kernel
theorem d_law0_1263 : decode code 1263 = .ok (.iload_n 3, 1) := by decide +kernel
theorem d_law0_1264 : decode code 1264 = .ok (.iconst 1, 1) := by decide +kernel
theorem d_law0_1265 : decode code 1265 = .ok (.iadd, 1) := by decide +kernel
theorem d_law0_1266 : decode code 1266 = .ok (.iaload, 1) := by decide +kernel
theorem d_law0_1267 : decode code 1267 = .ok (.invokevirtual 138, 3) := by decide +kernel
theorem d_law0_1270 : decode code 1270 = .ok (.aload_n 2, 1) := by decide +kernel
theorem d_law0_1271 : decode code 1271 = .ok (.aload_n 0, 1) := by decide +kernel
theorem d_law0_1272 : decode code 1272 = .ok (.iload_n 3, 1) := by decide +kernel
theorem d_law0_1273 : decode code 1273 = .ok (.iconst 1, 1) := by decide +kernel
theorem d_law0_1274 : decode code 1274 = .ok (.iadd, 1) := by decide +kernel
theorem d_law0_1275 : decode code 1275 = .ok (.iaload, 1) := by decide +kernel
theorem d_law0_1276 : decode code 1276 = .ok (.invokevirtual 141, 3) := by decide +kernel
theorem d_law0_1279 : decode code 1279 = .ok (.if_icmp .eq 5, 3) := by decide +kernel
theorem d_law0_1282 : decode code 1282 = .ok (.iconst 0, 1) := by decide +kernel
theorem d_law0_1283 : decode code 1283 = .ok (.ireturn, 1) := by decide +kernel
theorem d_law0_1284 : decode code 1284 = .ok (.iinc 3 6, 3) := by decide +kernel
theorem d_law0_1287 : decode code 1287 = .ok (.goto (-1269), 3) := by decide +kernel
theorem d_law0_1290 : decode code 1290 = .ok (.iconst 1, 1) := by decide +kernel
theorem d_law0_1291 : decode code 1291 = .ok (.ireturn, 1) := by decide +kernel
