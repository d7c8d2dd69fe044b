/-! the law, decoded -/
theorem dL_1116 : decode code 1116 = .ok (.iaload, 1) := by decide +kernel
theorem dL_1117 : decode code 1117 = .ok (.aload_n 0, 1) := by decide +kernel
theorem dL_1118 : decode code 1118 = .ok (.iload_n 3, 1) := by decide +kernel
theorem dL_1119 : decode code 1119 = .ok (.iconst 2, 1) := by decide +kernel
theorem dL_1120 : decode code 1120 = .ok (.iadd, 1) := by decide +kernel
theorem dL_1121 : decode code 1121 = .ok (.iaload, 1) := by decide +kernel
theorem dL_1122 : decode code 1122 = .ok (.aload_n 0, 1) := by decide +kernel
theorem dL_1123 : decode code 1123 = .ok (.iload_n 3, 1) := by decide +kernel
theorem dL_1124 : decode code 1124 = .ok (.iconst 3, 1) := by decide +kernel
theorem dL_1125 : decode code 1125 = .ok (.iadd, 1) := by decide +kernel
theorem dL_1126 : decode code 1126 = .ok (.iaload, 1) := by decide +kernel
theorem dL_1127 : decode code 1127 = .ok (.invokevirtual 133, 3) := by decide +kernel
theorem dL_1130 : decode code 1130 = .ok (.if_icmp .eq 558, 3) := by decide +kernel
theorem dL_1133 : decode code 1133 = .ok (.iconst 0, 1) := by decide +kernel
theorem dL_1134 : decode code 1134 = .ok (.ireturn, 1) := by decide +kernel
theorem dL_1135 : decode code 1135 = .ok (.aload_n 1, 1) := by decide +kernel
theorem dL_1136 : decode code 1136 = .ok (.invokevirtual 134, 3) := by decide +kernel
theorem dL_1139 : decode code 1139 = .ok (.aload_n 2, 1) := by decide +kernel
theorem dL_1140 : decode code 1140 = .ok (.invokevirtual 137, 3) := by decide +kernel
theorem dL_1143 : decode code 1143 = .ok (.if_icmp .eq 545, 3) := by decide +kernel
theorem dL_1146 : decode code 1146 = .ok (.iconst 0, 1) := by decide +kernel
theorem dL_1147 : decode code 1147 = .ok (.ireturn, 1) := by decide +kernel
theorem dL_1148 : decode code 1148 = .ok (.aload_n 1, 1) := by decide +kernel
theorem dL_1149 : decode code 1149 = .ok (.aload_n 0, 1) := by decide +kernel
theorem dL_1150 : decode code 1150 = .ok (.iload_n 3, 1) := by decide +kernel
theorem dL_1151 : decode code 1151 = .ok (.iconst 1, 1) := by decide +kernel
theorem dL_1152 : decode code 1152 = .ok (.iadd, 1) := by decide +kernel
theorem dL_1153 : decode code 1153 = .ok (.iaload, 1) := by decide +kernel
theorem dL_1154 : decode code 1154 = .ok (.invokevirtual 138, 3) := by decide +kernel
theorem dL_1157 : decode code 1157 = .ok (.aload_n 2, 1) := by decide +kernel
theorem dL_1158 : decode code 1158 = .ok (.aload_n 0, 1) := by decide +kernel
theorem dL_1159 : decode code 1159 = .ok (.iload_n 3, 1) := by decide +kernel
theorem dL_1160 : decode code 1160 = .ok (.iconst 1, 1) := by decide +kernel
theorem dL_1161 : decode code 1161 = .ok (.iadd, 1) := by decide +kernel
theorem dL_1162 : decode code 1162 = .ok (.iaload, 1) := by decide +kernel
theorem dL_1163 : decode code 1163 = .ok (.invokevirtual 141, 3) := by decide +kernel
theorem dL_1166 : decode code 1166 = .ok (.if_icmp .eq 522, 3) := by decide +kernel
theorem dL_1169 : decode code 1169 = .ok (.iconst 0, 1) := by decide +kernel
theorem dL_1170 : decode code 1170 = .ok (.ireturn, 1) := by decide +kernel
theorem dL_1171 : decode code 1171 = .ok (.aload_n 1, 1) := by decide +kernel
theorem dL_1172 : decode code 1172 = .ok (.aload_n 0, 1) := by decide +kernel
theorem dL_1173 : decode code 1173 = .ok (.iload_n 3, 1) := by decide +kernel
theorem dL_1174 : decode code 1174 = .ok (.iconst 1, 1) := by decide +kernel
theorem dL_1175 : decode code 1175 = .ok (.iadd, 1) := by decide +kernel
theorem dL_1176 : decode code 1176 = .ok (.iaload, 1) := by decide +kernel
theorem dL_1177 : decode code 1177 = .ok (.invokevirtual 142, 3) := by decide +kernel
theorem dL_1180 : decode code 1180 = .ok (.aload_n 2, 1) := by decide +kernel
theorem dL_1181 : decode code 1181 = .ok (.aload_n 0, 1) := by decide +kernel
theorem dL_1182 : decode code 1182 = .ok (.iload_n 3, 1) := by decide +kernel
theorem dL_1183 : decode code 1183 = .ok (.iconst 1, 1) := by decide +kernel
theorem dL_1184 : decode code 1184 = .ok (.iadd, 1) := by decide +kernel
theorem dL_1185 : decode code 1185 = .ok (.iaload, 1) := by decide +kernel
theorem dL_1186 : decode code 1186 = .ok (.invokevirtual 145, 3) := by decide +kernel
theorem dL_1189 : decode code 1189 = .ok (.if_icmp .eq 499, 3) := by decide +kernel
theorem dL_1192 : decode code 1192 = .ok (.iconst 0, 1) := by decide +kernel
theorem dL_1193 : decode code 1193 = .ok (.ireturn, 1) := by decide +kernel
theorem dL_1194 : decode code 1194 = .ok (.aload_n 1, 1) := by decide +kernel
theorem dL_1195 : decode code 1195 = .ok (.aload_n 0, 1) := by decide +kernel
theorem dL_1196 : decode code 1196 = .ok (.iload_n 3, 1) := by decide +kernel
theorem dL_1197 : decode code 1197 = .ok (.iconst 1, 1) := by decide +kernel
theorem dL_1198 : decode code 1198 = .ok (.iadd, 1) := by decide +kernel
theorem dL_1199 : decode code 1199 = .ok (.iaload, 1) := by decide +kernel
theorem dL_1200 : decode code 1200 = .ok (.invokevirtual 146, 3) := by decide +kernel
theorem dL_1203 : decode code 1203 = .ok (.aload_n 2, 1) := by decide +kernel
theorem dL_1204 : decode code 1204 = .ok (.aload_n 0, 1) := by decide +kernel
theorem dL_1205 : decode code 1205 = .ok (.iload_n 3, 1) := by decide +kernel
theorem dL_1206 : decode code 1206 = .ok (.iconst 1, 1) := by decide +kernel
theorem dL_1207 : decode code 1207 = .ok (.iadd, 1) := by decide +kernel
theorem dL_1208 : decode code 1208 = .ok (.iaload, 1) := by decide +kernel
theorem dL_1209 : decode code 1209 = .ok (.invokevirtual 149, 3) := by decide +kernel
theorem dL_1212 : decode code 1212 = .ok (.if_icmp .eq 476, 3) := by decide +kernel
theorem dL_1215 : decode code 1215 = .ok (.iconst 0, 1) := by decide +kernel
theorem dL_1216 : decode code 1216 = .ok (.ireturn, 1) := by decide +kernel
theorem dL_1217 : decode code 1217 = .ok (.aload_n 1, 1) := by decide +kernel
theorem dL_1218 : decode code 1218 = .ok (.invokevirtual 150, 3) := by decide +kernel
theorem dL_1221 : decode code 1221 = .ok (.aload_n 2, 1) := by decide +kernel
theorem dL_1222 : decode code 1222 = .ok (.invokevirtual 153, 3) := by decide +kernel
theorem dL_1225 : decode code 1225 = .ok (.if_icmp .eq 463, 3) := by decide +kernel
theorem dL_1228 : decode code 1228 = .ok (.iconst 0, 1) := by decide +kernel
theorem dL_1229 : decode code 1229 = .ok (.ireturn, 1) := by decide +kernel
theorem dL_1230 : decode code 1230 = .ok (.aload_n 1, 1) := by decide +kernel
theorem dL_1231 : decode code 1231 = .ok (.aload_n 0, 1) := by decide +kernel
theorem dL_1232 : decode code 1232 = .ok (.iload_n 3, 1) := by decide +kernel
theorem dL_1233 : decode code 1233 = .ok (.iconst 1, 1) := by decide +kernel
theorem dL_1234 : decode code 1234 = .ok (.iadd, 1) := by decide +kernel
theorem dL_1235 : decode code 1235 = .ok (.iaload, 1) := by decide +kernel
theorem dL_1236 : decode code 1236 = .ok (.invokevirtual 154, 3) := by decide +kernel
theorem dL_1239 : decode code 1239 = .ok (.aload_n 2, 1) := by decide +kernel
theorem dL_1240 : decode code 1240 = .ok (.aload_n 0, 1) := by decide +kernel
theorem dL_1241 : decode code 1241 = .ok (.iload_n 3, 1) := by decide +kernel
theorem dL_1242 : decode code 1242 = .ok (.iconst 1, 1) := by decide +kernel
theorem dL_1243 : decode code 1243 = .ok (.iadd, 1) := by decide +kernel
theorem dL_1244 : decode code 1244 = .ok (.iaload, 1) := by decide +kernel
theorem dL_1245 : decode code 1245 = .ok (.invokevirtual 157, 3) := by decide +kernel
theorem dL_1248 : decode code 1248 = .ok (.if_icmp .eq 440, 3) := by decide +kernel
theorem dL_1251 : decode code 1251 = .ok (.iconst 0, 1) := by decide +kernel
theorem dL_1252 : decode code 1252 = .ok (.ireturn, 1) := by decide +kernel
theorem dL_1253 : decode code 1253 = .ok (.aload_n 1, 1) := by decide +kernel
theorem dL_1254 : decode code 1254 = .ok (.aload_n 0, 1) := by decide +kernel
theorem dL_1255 : decode code 1255 = .ok (.iload_n 3, 1) := by decide +kernel
theorem dL_1256 : decode code 1256 = .ok (.iconst 1, 1) := by decide +kernel
theorem dL_1257 : decode code 1257 = .ok (.iadd, 1) := by decide +kernel
theorem dL_1258 : decode code 1258 = .ok (.iaload, 1) := by decide +kernel
theorem dL_1259 : decode code 1259 = .ok (.aload_n 0, 1) := by decide +kernel
theorem dL_1260 : decode code 1260 = .ok (.iload_n 3, 1) := by decide +kernel
theorem dL_1261 : decode code 1261 = .ok (.iconst 2, 1) := by decide +kernel
theorem dL_1262 : decode code 1262 = .ok (.iadd, 1) := by decide +kernel
theorem dL_1263 : decode code 1263 = .ok (.iaload, 1) := by decide +kernel
theorem dL_1264 : decode code 1264 = .ok (.invokevirtual 158, 3) := by decide +kernel
theorem dL_1267 : decode code 1267 = .ok (.aload_n 2, 1) := by decide +kernel
theorem dL_1268 : decode code 1268 = .ok (.aload_n 0, 1) := by decide +kernel
theorem dL_1269 : decode code 1269 = .ok (.iload_n 3, 1) := by decide +kernel
theorem dL_1270 : decode code 1270 = .ok (.iconst 1, 1) := by decide +kernel
theorem dL_1271 : decode code 1271 = .ok (.iadd, 1) := by decide +kernel
theorem dL_1272 : decode code 1272 = .ok (.iaload, 1) := by decide +kernel
theorem dL_1273 : decode code 1273 = .ok (.aload_n 0, 1) := by decide +kernel
theorem dL_1274 : decode code 1274 = .ok (.iload_n 3, 1) := by decide +kernel
theorem dL_1275 : decode code 1275 = .ok (.iconst 2, 1) := by decide +kernel
theorem dL_1276 : decode code 1276 = .ok (.iadd, 1) := by decide +kernel
theorem dL_1277 : decode code 1277 = .ok (.iaload, 1) := by decide +kernel
