theorem dL_law_1068 : decode code 1068 = .ok (.aload_n 0, 1) := by decide +kernel
theorem dL_law_1069 : decode code 1069 = .ok (.iload_n 3, 1) := by decide +kernel
theorem dL_law_1070 : decode code 1070 = .ok (.iconst 1, 1) := by decide +kernel
theorem dL_law_1071 : decode code 1071 = .ok (.iadd, 1) := by decide +kernel
theorem dL_law_1072 : decode code 1072 = .ok (.iaload, 1) := by decide +kernel
theorem dL_law_1073 : decode code 1073 = .ok (.aload_n 0, 1) := by decide +kernel
theorem dL_law_1074 : decode code 1074 = .ok (.iload_n 3, 1) := by decide +kernel
theorem dL_law_1075 : decode code 1075 = .ok (.iconst 2, 1) := by decide +kernel
theorem dL_law_1076 : decode code 1076 = .ok (.iadd, 1) := by decide +kernel
theorem dL_law_1077 : decode code 1077 = .ok (.iaload, 1) := by decide +kernel
theorem dL_law_1078 : decode code 1078 = .ok (.invokevirtual 142, 3) := by decide +kernel
theorem dL_law_1081 : decode code 1081 = .ok (.aload_n 2, 1) := by decide +kernel
theorem dL_law_1082 : decode code 1082 = .ok (.aload_n 0, 1) := by decide +kernel
theorem dL_law_1083 : decode code 1083 = .ok (.iload_n 3, 1) := by decide +kernel
theorem dL_law_1084 : decode code 1084 = .ok (.iconst 1, 1) := by decide +kernel
theorem dL_law_1085 : decode code 1085 = .ok (.iadd, 1) := by decide +kernel
theorem dL_law_1086 : decode code 1086 = .ok (.iaload, 1) := by decide +kernel
theorem dL_law_1087 : decode code 1087 = .ok (.aload_n 0, 1) := by decide +kernel
theorem dL_law_1088 : decode code 1088 = .ok (.iload_n 3, 1) := by decide +kernel
theorem dL_law_1089 : decode code 1089 = .ok (.iconst 2, 1) := by decide +kernel
theorem dL_law_1090 : decode code 1090 = .ok (.iadd, 1) := by decide +kernel
theorem dL_law_1091 : decode code 1091 = .ok (.iaload, 1) := by decide +kernel
theorem dL_law_1092 : decode code 1092 = .ok (.invokevirtual 145, 3) := by decide +kernel
theorem dL_law_1095 : decode code 1095 = .ok (.if_icmp .eq 379, 3) := by decide +kernel
theorem dL_law_1098 : decode code 1098 = .ok (.iconst 0, 1) := by decide +kernel
theorem dL_law_1099 : decode code 1099 = .ok (.ireturn, 1) := by decide +kernel
theorem dL_law_1100 : decode code 1100 = .ok (.aload_n 1, 1) := by decide +kernel
theorem dL_law_1101 : decode code 1101 = .ok (.aload_n 0, 1) := by decide +kernel
theorem dL_law_1102 : decode code 1102 = .ok (.iload_n 3, 1) := by decide +kernel
theorem dL_law_1103 : decode code 1103 = .ok (.iconst 1, 1) := by decide +kernel
theorem dL_law_1104 : decode code 1104 = .ok (.iadd, 1) := by decide +kernel
theorem dL_law_1105 : decode code 1105 = .ok (.iaload, 1) := by decide +kernel
theorem dL_law_1106 : decode code 1106 = .ok (.invokevirtual 146, 3) := by decide +kernel
theorem dL_law_1109 : decode code 1109 = .ok (.aload_n 2, 1) := by decide +kernel
theorem dL_law_1110 : decode code 1110 = .ok (.aload_n 0, 1) := by decide +kernel
theorem dL_law_1111 : decode code 1111 = .ok (.iload_n 3, 1) := by decide +kernel
theorem dL_law_1112 : decode code 1112 = .ok (.iconst 1, 1) := by decide +kernel
theorem dL_law_1113 : decode code 1113 = .ok (.iadd, 1) := by decide +kernel
theorem dL_law_1114 : decode code 1114 = .ok (.iaload, 1) := by decide +kernel
theorem dL_law_1115 : decode code 1115 = .ok (.invokevirtual 149, 3) := by decide +kernel
theorem dL_law_1118 : decode code 1118 = .ok (.if_icmp .eq 356, 3) := by decide +kernel
theorem dL_law_1121 : decode code 1121 = .ok (.iconst 0, 1) := by decide +kernel
theorem dL_law_1122 : decode code 1122 = .ok (.ireturn, 1) := by decide +kernel
theorem dL_law_1123 : decode code 1123 = .ok (.aload_n 1, 1) := by decide +kernel
theorem dL_law_1124 : decode code 1124 = .ok (.invokevirtual 150, 3) := by decide +kernel
theorem dL_law_1127 : decode code 1127 = .ok (.aload_n 2, 1) := by decide +kernel
theorem dL_law_1128 : decode code 1128 = .ok (.invokevirtual 153, 3) := by decide +kernel
theorem dL_law_1131 : decode code 1131 = .ok (.if_icmp .eq 343, 3) := by decide +kernel
theorem dL_law_1134 : decode code 1134 = .ok (.iconst 0, 1) := by decide +kernel
theorem dL_law_1135 : decode code 1135 = .ok (.ireturn, 1) := by decide +kernel
theorem dL_law_1136 : decode code 1136 = .ok (.aload_n 1, 1) := by decide +kernel
theorem dL_law_1137 : decode code 1137 = .ok (.aload_n 0, 1) := by decide +kernel
theorem dL_law_1138 : decode code 1138 = .ok (.iload_n 3, 1) := by decide +kernel
theorem dL_law_1139 : decode code 1139 = .ok (.iconst 1, 1) := by decide +kernel
theorem dL_law_1140 : decode code 1140 = .ok (.iadd, 1) := by decide +kernel
theorem dL_law_1141 : decode code 1141 = .ok (.iaload, 1) := by decide +kernel
theorem dL_law_1142 : decode code 1142 = .ok (.invokevirtual 154, 3) := by decide +kernel
theorem dL_law_1145 : decode code 1145 = .ok (.aload_n 2, 1) := by decide +kernel
theorem dL_law_1146 : decode code 1146 = .ok (.aload_n 0, 1) := by decide +kernel
theorem dL_law_1147 : decode code 1147 = .ok (.iload_n 3, 1) := by decide +kernel
theorem dL_law_1148 : decode code 1148 = .ok (.iconst 1, 1) := by decide +kernel
theorem dL_law_1149 : decode code 1149 = .ok (.iadd, 1) := by decide +kernel
theorem dL_law_1150 : decode code 1150 = .ok (.iaload, 1) := by decide +kernel
theorem dL_law_1151 : decode code 1151 = .ok (.invokevirtual 157, 3) := by decide +kernel
theorem dL_law_1154 : decode code 1154 = .ok (.if_icmp .eq 320, 3) := by decide +kernel
theorem dL_law_1157 : decode code 1157 = .ok (.iconst 0, 1) := by decide +kernel
theorem dL_law_1158 : decode code 1158 = .ok (.ireturn, 1) := by decide +kernel
theorem dL_law_1159 : decode code 1159 = .ok (.aload_n 1, 1) := by decide +kernel
theorem dL_law_1160 : decode code 1160 = .ok (.invokevirtual 158, 3) := by decide +kernel
theorem dL_law_1163 : decode code 1163 = .ok (.aload_n 2, 1) := by decide +kernel
theorem dL_law_1164 : decode code 1164 = .ok (.invokevirtual 161, 3) := by decide +kernel
theorem dL_law_1167 : decode code 1167 = .ok (.if_icmp .eq 307, 3) := by decide +kernel
theorem dL_law_1170 : decode code 1170 = .ok (.iconst 0, 1) := by decide +kernel
theorem dL_law_1171 : decode code 1171 = .ok (.ireturn, 1) := by decide +kernel
theorem dL_law_1172 : decode code 1172 = .ok (.aload_n 1, 1) := by decide +kernel
theorem dL_law_1173 : decode code 1173 = .ok (.aload_n 0, 1) := by decide +kernel
theorem dL_law_1174 : decode code 1174 = .ok (.iload_n 3, 1) := by decide +kernel
theorem dL_law_1175 : decode code 1175 = .ok (.iconst 1, 1) := by decide +kernel
theorem dL_law_1176 : decode code 1176 = .ok (.iadd, 1) := by decide +kernel
theorem dL_law_1177 : decode code 1177 = .ok (.iaload, 1) := by decide +kernel
theorem dL_law_1178 : decode code 1178 = .ok (.invokevirtual 162, 3) := by decide +kernel
theorem dL_law_1181 : decode code 1181 = .ok (.aload_n 2, 1) := by decide +kernel
theorem dL_law_1182 : decode code 1182 = .ok (.aload_n 0, 1) := by decide +kernel
theorem dL_law_1183 : decode code 1183 = .ok (.iload_n 3, 1) := by decide +kernel
theorem dL_law_1184 : decode code 1184 = .ok (.iconst 1, 1) := by decide +kernel
theorem dL_law_1185 : decode code 1185 = .ok (.iadd, 1) := by decide +kernel
theorem dL_law_1186 : decode code 1186 = .ok (.iaload, 1) := by decide +kernel
theorem dL_law_1187 : decode code 1187 = .ok (.invokevirtual 165, 3) := by decide +kernel
theorem dL_law_1190 : decode code 1190 = .ok (.if_icmp .eq 284, 3) := by decide +kernel
theorem dL_law_1193 : decode code 1193 = .ok (.iconst 0, 1) := by decide +kernel
theorem dL_law_1194 : decode code 1194 = .ok (.ireturn, 1) := by decide +kernel
theorem dL_law_1195 : decode code 1195 = .ok (.aload_n 1, 1) := by decide +kernel
theorem dL_law_1196 : decode code 1196 = .ok (.aload_n 0, 1) := by decide +kernel
theorem dL_law_1197 : decode code 1197 = .ok (.iload_n 3, 1) := by decide +kernel
theorem dL_law_1198 : decode code 1198 = .ok (.iconst 1, 1) := by decide +kernel
theorem dL_law_1199 : decode code 1199 = .ok (.iadd, 1) := by decide +kernel
theorem dL_law_1200 : decode code 1200 = .ok (.iaload, 1) := by decide +kernel
theorem dL_law_1201 : decode code 1201 = .ok (.invokevirtual 166, 3) := by decide +kernel
theorem dL_law_1204 : decode code 1204 = .ok (.aload_n 2, 1) := by decide +kernel
theorem dL_law_1205 : decode code 1205 = .ok (.aload_n 0, 1) := by decide +kernel
theorem dL_law_1206 : decode code 1206 = .ok (.iload_n 3, 1) := by decide +kernel
theorem dL_law_1207 : decode code 1207 = .ok (.iconst 1, 1) := by decide +kernel
theorem dL_law_1208 : decode code 1208 = .ok (.iadd, 1) := by decide +kernel
theorem dL_law_1209 : decode code 1209 = .ok (.iaload, 1) := by decide +kernel
theorem dL_law_1210 : decode code 1210 = .ok (.invokevirtual 169, 3) := by decide +kernel
theorem dL_law_1213 : decode code 1213 = .ok (.if_icmp .eq 261, 3) := by decide +kernel
theorem dL_law_1216 : decode code 1216 = .ok (.iconst 0, 1) := by decide +kernel
theorem dL_law_1217 : decode code 1217 = .ok (.ireturn, 1) := by decide +kernel
theorem dL_law_1218 : decode code 1218 = .ok (.aload_n 1, 1) := by decide +kernel
theorem dL_law_1219 : decode code 1219 = .ok (.aload_n 0, 1) := by decide +kernel
theorem dL_law_1220 : decode code 1220 = .ok (.iload_n 3, 1) := by decide +kernel
theorem dL_law_1221 : decode code 1221 = .ok (.iconst 1, 1) := by decide +kernel
theorem dL_law_1222 : decode code 1222 = .ok (.iadd, 1) := by decide +kernel
theorem dL_law_1223 : decode code 1223 = .ok (.iaload, 1) := by decide +kernel
theorem dL_law_1224 : decode code 1224 = .ok (.aload_n 0, 1) := by decide +kernel
theorem dL_law_1225 : decode code 1225 = .ok (.iload_n 3, 1) := by decide +kernel
theorem dL_law_1226 : decode code 1226 = .ok (.iconst 2, 1) := by decide +kernel
theorem dL_law_1227 : decode code 1227 = .ok (.iadd, 1) := by decide +kernel
theorem dL_law_1228 : decode code 1228 = .ok (.iaload, 1) := by decide +kernel
theorem dL_law_1229 : decode code 1229 = .ok (.invokevirtual 170, 3) := by decide +kernel
theorem dL_law_1232 : decode code 1232 = .ok (.aload_n 2, 1) := by decide +kernel
theorem dL_law_1233 : decode code 1233 = .ok (.aload_n 0, 1) := by decide +kernel
theorem dL_law_1234 : decode code 1234 = .ok (.iload_n 3, 1) := by decide +kernel
theorem dL_law_1235 : decode code 1235 = .ok (.iconst 1, 1) := by decide +kernel
theorem dL_law_1236 : decode code 1236 = .ok (.iadd, 1) := by decide +kernel
theorem dL_law_1237 : decode code 1237 = .ok (.iaload, 1) := by decide +kernel
theorem dL_law_1238 : decode code 1238 = .ok (.aload_n 0, 1) := by decide +kernel
theorem dL_law_1239 : decode code 1239 = .ok (.iload_n 3, 1) := by decide +kernel
theorem dL_law_1240 : decode code 1240 = .ok (.iconst 2, 1) := by decide +kernel
theorem dL_law_1241 : decode code 1241 = .ok (.iadd, 1) := by decide +kernel
theorem dL_law_1242 : decode code 1242 = .ok (.iaload, 1) := by decide +kernel
theorem dL_law_1243 : decode code 1243 = .ok (.invokevirtual 173, 3) := by decide +kernel
theorem dL_law_1246 : decode code 1246 = .ok (.if_icmp .eq 228, 3) := by decide +kernel
theorem dL_law_1249 : decode code 1249 = .ok (.iconst 0, 1) := by decide +kernel
theorem dL_law_1250 : decode code 1250 = .ok (.ireturn, 1) := by decide +kernel
theorem dL_law_1251 : decode code 1251 = .ok (.aload_n 1, 1) := by decide +kernel
theorem dL_law_1252 : decode code 1252 = .ok (.aload_n 0, 1) := by decide +kernel
theorem dL_law_1253 : decode code 1253 = .ok (.iload_n 3, 1) := by decide +kernel
theorem dL_law_1254 : decode code 1254 = .ok (.iconst 1, 1) := by decide +kernel
theorem dL_law_1255 : decode code 1255 = .ok (.iadd, 1) := by decide +kernel
theorem dL_law_1256 : decode code 1256 = .ok (.iaload, 1) := by decide +kernel
theorem dL_law_1257 : decode code 1257 = .ok (.aload_n 0, 1) := by decide +kernel
theorem dL_law_1258 : decode code 1258 = .ok (.iload_n 3, 1) := by decide +kernel
theorem dL_law_1259 : decode code 1259 = .ok (.iconst 2, 1) := by decide +kernel
theorem dL_law_1260 : decode code 1260 = .ok (.iadd, 1) := by decide +kernel
theorem dL_law_1261 : decode code 1261 = .ok (.iaload, 1) := by decide +kernel
theorem dL_law_1262 : decode code 1262 = .ok (.invokevirtual 174, 3) := by decide +kernel
theorem dL_law_1265 : decode code 1265 = .ok (.aload_n 2, 1) := by decide +kernel
theorem dL_law_1266 : decode code 1266 = .ok (.aload_n 0, 1) := by decide +kernel
theorem dL_law_1267 : decode code 1267 = .ok (.iload_n 3, 1) := by decide +kernel
theorem dL_law_1268 : decode code 1268 = .ok (.iconst 1, 1) := by decide +kernel
theorem dL_law_1269 : decode code 1269 = .ok (.iadd, 1) := by decide +kernel
theorem dL_law_1270 : decode code 1270 = .ok (.iaload, 1) := by decide +kernel
theorem dL_law_1271 : decode code 1271 = .ok (.aload_n 0, 1) := by decide +kernel
theorem dL_law_1272 : decode code 1272 = .ok (.iload_n 3, 1) := by decide +kernel
theorem dL_law_1273 : decode code 1273 = .ok (.iconst 2, 1) := by decide +kernel
theorem dL_law_1274 : decode code 1274 = .ok (.iadd, 1) := by decide +kernel
theorem dL_law_1275 : decode code 1275 = .ok (.iaload, 1) := by decide +kernel
theorem dL_law_1276 : decode code 1276 = .ok (.invokevirtual 177, 3) := by decide +kernel
theorem dL_law_1279 : decode code 1279 = .ok (.if_icmp .eq 195, 3) := by decide +kernel
theorem dL_law_1282 : decode code 1282 = .ok (.iconst 0, 1) := by decide +kernel
theorem dL_law_1283 : decode code 1283 = .ok (.ireturn, 1) := by decide +kernel
theorem dL_law_1284 : decode code 1284 = .ok (.aload_n 1, 1) := by decide +kernel
theorem dL_law_1285 : decode code 1285 = .ok (.aload_n 0, 1) := by decide +kernel
theorem dL_law_1286 : decode code 1286 = .ok (.iload_n 3, 1) := by decide +kernel
theorem dL_law_1287 : decode code 1287 = .ok (.iconst 1, 1) := by decide +kernel
theorem dL_law_1288 : decode code 1288 = .ok (.iadd, 1) := by decide +kernel
theorem dL_law_1289 : decode code 1289 = .ok (.iaload, 1) := by decide +kernel
theorem dL_law_1290 : decode code 1290 = .ok (.aload_n 0, 1) := by decide +kernel
theorem dL_law_1291 : decode code 1291 = .ok (.iload_n 3, 1) := by decide +kernel
theorem dL_law_1292 : decode code 1292 = .ok (.iconst 2, 1) := by decide +kernel
theorem dL_law_1293 : decode code 1293 = .ok (.iadd, 1) := by decide +kernel
theorem dL_law_1294 : decode code 1294 = .ok (.iaload, 1) := by decide +kernel
theorem dL_law_1295 : decode code 1295 = .ok (.aload_n 0, 1) := by decide +kernel
theorem dL_law_1296 : decode code 1296 = .ok (.iload_n 3, 1) := by decide +kernel
theorem dL_law_1297 : decode code 1297 = .ok (.iconst 3, 1) := by decide +kernel
theorem dL_law_1298 : decode code 1298 = .ok (.iadd, 1) := by decide +kernel
theorem dL_law_1299 : decode code 1299 = .ok (.iaload, 1) := by decide +kernel
theorem dL_law_1300 : decode code 1300 = .ok (.invokevirtual 178, 3) := by decide +kernel
theorem dL_law_1303 : decode code 1303 = .ok (.aload_n 2, 1) := by decide +kernel
theorem dL_law_1304 : decode code 1304 = .ok (.aload_n 0, 1) := by decide +kernel
theorem dL_law_1305 : decode code 1305 = .ok (.iload_n 3, 1) := by decide +kernel
theorem dL_law_1306 : decode code 1306 = .ok (.iconst 1, 1) := by decide +kernel
theorem dL_law_1307 : decode code 1307 = .ok (.iadd, 1) := by decide +kernel
theorem dL_law_1308 : decode code 1308 = .ok (.iaload, 1) := by decide +kernel
theorem dL_law_1309 : decode code 1309 = .ok (.aload_n 0, 1) := by decide +kernel
theorem dL_law_1310 : decode code 1310 = .ok (.iload_n 3, 1) := by decide +kernel
theorem dL_law_1311 : decode code 1311 = .ok (.iconst 2, 1) := by decide +kernel
theorem dL_law_1312 : decode code 1312 = .ok (.iadd, 1) := by decide +kernel
theorem dL_law_1313 : decode code 1313 = .ok (.iaload, 1) := by decide +kernel
theorem dL_law_1314 : decode code 1314 = .ok (.aload_n 0, 1) := by decide +kernel
theorem dL_law_1315 : decode code 1315 = .ok (.iload_n 3, 1) := by decide +kernel
theorem dL_law_1316 : decode code 1316 = .ok (.iconst 3, 1) := by decide +kernel
theorem dL_law_1317 : decode code 1317 = .ok (.iadd, 1) := by decide +kernel
theorem dL_law_1318 : decode code 1318 = .ok (.iaload, 1) := by decide +kernel
theorem dL_law_1319 : decode code 1319 = .ok (.invokevirtual 181, 3) := by decide +kernel
theorem dL_law_1322 : decode code 1322 = .ok (.if_icmp .eq 152, 3) := by decide +kernel
theorem dL_law_1325 : decode code 1325 = .ok (.iconst 0, 1) := by decide +kernel
theorem dL_law_1326 : decode code 1326 = .ok (.ireturn, 1) := by decide +kernel
theorem dL_law_1327 : decode code 1327 = .ok (.aload_n 1, 1) := by decide +kernel
theorem dL_law_1328 : decode code 1328 = .ok (.aload_n 0, 1) := by decide +kernel
theorem dL_law_1329 : decode code 1329 = .ok (.iload_n 3, 1) := by decide +kernel
theorem dL_law_1330 : decode code 1330 = .ok (.iconst 1, 1) := by decide +kernel
theorem dL_law_1331 : decode code 1331 = .ok (.iadd, 1) := by decide +kernel
theorem dL_law_1332 : decode code 1332 = .ok (.iaload, 1) := by decide +kernel
theorem dL_law_1333 : decode code 1333 = .ok (.aload_n 0, 1) := by decide +kernel
theorem dL_law_1334 : decode code 1334 = .ok (.iload_n 3, 1) := by decide +kernel
theorem dL_law_1335 : decode code 1335 = .ok (.iconst 2, 1) := by decide +kernel
theorem dL_law_1336 : decode code 1336 = .ok (.iadd, 1) := by decide +kernel
theorem dL_law_1337 : decode code 1337 = .ok (.iaload, 1) := by decide +kernel
theorem dL_law_1338 : decode code 1338 = .ok (.invokevirtual 182, 3) := by decide +kernel
theorem dL_law_1341 : decode code 1341 = .ok (.aload_n 2, 1) := by decide +kernel
theorem dL_law_1342 : decode code 1342 = .ok (.aload_n 0, 1) := by decide +kernel
theorem dL_law_1343 : decode code 1343 = .ok (.iload_n 3, 1) := by decide +kernel
theorem dL_law_1344 : decode code 1344 = .ok (.iconst 1, 1) := by decide +kernel
theorem dL_law_1345 : decode code 1345 = .ok (.iadd, 1) := by decide +kernel
theorem dL_law_1346 : decode code 1346 = .ok (.iaload, 1) := by decide +kernel
theorem dL_law_1347 : decode code 1347 = .ok (.aload_n 0, 1) := by decide +kernel
theorem dL_law_1348 : decode code 1348 = .ok (.iload_n 3, 1) := by decide +kernel
theorem dL_law_1349 : decode code 1349 = .ok (.iconst 2, 1) := by decide +kernel
theorem dL_law_1350 : decode code 1350 = .ok (.iadd, 1) := by decide +kernel
theorem dL_law_1351 : decode code 1351 = .ok (.iaload, 1) := by decide +kernel
theorem dL_law_1352 : decode code 1352 = .ok (.invokevirtual 185, 3) := by decide +kernel
theorem dL_law_1355 : decode code 1355 = .ok (.if_icmp .eq 119, 3) := by decide +kernel
theorem dL_law_1358 : decode code 1358 = .ok (.iconst 0, 1) := by decide +kernel
theorem dL_law_1359 : decode code 1359 = .ok (.ireturn, 1) := by decide +kernel
theorem dL_law_1360 : decode code 1360 = .ok (.aload_n 1, 1) := by decide +kernel
theorem dL_law_1361 : decode code 1361 = .ok (.invokevirtual 186, 3) := by decide +kernel
theorem dL_law_1364 : decode code 1364 = .ok (.aload_n 2, 1) := by decide +kernel
theorem dL_law_1365 : decode code 1365 = .ok (.invokevirtual 189, 3) := by decide +kernel
theorem dL_law_1368 : decode code 1368 = .ok (.if_icmp .eq 106, 3) := by decide +kernel
theorem dL_law_1371 : decode code 1371 = .ok (.iconst 0, 1) := by decide +kernel
theorem dL_law_1372 : decode code 1372 = .ok (.ireturn, 1) := by decide +kernel
theorem dL_law_1373 : decode code 1373 = .ok (.aload_n 1, 1) := by decide +kernel
theorem dL_law_1374 : decode code 1374 = .ok (.invokevirtual 190, 3) := by decide +kernel
theorem dL_law_1377 : decode code 1377 = .ok (.aload_n 2, 1) := by decide +kernel
theorem dL_law_1378 : decode code 1378 = .ok (.invokevirtual 194, 3) := by decide +kernel
theorem dL_law_1381 : decode code 1381 = .ok (.lcmp, 1) := by decide +kernel
theorem dL_law_1382 : decode code 1382 = .ok (.ifCond .eq 92, 3) := by decide +kernel
theorem dL_law_1385 : decode code 1385 = .ok (.iconst 0, 1) := by decide +kernel
theorem dL_law_1386 : decode code 1386 = .ok (.ireturn, 1) := by decide +kernel
theorem dL_law_1387 : decode code 1387 = .ok (.aload_n 1, 1) := by decide +kernel
theorem dL_law_1388 : decode code 1388 = .ok (.invokevirtual 195, 3) := by decide +kernel
theorem dL_law_1391 : decode code 1391 = .ok (.aload_n 2, 1) := by decide +kernel
theorem dL_law_1392 : decode code 1392 = .ok (.invokevirtual 198, 3) := by decide +kernel
theorem dL_law_1395 : decode code 1395 = .ok (.lcmp, 1) := by decide +kernel
theorem dL_law_1396 : decode code 1396 = .ok (.ifCond .eq 78, 3) := by decide +kernel
theorem dL_law_1399 : decode code 1399 = .ok (.iconst 0, 1) := by decide +kernel
theorem dL_law_1400 : decode code 1400 = .ok (.ireturn, 1) := by decide +kernel
theorem dL_law_1401 : decode code 1401 = .ok (.aload_n 1, 1) := by decide +kernel
theorem dL_law_1402 : decode code 1402 = .ok (.aload_n 0, 1) := by decide +kernel
theorem dL_law_1403 : decode code 1403 = .ok (.iload_n 3, 1) := by decide +kernel
theorem dL_law_1404 : decode code 1404 = .ok (.iconst 1, 1) := by decide +kernel
theorem dL_law_1405 : decode code 1405 = .ok (.iadd, 1) := by decide +kernel
theorem dL_law_1406 : decode code 1406 = .ok (.iaload, 1) := by decide +kernel
theorem dL_law_1407 : decode code 1407 = .ok (.invokevirtual 199, 3) := by decide +kernel
theorem dL_law_1410 : decode code 1410 = .ok (.aload_n 2, 1) := by decide +kernel
theorem dL_law_1411 : decode code 1411 = .ok (.aload_n 0, 1) := by decide +kernel
theorem dL_law_1412 : decode code 1412 = .ok (.iload_n 3, 1) := by decide +kernel
theorem dL_law_1413 : decode code 1413 = .ok (.iconst 1, 1) := by decide +kernel
theorem dL_law_1414 : decode code 1414 = .ok (.iadd, 1) := by decide +kernel
theorem dL_law_1415 : decode code 1415 = .ok (.iaload, 1) := by decide +kernel
theorem dL_law_1416 : decode code 1416 = .ok (.invokevirtual 202, 3) := by decide +kernel
theorem dL_law_1419 : decode code 1419 = .ok (.if_icmp .eq 55, 3) := by decide +kernel
theorem dL_law_1422 : decode code 1422 = .ok (.iconst 0, 1) := by decide +kernel
theorem dL_law_1423 : decode code 1423 = .ok (.ireturn, 1) := by decide +kernel
theorem dL_law_1424 : decode code 1424 = .ok (.aload_n 1, 1) := by decide +kernel
theorem dL_law_1425 : decode code 1425 = .ok (.invokevirtual 203, 3) := by decide +kernel
theorem dL_law_1428 : decode code 1428 = .ok (.aload_n 2, 1) := by decide +kernel
theorem dL_law_1429 : decode code 1429 = .ok (.invokevirtual 206, 3) := by decide +kernel
theorem dL_law_1432 : decode code 1432 = .ok (.if_icmp .eq 42, 3) := by decide +kernel
theorem dL_law_1435 : decode code 1435 = .ok (.iconst 0, 1) := by decide +kernel
theorem dL_law_1436 : decode code 1436 = .ok (.ireturn, 1) := by decide +kernel
theorem dL_law_1437 : decode code 1437 = .ok (.aload_n 1, 1) := by decide +kernel
theorem dL_law_1438 : decode code 1438 = .ok (.aload_n 0, 1) := by decide +kernel
theorem dL_law_1439 : decode code 1439 = .ok (.iload_n 3, 1) := by decide +kernel
theorem dL_law_1440 : decode code 1440 = .ok (.iconst 1, 1) := by decide +kernel
theorem dL_law_1441 : decode code 1441 = .ok (.iadd, 1) := by decide +kernel
theorem dL_law_1442 : decode code 1442 = .ok (.iaload, 1) := by decide +kernel
theorem dL_law_1443 : decode code 1443 = .ok (.invokevirtual 207, 3) := by decide +kernel
theorem dL_law_1446 : decode code 1446 = .ok (.aload_n 2, 1) := by decide +kernel
theorem dL_law_1447 : decode code 1447 = .ok (.aload_n 0, 1) := by decide +kernel
theorem dL_law_1448 : decode code 1448 = .ok (.iload_n 3, 1) := by decide +kernel
theorem dL_law_1449 : decode code 1449 = .ok (.iconst 1, 1) := by decide +kernel
theorem dL_law_1450 : decode code 1450 = .ok (.iadd, 1) := by decide +kernel
theorem dL_law_1451 : decode code 1451 = .ok (.iaload, 1) := by decide +kernel
theorem dL_law_1452 : decode code 1452 = .ok (.invokevirtual 210, 3) := by decide +kernel
theorem dL_law_1455 : decode code 1455 = .ok (.if_icmp .eq 19, 3) := by decide +kernel
theorem dL_law_1458 : decode code 1458 = .ok (.iconst 0, 1) := by decide +kernel
theorem dL_law_1459 : decode code 1459 = .ok (.ireturn, 1) := by decide +kernel
theorem dL_law_1460 : decode code 1460 = .ok (.aload_n 1, 1) := by decide +kernel
theorem dL_law_1461 : decode code 1461 = .ok (.invokevirtual 211, 3) := by decide +kernel
theorem dL_law_1464 : decode code 1464 = .ok (.aload_n 2, 1) := by decide +kernel
theorem dL_law_1465 : decode code 1465 = .ok (.invokevirtual 214, 3) := by decide +kernel
theorem dL_law_1468 : decode code 1468 = .ok (.lcmp, 1) := by decide +kernel
theorem dL_law_1469 : decode code 1469 = .ok (.ifCond .eq 5, 3) := by decide +kernel
theorem dL_law_1472 : decode code 1472 = .ok (.iconst 0, 1) := by decide +kernel
theorem dL_law_1473 : decode code 1473 = .ok (.ireturn, 1) := by decide +kernel
theorem dL_law_1474 : decode code 1474 = .ok (.iinc 3 6, 3) := by decide +kernel
theorem dL_law_1477 : decode code 1477 = .ok (.goto (-1459), 3) := by decide +kernel
theorem dL_law_1480 : decode code 1480 = .ok (.iconst 1, 1) := by decide +kernel
theorem dL_law_1481 : decode code 1481 = .ok (.ireturn, 1) := by decide +kernel
