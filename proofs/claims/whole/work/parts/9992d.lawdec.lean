theorem dL_law_1084 : decode code 1084 = .ok (.iaload, 1) := by decide +kernel
theorem dL_law_1085 : decode code 1085 = .ok (.aload_n 0, 1) := by decide +kernel
theorem dL_law_1086 : decode code 1086 = .ok (.iload 4, 2) := by decide +kernel
theorem dL_law_1088 : decode code 1088 = .ok (.iconst 3, 1) := by decide +kernel
theorem dL_law_1089 : decode code 1089 = .ok (.iadd, 1) := by decide +kernel
theorem dL_law_1090 : decode code 1090 = .ok (.iaload, 1) := by decide +kernel
theorem dL_law_1091 : decode code 1091 = .ok (.invokevirtual 166, 3) := by decide +kernel
theorem dL_law_1094 : decode code 1094 = .ok (.aload_n 2, 1) := by decide +kernel
theorem dL_law_1095 : decode code 1095 = .ok (.invokevirtual 118, 3) := by decide +kernel
theorem dL_law_1098 : decode code 1098 = .ok (.iload 5, 2) := by decide +kernel
theorem dL_law_1100 : decode code 1100 = .ok (.if_icmp .eq 5, 3) := by decide +kernel
theorem dL_law_1103 : decode code 1103 = .ok (.iconst 0, 1) := by decide +kernel
theorem dL_law_1104 : decode code 1104 = .ok (.ireturn, 1) := by decide +kernel
theorem dL_law_1105 : decode code 1105 = .ok (.goto 701, 3) := by decide +kernel
theorem dL_law_1108 : decode code 1108 = .ok (.aload_n 1, 1) := by decide +kernel
theorem dL_law_1109 : decode code 1109 = .ok (.aload_n 0, 1) := by decide +kernel
theorem dL_law_1110 : decode code 1110 = .ok (.iload 4, 2) := by decide +kernel
theorem dL_law_1112 : decode code 1112 = .ok (.iconst 1, 1) := by decide +kernel
theorem dL_law_1113 : decode code 1113 = .ok (.iadd, 1) := by decide +kernel
theorem dL_law_1114 : decode code 1114 = .ok (.iaload, 1) := by decide +kernel
theorem dL_law_1115 : decode code 1115 = .ok (.aload_n 0, 1) := by decide +kernel
theorem dL_law_1116 : decode code 1116 = .ok (.iload 4, 2) := by decide +kernel
theorem dL_law_1118 : decode code 1118 = .ok (.iconst 2, 1) := by decide +kernel
theorem dL_law_1119 : decode code 1119 = .ok (.iadd, 1) := by decide +kernel
theorem dL_law_1120 : decode code 1120 = .ok (.iaload, 1) := by decide +kernel
theorem dL_law_1121 : decode code 1121 = .ok (.aload_n 0, 1) := by decide +kernel
theorem dL_law_1122 : decode code 1122 = .ok (.iload 4, 2) := by decide +kernel
theorem dL_law_1124 : decode code 1124 = .ok (.iconst 3, 1) := by decide +kernel
theorem dL_law_1125 : decode code 1125 = .ok (.iadd, 1) := by decide +kernel
theorem dL_law_1126 : decode code 1126 = .ok (.iaload, 1) := by decide +kernel
theorem dL_law_1127 : decode code 1127 = .ok (.invokestatic 167, 3) := by decide +kernel
theorem dL_law_1130 : decode code 1130 = .ok (.istore 5, 2) := by decide +kernel
theorem dL_law_1132 : decode code 1132 = .ok (.aload_n 2, 1) := by decide +kernel
theorem dL_law_1133 : decode code 1133 = .ok (.aload_n 0, 1) := by decide +kernel
theorem dL_law_1134 : decode code 1134 = .ok (.iload 4, 2) := by decide +kernel
theorem dL_law_1136 : decode code 1136 = .ok (.iconst 1, 1) := by decide +kernel
theorem dL_law_1137 : decode code 1137 = .ok (.iadd, 1) := by decide +kernel
theorem dL_law_1138 : decode code 1138 = .ok (.iaload, 1) := by decide +kernel
theorem dL_law_1139 : decode code 1139 = .ok (.aload_n 0, 1) := by decide +kernel
theorem dL_law_1140 : decode code 1140 = .ok (.iload 4, 2) := by decide +kernel
theorem dL_law_1142 : decode code 1142 = .ok (.iconst 2, 1) := by decide +kernel
theorem dL_law_1143 : decode code 1143 = .ok (.iadd, 1) := by decide +kernel
theorem dL_law_1144 : decode code 1144 = .ok (.iaload, 1) := by decide +kernel
theorem dL_law_1145 : decode code 1145 = .ok (.aload_n 0, 1) := by decide +kernel
theorem dL_law_1146 : decode code 1146 = .ok (.iload 4, 2) := by decide +kernel
theorem dL_law_1148 : decode code 1148 = .ok (.iconst 3, 1) := by decide +kernel
theorem dL_law_1149 : decode code 1149 = .ok (.iadd, 1) := by decide +kernel
theorem dL_law_1150 : decode code 1150 = .ok (.iaload, 1) := by decide +kernel
theorem dL_law_1151 : decode code 1151 = .ok (.invokevirtual 169, 3) := by decide +kernel
theorem dL_law_1154 : decode code 1154 = .ok (.aload_n 2, 1) := by decide +kernel
theorem dL_law_1155 : decode code 1155 = .ok (.invokevirtual 118, 3) := by decide +kernel
theorem dL_law_1158 : decode code 1158 = .ok (.iload 5, 2) := by decide +kernel
theorem dL_law_1160 : decode code 1160 = .ok (.if_icmp .eq 5, 3) := by decide +kernel
theorem dL_law_1163 : decode code 1163 = .ok (.iconst 0, 1) := by decide +kernel
theorem dL_law_1164 : decode code 1164 = .ok (.ireturn, 1) := by decide +kernel
theorem dL_law_1165 : decode code 1165 = .ok (.goto 641, 3) := by decide +kernel
theorem dL_law_1168 : decode code 1168 = .ok (.aload_n 1, 1) := by decide +kernel
theorem dL_law_1169 : decode code 1169 = .ok (.aload_n 0, 1) := by decide +kernel
theorem dL_law_1170 : decode code 1170 = .ok (.iload 4, 2) := by decide +kernel
theorem dL_law_1172 : decode code 1172 = .ok (.iconst 1, 1) := by decide +kernel
theorem dL_law_1173 : decode code 1173 = .ok (.iadd, 1) := by decide +kernel
theorem dL_law_1174 : decode code 1174 = .ok (.iaload, 1) := by decide +kernel
theorem dL_law_1175 : decode code 1175 = .ok (.aload_n 0, 1) := by decide +kernel
theorem dL_law_1176 : decode code 1176 = .ok (.iload 4, 2) := by decide +kernel
theorem dL_law_1178 : decode code 1178 = .ok (.iconst 2, 1) := by decide +kernel
theorem dL_law_1179 : decode code 1179 = .ok (.iadd, 1) := by decide +kernel
theorem dL_law_1180 : decode code 1180 = .ok (.iaload, 1) := by decide +kernel
theorem dL_law_1181 : decode code 1181 = .ok (.aload_n 3, 1) := by decide +kernel
theorem dL_law_1182 : decode code 1182 = .ok (.invokestatic 170, 3) := by decide +kernel
theorem dL_law_1185 : decode code 1185 = .ok (.istore 5, 2) := by decide +kernel
theorem dL_law_1187 : decode code 1187 = .ok (.aload_n 2, 1) := by decide +kernel
theorem dL_law_1188 : decode code 1188 = .ok (.aload_n 0, 1) := by decide +kernel
theorem dL_law_1189 : decode code 1189 = .ok (.iload 4, 2) := by decide +kernel
theorem dL_law_1191 : decode code 1191 = .ok (.iconst 1, 1) := by decide +kernel
theorem dL_law_1192 : decode code 1192 = .ok (.iadd, 1) := by decide +kernel
theorem dL_law_1193 : decode code 1193 = .ok (.iaload, 1) := by decide +kernel
theorem dL_law_1194 : decode code 1194 = .ok (.aload_n 0, 1) := by decide +kernel
theorem dL_law_1195 : decode code 1195 = .ok (.iload 4, 2) := by decide +kernel
theorem dL_law_1197 : decode code 1197 = .ok (.iconst 2, 1) := by decide +kernel
theorem dL_law_1198 : decode code 1198 = .ok (.iadd, 1) := by decide +kernel
theorem dL_law_1199 : decode code 1199 = .ok (.iaload, 1) := by decide +kernel
theorem dL_law_1200 : decode code 1200 = .ok (.invokevirtual 172, 3) := by decide +kernel
theorem dL_law_1203 : decode code 1203 = .ok (.istore 6, 2) := by decide +kernel
theorem dL_law_1205 : decode code 1205 = .ok (.aload_n 2, 1) := by decide +kernel
theorem dL_law_1206 : decode code 1206 = .ok (.invokevirtual 118, 3) := by decide +kernel
theorem dL_law_1209 : decode code 1209 = .ok (.iload 5, 2) := by decide +kernel
theorem dL_law_1211 : decode code 1211 = .ok (.if_icmp .eq 5, 3) := by decide +kernel
theorem dL_law_1214 : decode code 1214 = .ok (.iconst 0, 1) := by decide +kernel
theorem dL_law_1215 : decode code 1215 = .ok (.ireturn, 1) := by decide +kernel
theorem dL_law_1216 : decode code 1216 = .ok (.iload 5, 2) := by decide +kernel
theorem dL_law_1218 : decode code 1218 = .ok (.ifCond .ne 15, 3) := by decide +kernel
theorem dL_law_1221 : decode code 1221 = .ok (.aload_n 3, 1) := by decide +kernel
theorem dL_law_1222 : decode code 1222 = .ok (.iconst 0, 1) := by decide +kernel
theorem dL_law_1223 : decode code 1223 = .ok (.laload, 1) := by decide +kernel
theorem dL_law_1224 : decode code 1224 = .ok (.iload 6, 2) := by decide +kernel
theorem dL_law_1226 : decode code 1226 = .ok (.i2l, 1) := by decide +kernel
theorem dL_law_1227 : decode code 1227 = .ok (.lcmp, 1) := by decide +kernel
theorem dL_law_1228 : decode code 1228 = .ok (.ifCond .eq 5, 3) := by decide +kernel
theorem dL_law_1231 : decode code 1231 = .ok (.iconst 0, 1) := by decide +kernel
theorem dL_law_1232 : decode code 1232 = .ok (.ireturn, 1) := by decide +kernel
theorem dL_law_1233 : decode code 1233 = .ok (.goto 573, 3) := by decide +kernel
theorem dL_law_1236 : decode code 1236 = .ok (.aload_n 1, 1) := by decide +kernel
theorem dL_law_1237 : decode code 1237 = .ok (.aload_n 0, 1) := by decide +kernel
theorem dL_law_1238 : decode code 1238 = .ok (.iload 4, 2) := by decide +kernel
theorem dL_law_1240 : decode code 1240 = .ok (.iconst 1, 1) := by decide +kernel
theorem dL_law_1241 : decode code 1241 = .ok (.iadd, 1) := by decide +kernel
theorem dL_law_1242 : decode code 1242 = .ok (.iaload, 1) := by decide +kernel
theorem dL_law_1243 : decode code 1243 = .ok (.aload_n 0, 1) := by decide +kernel
theorem dL_law_1244 : decode code 1244 = .ok (.iload 4, 2) := by decide +kernel
theorem dL_law_1246 : decode code 1246 = .ok (.iconst 2, 1) := by decide +kernel
theorem dL_law_1247 : decode code 1247 = .ok (.iadd, 1) := by decide +kernel
theorem dL_law_1248 : decode code 1248 = .ok (.iaload, 1) := by decide +kernel
theorem dL_law_1249 : decode code 1249 = .ok (.aload_n 3, 1) := by decide +kernel
theorem dL_law_1250 : decode code 1250 = .ok (.invokestatic 173, 3) := by decide +kernel
theorem dL_law_1253 : decode code 1253 = .ok (.istore 5, 2) := by decide +kernel
theorem dL_law_1255 : decode code 1255 = .ok (.aload_n 2, 1) := by decide +kernel
theorem dL_law_1256 : decode code 1256 = .ok (.aload_n 0, 1) := by decide +kernel
theorem dL_law_1257 : decode code 1257 = .ok (.iload 4, 2) := by decide +kernel
theorem dL_law_1259 : decode code 1259 = .ok (.iconst 1, 1) := by decide +kernel
theorem dL_law_1260 : decode code 1260 = .ok (.iadd, 1) := by decide +kernel
theorem dL_law_1261 : decode code 1261 = .ok (.iaload, 1) := by decide +kernel
theorem dL_law_1262 : decode code 1262 = .ok (.aload_n 0, 1) := by decide +kernel
theorem dL_law_1263 : decode code 1263 = .ok (.iload 4, 2) := by decide +kernel
theorem dL_law_1265 : decode code 1265 = .ok (.iconst 2, 1) := by decide +kernel
theorem dL_law_1266 : decode code 1266 = .ok (.iadd, 1) := by decide +kernel
theorem dL_law_1267 : decode code 1267 = .ok (.iaload, 1) := by decide +kernel
theorem dL_law_1268 : decode code 1268 = .ok (.invokevirtual 175, 3) := by decide +kernel
theorem dL_law_1271 : decode code 1271 = .ok (.istore 6, 2) := by decide +kernel
theorem dL_law_1273 : decode code 1273 = .ok (.aload_n 2, 1) := by decide +kernel
theorem dL_law_1274 : decode code 1274 = .ok (.invokevirtual 118, 3) := by decide +kernel
theorem dL_law_1277 : decode code 1277 = .ok (.iload 5, 2) := by decide +kernel
theorem dL_law_1279 : decode code 1279 = .ok (.if_icmp .eq 5, 3) := by decide +kernel
theorem dL_law_1282 : decode code 1282 = .ok (.iconst 0, 1) := by decide +kernel
theorem dL_law_1283 : decode code 1283 = .ok (.ireturn, 1) := by decide +kernel
theorem dL_law_1284 : decode code 1284 = .ok (.iload 5, 2) := by decide +kernel
theorem dL_law_1286 : decode code 1286 = .ok (.ifCond .ne 15, 3) := by decide +kernel
theorem dL_law_1289 : decode code 1289 = .ok (.aload_n 3, 1) := by decide +kernel
theorem dL_law_1290 : decode code 1290 = .ok (.iconst 0, 1) := by decide +kernel
theorem dL_law_1291 : decode code 1291 = .ok (.laload, 1) := by decide +kernel
theorem dL_law_1292 : decode code 1292 = .ok (.iload 6, 2) := by decide +kernel
theorem dL_law_1294 : decode code 1294 = .ok (.i2l, 1) := by decide +kernel
theorem dL_law_1295 : decode code 1295 = .ok (.lcmp, 1) := by decide +kernel
theorem dL_law_1296 : decode code 1296 = .ok (.ifCond .eq 5, 3) := by decide +kernel
theorem dL_law_1299 : decode code 1299 = .ok (.iconst 0, 1) := by decide +kernel
theorem dL_law_1300 : decode code 1300 = .ok (.ireturn, 1) := by decide +kernel
theorem dL_law_1301 : decode code 1301 = .ok (.goto 505, 3) := by decide +kernel
theorem dL_law_1304 : decode code 1304 = .ok (.aload_n 1, 1) := by decide +kernel
theorem dL_law_1305 : decode code 1305 = .ok (.aload_n 0, 1) := by decide +kernel
theorem dL_law_1306 : decode code 1306 = .ok (.iload 4, 2) := by decide +kernel
theorem dL_law_1308 : decode code 1308 = .ok (.iconst 1, 1) := by decide +kernel
theorem dL_law_1309 : decode code 1309 = .ok (.iadd, 1) := by decide +kernel
theorem dL_law_1310 : decode code 1310 = .ok (.iaload, 1) := by decide +kernel
theorem dL_law_1311 : decode code 1311 = .ok (.aload_n 0, 1) := by decide +kernel
theorem dL_law_1312 : decode code 1312 = .ok (.iload 4, 2) := by decide +kernel
theorem dL_law_1314 : decode code 1314 = .ok (.iconst 2, 1) := by decide +kernel
theorem dL_law_1315 : decode code 1315 = .ok (.iadd, 1) := by decide +kernel
theorem dL_law_1316 : decode code 1316 = .ok (.iaload, 1) := by decide +kernel
theorem dL_law_1317 : decode code 1317 = .ok (.aload_n 3, 1) := by decide +kernel
theorem dL_law_1318 : decode code 1318 = .ok (.invokestatic 176, 3) := by decide +kernel
theorem dL_law_1321 : decode code 1321 = .ok (.istore 5, 2) := by decide +kernel
theorem dL_law_1323 : decode code 1323 = .ok (.aload_n 2, 1) := by decide +kernel
theorem dL_law_1324 : decode code 1324 = .ok (.aload_n 0, 1) := by decide +kernel
theorem dL_law_1325 : decode code 1325 = .ok (.iload 4, 2) := by decide +kernel
theorem dL_law_1327 : decode code 1327 = .ok (.iconst 1, 1) := by decide +kernel
theorem dL_law_1328 : decode code 1328 = .ok (.iadd, 1) := by decide +kernel
theorem dL_law_1329 : decode code 1329 = .ok (.iaload, 1) := by decide +kernel
theorem dL_law_1330 : decode code 1330 = .ok (.aload_n 0, 1) := by decide +kernel
theorem dL_law_1331 : decode code 1331 = .ok (.iload 4, 2) := by decide +kernel
theorem dL_law_1333 : decode code 1333 = .ok (.iconst 2, 1) := by decide +kernel
theorem dL_law_1334 : decode code 1334 = .ok (.iadd, 1) := by decide +kernel
theorem dL_law_1335 : decode code 1335 = .ok (.iaload, 1) := by decide +kernel
theorem dL_law_1336 : decode code 1336 = .ok (.invokevirtual 178, 3) := by decide +kernel
theorem dL_law_1339 : decode code 1339 = .ok (.istore 6, 2) := by decide +kernel
theorem dL_law_1341 : decode code 1341 = .ok (.aload_n 2, 1) := by decide +kernel
theorem dL_law_1342 : decode code 1342 = .ok (.invokevirtual 118, 3) := by decide +kernel
theorem dL_law_1345 : decode code 1345 = .ok (.iload 5, 2) := by decide +kernel
theorem dL_law_1347 : decode code 1347 = .ok (.if_icmp .eq 5, 3) := by decide +kernel
theorem dL_law_1350 : decode code 1350 = .ok (.iconst 0, 1) := by decide +kernel
theorem dL_law_1351 : decode code 1351 = .ok (.ireturn, 1) := by decide +kernel
theorem dL_law_1352 : decode code 1352 = .ok (.iload 5, 2) := by decide +kernel
theorem dL_law_1354 : decode code 1354 = .ok (.ifCond .ne 15, 3) := by decide +kernel
theorem dL_law_1357 : decode code 1357 = .ok (.aload_n 3, 1) := by decide +kernel
theorem dL_law_1358 : decode code 1358 = .ok (.iconst 0, 1) := by decide +kernel
theorem dL_law_1359 : decode code 1359 = .ok (.laload, 1) := by decide +kernel
theorem dL_law_1360 : decode code 1360 = .ok (.iload 6, 2) := by decide +kernel
theorem dL_law_1362 : decode code 1362 = .ok (.i2l, 1) := by decide +kernel
theorem dL_law_1363 : decode code 1363 = .ok (.lcmp, 1) := by decide +kernel
theorem dL_law_1364 : decode code 1364 = .ok (.ifCond .eq 5, 3) := by decide +kernel
theorem dL_law_1367 : decode code 1367 = .ok (.iconst 0, 1) := by decide +kernel
theorem dL_law_1368 : decode code 1368 = .ok (.ireturn, 1) := by decide +kernel
theorem dL_law_1369 : decode code 1369 = .ok (.goto 437, 3) := by decide +kernel
theorem dL_law_1372 : decode code 1372 = .ok (.aload_n 1, 1) := by decide +kernel
theorem dL_law_1373 : decode code 1373 = .ok (.aload_n 0, 1) := by decide +kernel
theorem dL_law_1374 : decode code 1374 = .ok (.iload 4, 2) := by decide +kernel
theorem dL_law_1376 : decode code 1376 = .ok (.iconst 1, 1) := by decide +kernel
theorem dL_law_1377 : decode code 1377 = .ok (.iadd, 1) := by decide +kernel
theorem dL_law_1378 : decode code 1378 = .ok (.iaload, 1) := by decide +kernel
theorem dL_law_1379 : decode code 1379 = .ok (.aload_n 0, 1) := by decide +kernel
theorem dL_law_1380 : decode code 1380 = .ok (.iload 4, 2) := by decide +kernel
theorem dL_law_1382 : decode code 1382 = .ok (.iconst 2, 1) := by decide +kernel
theorem dL_law_1383 : decode code 1383 = .ok (.iadd, 1) := by decide +kernel
theorem dL_law_1384 : decode code 1384 = .ok (.iaload, 1) := by decide +kernel
theorem dL_law_1385 : decode code 1385 = .ok (.aload_n 3, 1) := by decide +kernel
theorem dL_law_1386 : decode code 1386 = .ok (.invokestatic 179, 3) := by decide +kernel
theorem dL_law_1389 : decode code 1389 = .ok (.istore 5, 2) := by decide +kernel
theorem dL_law_1391 : decode code 1391 = .ok (.aload_n 2, 1) := by decide +kernel
theorem dL_law_1392 : decode code 1392 = .ok (.aload_n 0, 1) := by decide +kernel
theorem dL_law_1393 : decode code 1393 = .ok (.iload 4, 2) := by decide +kernel
theorem dL_law_1395 : decode code 1395 = .ok (.iconst 1, 1) := by decide +kernel
theorem dL_law_1396 : decode code 1396 = .ok (.iadd, 1) := by decide +kernel
theorem dL_law_1397 : decode code 1397 = .ok (.iaload, 1) := by decide +kernel
theorem dL_law_1398 : decode code 1398 = .ok (.aload_n 0, 1) := by decide +kernel
theorem dL_law_1399 : decode code 1399 = .ok (.iload 4, 2) := by decide +kernel
theorem dL_law_1401 : decode code 1401 = .ok (.iconst 2, 1) := by decide +kernel
theorem dL_law_1402 : decode code 1402 = .ok (.iadd, 1) := by decide +kernel
theorem dL_law_1403 : decode code 1403 = .ok (.iaload, 1) := by decide +kernel
theorem dL_law_1404 : decode code 1404 = .ok (.invokevirtual 181, 3) := by decide +kernel
theorem dL_law_1407 : decode code 1407 = .ok (.istore 6, 2) := by decide +kernel
theorem dL_law_1409 : decode code 1409 = .ok (.aload_n 2, 1) := by decide +kernel
theorem dL_law_1410 : decode code 1410 = .ok (.invokevirtual 118, 3) := by decide +kernel
