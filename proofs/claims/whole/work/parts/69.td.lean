/-! the law (by wip/tools/gen_law.py) -/
section TA3
variable {xs : Nat → Int32} {L N K i d mc ms c s : Nat} {D : am_D} {Q : am_O → am_AH → Prop}
theorem r287_1094 : am_at 287 1094 = some (.aload_n 1, 1, [1]) := by decide +kernel
theorem r287_1095 : am_at 287 1095 = some (.aload_n 0, 1, [0]) := by decide +kernel
theorem r287_1096 : am_at 287 1096 = some (.iload 5, 2, [5]) := by decide +kernel
theorem r287_1098 : am_at 287 1098 = some (.iconst (1), 1, []) := by decide +kernel
theorem r287_1099 : am_at 287 1099 = some (.iadd, 1, []) := by decide +kernel
theorem r287_1100 : am_at 287 1100 = some (.iaload, 1, []) := by decide +kernel
theorem r287_1101 : am_at 287 1101 = some (.aload_n 0, 1, [0]) := by decide +kernel
theorem r287_1102 : am_at 287 1102 = some (.iload 5, 2, [5]) := by decide +kernel
theorem r287_1104 : am_at 287 1104 = some (.iconst (2), 1, []) := by decide +kernel
theorem r287_1105 : am_at 287 1105 = some (.iadd, 1, []) := by decide +kernel
theorem r287_1106 : am_at 287 1106 = some (.iaload, 1, []) := by decide +kernel
theorem r287_1107 : am_at 287 1107 = some (.aload_n 3, 1, [3]) := by decide +kernel
theorem r287_1108 : am_at 287 1108 = some (.invokestatic 171, 3, [276, 4, 1136, 0]) := by decide +kernel
theorem r287_1111 : am_at 287 1111 = some (.istore 6, 2, [6]) := by decide +kernel
theorem r287_1113 : am_at 287 1113 = some (.aload_n 2, 1, [2]) := by decide +kernel
theorem r287_1114 : am_at 287 1114 = some (.aload_n 0, 1, [0]) := by decide +kernel
theorem r287_1115 : am_at 287 1115 = some (.iload 5, 2, [5]) := by decide +kernel
theorem r287_1117 : am_at 287 1117 = some (.iconst (1), 1, []) := by decide +kernel
theorem r287_1118 : am_at 287 1118 = some (.iadd, 1, []) := by decide +kernel
theorem r287_1119 : am_at 287 1119 = some (.iaload, 1, []) := by decide +kernel
theorem r287_1120 : am_at 287 1120 = some (.aload_n 0, 1, [0]) := by decide +kernel
theorem r287_1121 : am_at 287 1121 = some (.iload 5, 2, [5]) := by decide +kernel
theorem r287_1123 : am_at 287 1123 = some (.iconst (2), 1, []) := by decide +kernel
theorem r287_1124 : am_at 287 1124 = some (.iadd, 1, []) := by decide +kernel
theorem r287_1125 : am_at 287 1125 = some (.iaload, 1, []) := by decide +kernel
theorem r287_1126 : am_at 287 1126 = some (.invokevirtual 173, 3, [109, 3, 1544, 0]) := by decide +kernel
theorem r287_1129 : am_at 287 1129 = some (.istore 7, 2, [7]) := by decide +kernel
theorem r287_1131 : am_at 287 1131 = some (.aload_n 2, 1, [2]) := by decide +kernel
theorem r287_1132 : am_at 287 1132 = some (.invokevirtual 112, 3, [45, 1, 1294, 0]) := by decide +kernel
theorem r287_1135 : am_at 287 1135 = some (.iload 6, 2, [6]) := by decide +kernel
theorem r287_1137 : am_at 287 1137 = some (.if_icmp .eq (5), 3, [1142]) := by decide +kernel
theorem r287_1140 : am_at 287 1140 = some (.iconst (0), 1, []) := by decide +kernel
theorem r287_1141 : am_at 287 1141 = some (.ireturn, 1, []) := by decide +kernel
theorem r287_1142 : am_at 287 1142 = some (.iload 6, 2, [6]) := by decide +kernel
theorem r287_1144 : am_at 287 1144 = some (.ifCond .ne (15), 3, [1159]) := by decide +kernel
theorem r287_1147 : am_at 287 1147 = some (.aload_n 3, 1, [3]) := by decide +kernel
theorem r287_1148 : am_at 287 1148 = some (.iconst (0), 1, []) := by decide +kernel
theorem r287_1149 : am_at 287 1149 = some (.laload, 1, []) := by decide +kernel
theorem r287_1150 : am_at 287 1150 = some (.iload 7, 2, [7]) := by decide +kernel
theorem r287_1152 : am_at 287 1152 = some (.i2l, 1, []) := by decide +kernel
theorem r287_1153 : am_at 287 1153 = some (.lcmp, 1, []) := by decide +kernel
theorem r287_1154 : am_at 287 1154 = some (.ifCond .eq (5), 3, [1159]) := by decide +kernel
theorem r287_1157 : am_at 287 1157 = some (.iconst (0), 1, []) := by decide +kernel
theorem r287_1158 : am_at 287 1158 = some (.ireturn, 1, []) := by decide +kernel
theorem r287_1159 : am_at 287 1159 = some (.goto (797), 3, [1956]) := by decide +kernel
theorem r287_1162 : am_at 287 1162 = some (.aload_n 1, 1, [1]) := by decide +kernel
theorem r287_1163 : am_at 287 1163 = some (.aload_n 0, 1, [0]) := by decide +kernel
theorem r287_1164 : am_at 287 1164 = some (.iload 5, 2, [5]) := by decide +kernel
theorem r287_1166 : am_at 287 1166 = some (.iconst (1), 1, []) := by decide +kernel
theorem r287_1167 : am_at 287 1167 = some (.iadd, 1, []) := by decide +kernel
theorem r287_1168 : am_at 287 1168 = some (.iaload, 1, []) := by decide +kernel
theorem r287_1169 : am_at 287 1169 = some (.aload_n 0, 1, [0]) := by decide +kernel
theorem r287_1170 : am_at 287 1170 = some (.iload 5, 2, [5]) := by decide +kernel
theorem r287_1172 : am_at 287 1172 = some (.iconst (2), 1, []) := by decide +kernel
theorem r287_1173 : am_at 287 1173 = some (.iadd, 1, []) := by decide +kernel
theorem r287_1174 : am_at 287 1174 = some (.iaload, 1, []) := by decide +kernel
theorem r287_1175 : am_at 287 1175 = some (.aload_n 3, 1, [3]) := by decide +kernel
theorem r287_1176 : am_at 287 1176 = some (.invokestatic 174, 3, [277, 4, 1148, 0]) := by decide +kernel
theorem r287_1179 : am_at 287 1179 = some (.istore 6, 2, [6]) := by decide +kernel
theorem r287_1181 : am_at 287 1181 = some (.aload_n 2, 1, [2]) := by decide +kernel
theorem r287_1182 : am_at 287 1182 = some (.aload_n 0, 1, [0]) := by decide +kernel
theorem r287_1183 : am_at 287 1183 = some (.iload 5, 2, [5]) := by decide +kernel
theorem r287_1185 : am_at 287 1185 = some (.iconst (1), 1, []) := by decide +kernel
theorem r287_1186 : am_at 287 1186 = some (.iadd, 1, []) := by decide +kernel
theorem r287_1187 : am_at 287 1187 = some (.iaload, 1, []) := by decide +kernel
theorem r287_1188 : am_at 287 1188 = some (.aload_n 0, 1, [0]) := by decide +kernel
theorem r287_1189 : am_at 287 1189 = some (.iload 5, 2, [5]) := by decide +kernel
theorem r287_1191 : am_at 287 1191 = some (.iconst (2), 1, []) := by decide +kernel
theorem r287_1192 : am_at 287 1192 = some (.iadd, 1, []) := by decide +kernel
theorem r287_1193 : am_at 287 1193 = some (.iaload, 1, []) := by decide +kernel
theorem r287_1194 : am_at 287 1194 = some (.invokevirtual 176, 3, [111, 3, 1548, 0]) := by decide +kernel
theorem r287_1197 : am_at 287 1197 = some (.istore 7, 2, [7]) := by decide +kernel
theorem r287_1199 : am_at 287 1199 = some (.aload_n 2, 1, [2]) := by decide +kernel
theorem r287_1200 : am_at 287 1200 = some (.invokevirtual 112, 3, [45, 1, 1294, 0]) := by decide +kernel
theorem r287_1203 : am_at 287 1203 = some (.iload 6, 2, [6]) := by decide +kernel
theorem r287_1205 : am_at 287 1205 = some (.if_icmp .eq (5), 3, [1210]) := by decide +kernel
theorem r287_1208 : am_at 287 1208 = some (.iconst (0), 1, []) := by decide +kernel
theorem r287_1209 : am_at 287 1209 = some (.ireturn, 1, []) := by decide +kernel
theorem r287_1210 : am_at 287 1210 = some (.iload 6, 2, [6]) := by decide +kernel
theorem r287_1212 : am_at 287 1212 = some (.ifCond .ne (15), 3, [1227]) := by decide +kernel
theorem r287_1215 : am_at 287 1215 = some (.aload_n 3, 1, [3]) := by decide +kernel
theorem r287_1216 : am_at 287 1216 = some (.iconst (0), 1, []) := by decide +kernel
theorem r287_1217 : am_at 287 1217 = some (.laload, 1, []) := by decide +kernel
theorem r287_1218 : am_at 287 1218 = some (.iload 7, 2, [7]) := by decide +kernel
theorem r287_1220 : am_at 287 1220 = some (.i2l, 1, []) := by decide +kernel
theorem r287_1221 : am_at 287 1221 = some (.lcmp, 1, []) := by decide +kernel
theorem r287_1222 : am_at 287 1222 = some (.ifCond .eq (5), 3, [1227]) := by decide +kernel
theorem r287_1225 : am_at 287 1225 = some (.iconst (0), 1, []) := by decide +kernel
theorem r287_1226 : am_at 287 1226 = some (.ireturn, 1, []) := by decide +kernel
theorem r287_1227 : am_at 287 1227 = some (.goto (729), 3, [1956]) := by decide +kernel
theorem r287_1230 : am_at 287 1230 = some (.aload_n 1, 1, [1]) := by decide +kernel
theorem r287_1231 : am_at 287 1231 = some (.aload_n 0, 1, [0]) := by decide +kernel
theorem r287_1232 : am_at 287 1232 = some (.iload 5, 2, [5]) := by decide +kernel
theorem r287_1234 : am_at 287 1234 = some (.iconst (1), 1, []) := by decide +kernel
theorem r287_1235 : am_at 287 1235 = some (.iadd, 1, []) := by decide +kernel
theorem r287_1236 : am_at 287 1236 = some (.iaload, 1, []) := by decide +kernel
theorem r287_1237 : am_at 287 1237 = some (.aload_n 0, 1, [0]) := by decide +kernel
theorem r287_1238 : am_at 287 1238 = some (.iload 5, 2, [5]) := by decide +kernel
theorem r287_1240 : am_at 287 1240 = some (.iconst (2), 1, []) := by decide +kernel
theorem r287_1241 : am_at 287 1241 = some (.iadd, 1, []) := by decide +kernel
theorem r287_1242 : am_at 287 1242 = some (.iaload, 1, []) := by decide +kernel
theorem r287_1243 : am_at 287 1243 = some (.aload_n 3, 1, [3]) := by decide +kernel
theorem r287_1244 : am_at 287 1244 = some (.invokestatic 177, 3, [278, 4, 1152, 0]) := by decide +kernel
theorem r287_1247 : am_at 287 1247 = some (.istore 6, 2, [6]) := by decide +kernel
theorem r287_1249 : am_at 287 1249 = some (.aload_n 2, 1, [2]) := by decide +kernel
theorem r287_1250 : am_at 287 1250 = some (.aload_n 0, 1, [0]) := by decide +kernel
theorem r287_1251 : am_at 287 1251 = some (.iload 5, 2, [5]) := by decide +kernel
theorem r287_1253 : am_at 287 1253 = some (.iconst (1), 1, []) := by decide +kernel
theorem r287_1254 : am_at 287 1254 = some (.iadd, 1, []) := by decide +kernel
theorem r287_1255 : am_at 287 1255 = some (.iaload, 1, []) := by decide +kernel
theorem r287_1256 : am_at 287 1256 = some (.aload_n 0, 1, [0]) := by decide +kernel
theorem r287_1257 : am_at 287 1257 = some (.iload 5, 2, [5]) := by decide +kernel
theorem r287_1259 : am_at 287 1259 = some (.iconst (2), 1, []) := by decide +kernel
theorem r287_1260 : am_at 287 1260 = some (.iadd, 1, []) := by decide +kernel
theorem r287_1261 : am_at 287 1261 = some (.iaload, 1, []) := by decide +kernel
theorem r287_1262 : am_at 287 1262 = some (.invokevirtual 179, 3, [116, 3, 1556, 0]) := by decide +kernel
theorem r287_1265 : am_at 287 1265 = some (.istore 7, 2, [7]) := by decide +kernel
theorem r287_1267 : am_at 287 1267 = some (.aload_n 2, 1, [2]) := by decide +kernel
theorem r287_1268 : am_at 287 1268 = some (.invokevirtual 112, 3, [45, 1, 1294, 0]) := by decide +kernel
theorem r287_1271 : am_at 287 1271 = some (.iload 6, 2, [6]) := by decide +kernel
theorem r287_1273 : am_at 287 1273 = some (.if_icmp .eq (5), 3, [1278]) := by decide +kernel
theorem r287_1276 : am_at 287 1276 = some (.iconst (0), 1, []) := by decide +kernel
theorem r287_1277 : am_at 287 1277 = some (.ireturn, 1, []) := by decide +kernel
theorem r287_1278 : am_at 287 1278 = some (.iload 6, 2, [6]) := by decide +kernel
theorem r287_1280 : am_at 287 1280 = some (.ifCond .ne (15), 3, [1295]) := by decide +kernel
theorem r287_1283 : am_at 287 1283 = some (.aload_n 3, 1, [3]) := by decide +kernel
theorem r287_1284 : am_at 287 1284 = some (.iconst (0), 1, []) := by decide +kernel
theorem r287_1285 : am_at 287 1285 = some (.laload, 1, []) := by decide +kernel
theorem r287_1286 : am_at 287 1286 = some (.iload 7, 2, [7]) := by decide +kernel
theorem r287_1288 : am_at 287 1288 = some (.i2l, 1, []) := by decide +kernel
theorem r287_1289 : am_at 287 1289 = some (.lcmp, 1, []) := by decide +kernel
theorem r287_1290 : am_at 287 1290 = some (.ifCond .eq (5), 3, [1295]) := by decide +kernel
theorem r287_1293 : am_at 287 1293 = some (.iconst (0), 1, []) := by decide +kernel
theorem r287_1294 : am_at 287 1294 = some (.ireturn, 1, []) := by decide +kernel
theorem r287_1295 : am_at 287 1295 = some (.goto (661), 3, [1956]) := by decide +kernel
theorem r287_1298 : am_at 287 1298 = some (.aload_n 1, 1, [1]) := by decide +kernel
theorem r287_1299 : am_at 287 1299 = some (.aload_n 0, 1, [0]) := by decide +kernel
theorem r287_1300 : am_at 287 1300 = some (.iload 5, 2, [5]) := by decide +kernel
theorem r287_1302 : am_at 287 1302 = some (.iconst (1), 1, []) := by decide +kernel
theorem r287_1303 : am_at 287 1303 = some (.iadd, 1, []) := by decide +kernel
theorem r287_1304 : am_at 287 1304 = some (.iaload, 1, []) := by decide +kernel
theorem r287_1305 : am_at 287 1305 = some (.aload_n 3, 1, [3]) := by decide +kernel
theorem r287_1306 : am_at 287 1306 = some (.invokestatic 180, 3, [279, 3, 1156, 0]) := by decide +kernel
theorem r287_1309 : am_at 287 1309 = some (.istore 6, 2, [6]) := by decide +kernel
theorem r287_1311 : am_at 287 1311 = some (.aload_n 2, 1, [2]) := by decide +kernel
theorem r287_1312 : am_at 287 1312 = some (.aload_n 0, 1, [0]) := by decide +kernel
theorem r287_1313 : am_at 287 1313 = some (.iload 5, 2, [5]) := by decide +kernel
theorem r287_1315 : am_at 287 1315 = some (.iconst (1), 1, []) := by decide +kernel
theorem r287_1316 : am_at 287 1316 = some (.iadd, 1, []) := by decide +kernel
theorem r287_1317 : am_at 287 1317 = some (.iaload, 1, []) := by decide +kernel
theorem r287_1318 : am_at 287 1318 = some (.invokevirtual 182, 3, [118, 2, 1576, 0]) := by decide +kernel
theorem r287_1321 : am_at 287 1321 = some (.istore 7, 2, [7]) := by decide +kernel
theorem r287_1323 : am_at 287 1323 = some (.aload_n 2, 1, [2]) := by decide +kernel
theorem r287_1324 : am_at 287 1324 = some (.invokevirtual 112, 3, [45, 1, 1294, 0]) := by decide +kernel
theorem r287_1327 : am_at 287 1327 = some (.iload 6, 2, [6]) := by decide +kernel
theorem r287_1329 : am_at 287 1329 = some (.if_icmp .eq (5), 3, [1334]) := by decide +kernel
theorem r287_1332 : am_at 287 1332 = some (.iconst (0), 1, []) := by decide +kernel
theorem r287_1333 : am_at 287 1333 = some (.ireturn, 1, []) := by decide +kernel
theorem r287_1334 : am_at 287 1334 = some (.iload 6, 2, [6]) := by decide +kernel
theorem r287_1336 : am_at 287 1336 = some (.ifCond .ne (15), 3, [1351]) := by decide +kernel
theorem r287_1339 : am_at 287 1339 = some (.aload_n 3, 1, [3]) := by decide +kernel
theorem r287_1340 : am_at 287 1340 = some (.iconst (0), 1, []) := by decide +kernel
theorem r287_1341 : am_at 287 1341 = some (.laload, 1, []) := by decide +kernel
theorem r287_1342 : am_at 287 1342 = some (.iload 7, 2, [7]) := by decide +kernel
theorem r287_1344 : am_at 287 1344 = some (.i2l, 1, []) := by decide +kernel
theorem r287_1345 : am_at 287 1345 = some (.lcmp, 1, []) := by decide +kernel
theorem r287_1346 : am_at 287 1346 = some (.ifCond .eq (5), 3, [1351]) := by decide +kernel
theorem r287_1349 : am_at 287 1349 = some (.iconst (0), 1, []) := by decide +kernel
theorem r287_1350 : am_at 287 1350 = some (.ireturn, 1, []) := by decide +kernel
theorem r287_1351 : am_at 287 1351 = some (.goto (605), 3, [1956]) := by decide +kernel
theorem r287_1354 : am_at 287 1354 = some (.aload_n 1, 1, [1]) := by decide +kernel
theorem r287_1355 : am_at 287 1355 = some (.aload_n 0, 1, [0]) := by decide +kernel
theorem r287_1356 : am_at 287 1356 = some (.iload 5, 2, [5]) := by decide +kernel
theorem r287_1358 : am_at 287 1358 = some (.iconst (1), 1, []) := by decide +kernel
theorem r287_1359 : am_at 287 1359 = some (.iadd, 1, []) := by decide +kernel
theorem r287_1360 : am_at 287 1360 = some (.iaload, 1, []) := by decide +kernel
theorem r287_1361 : am_at 287 1361 = some (.aload_n 0, 1, [0]) := by decide +kernel
theorem r287_1362 : am_at 287 1362 = some (.iload 5, 2, [5]) := by decide +kernel
theorem r287_1364 : am_at 287 1364 = some (.iconst (2), 1, []) := by decide +kernel
theorem r287_1365 : am_at 287 1365 = some (.iadd, 1, []) := by decide +kernel
theorem r287_1366 : am_at 287 1366 = some (.iaload, 1, []) := by decide +kernel
theorem r287_1367 : am_at 287 1367 = some (.aload_n 0, 1, [0]) := by decide +kernel
theorem r287_1368 : am_at 287 1368 = some (.iload 5, 2, [5]) := by decide +kernel
theorem r287_1370 : am_at 287 1370 = some (.iconst (3), 1, []) := by decide +kernel
theorem r287_1371 : am_at 287 1371 = some (.iadd, 1, []) := by decide +kernel
theorem r287_1372 : am_at 287 1372 = some (.iaload, 1, []) := by decide +kernel
theorem r287_1373 : am_at 287 1373 = some (.aload_n 3, 1, [3]) := by decide +kernel
theorem r287_1374 : am_at 287 1374 = some (.invokestatic 183, 3, [280, 5, 1160, 0]) := by decide +kernel
theorem r287_1377 : am_at 287 1377 = some (.istore 6, 2, [6]) := by decide +kernel
theorem r287_1379 : am_at 287 1379 = some (.aload_n 2, 1, [2]) := by decide +kernel
theorem r287_1380 : am_at 287 1380 = some (.aload_n 0, 1, [0]) := by decide +kernel
theorem r287_1381 : am_at 287 1381 = some (.iload 5, 2, [5]) := by decide +kernel
theorem r287_1383 : am_at 287 1383 = some (.iconst (1), 1, []) := by decide +kernel
theorem r287_1384 : am_at 287 1384 = some (.iadd, 1, []) := by decide +kernel
theorem r287_1385 : am_at 287 1385 = some (.iaload, 1, []) := by decide +kernel
theorem r287_1386 : am_at 287 1386 = some (.aload_n 0, 1, [0]) := by decide +kernel
theorem r287_1387 : am_at 287 1387 = some (.iload 5, 2, [5]) := by decide +kernel
theorem r287_1389 : am_at 287 1389 = some (.iconst (2), 1, []) := by decide +kernel
theorem r287_1390 : am_at 287 1390 = some (.iadd, 1, []) := by decide +kernel
theorem r287_1391 : am_at 287 1391 = some (.iaload, 1, []) := by decide +kernel
theorem r287_1392 : am_at 287 1392 = some (.aload_n 0, 1, [0]) := by decide +kernel
theorem r287_1393 : am_at 287 1393 = some (.iload 5, 2, [5]) := by decide +kernel
theorem r287_1395 : am_at 287 1395 = some (.iconst (3), 1, []) := by decide +kernel
theorem r287_1396 : am_at 287 1396 = some (.iadd, 1, []) := by decide +kernel
theorem r287_1397 : am_at 287 1397 = some (.iaload, 1, []) := by decide +kernel
theorem r287_1398 : am_at 287 1398 = some (.invokevirtual 185, 3, [119, 4, 1584, 0]) := by decide +kernel
theorem r287_1401 : am_at 287 1401 = some (.istore 7, 2, [7]) := by decide +kernel
theorem r287_1403 : am_at 287 1403 = some (.aload_n 2, 1, [2]) := by decide +kernel
theorem r287_1404 : am_at 287 1404 = some (.invokevirtual 112, 3, [45, 1, 1294, 0]) := by decide +kernel
theorem r287_1407 : am_at 287 1407 = some (.iload 6, 2, [6]) := by decide +kernel
theorem r287_1409 : am_at 287 1409 = some (.if_icmp .eq (5), 3, [1414]) := by decide +kernel
theorem r287_1412 : am_at 287 1412 = some (.iconst (0), 1, []) := by decide +kernel
theorem r287_1413 : am_at 287 1413 = some (.ireturn, 1, []) := by decide +kernel
theorem r287_1414 : am_at 287 1414 = some (.iload 6, 2, [6]) := by decide +kernel
theorem r287_1416 : am_at 287 1416 = some (.ifCond .ne (15), 3, [1431]) := by decide +kernel
theorem r287_1419 : am_at 287 1419 = some (.aload_n 3, 1, [3]) := by decide +kernel
theorem r287_1420 : am_at 287 1420 = some (.iconst (0), 1, []) := by decide +kernel
theorem r287_1421 : am_at 287 1421 = some (.laload, 1, []) := by decide +kernel
theorem r287_1422 : am_at 287 1422 = some (.iload 7, 2, [7]) := by decide +kernel
theorem r287_1424 : am_at 287 1424 = some (.i2l, 1, []) := by decide +kernel
theorem r287_1425 : am_at 287 1425 = some (.lcmp, 1, []) := by decide +kernel
theorem r287_1426 : am_at 287 1426 = some (.ifCond .eq (5), 3, [1431]) := by decide +kernel
theorem r287_1429 : am_at 287 1429 = some (.iconst (0), 1, []) := by decide +kernel
theorem r287_1430 : am_at 287 1430 = some (.ireturn, 1, []) := by decide +kernel
theorem r287_1431 : am_at 287 1431 = some (.goto (525), 3, [1956]) := by decide +kernel
theorem r287_1434 : am_at 287 1434 = some (.aload_n 1, 1, [1]) := by decide +kernel
theorem r287_1435 : am_at 287 1435 = some (.aload_n 0, 1, [0]) := by decide +kernel
theorem r287_1436 : am_at 287 1436 = some (.iload 5, 2, [5]) := by decide +kernel
theorem r287_1438 : am_at 287 1438 = some (.iconst (1), 1, []) := by decide +kernel
theorem r287_1439 : am_at 287 1439 = some (.iadd, 1, []) := by decide +kernel
theorem r287_1440 : am_at 287 1440 = some (.iaload, 1, []) := by decide +kernel
theorem r287_1441 : am_at 287 1441 = some (.aload_n 0, 1, [0]) := by decide +kernel
theorem r287_1442 : am_at 287 1442 = some (.iload 5, 2, [5]) := by decide +kernel
theorem r287_1444 : am_at 287 1444 = some (.iconst (2), 1, []) := by decide +kernel
theorem r287_1445 : am_at 287 1445 = some (.iadd, 1, []) := by decide +kernel
theorem r287_1446 : am_at 287 1446 = some (.iaload, 1, []) := by decide +kernel
theorem r287_1447 : am_at 287 1447 = some (.aload_n 3, 1, [3]) := by decide +kernel
theorem r287_1448 : am_at 287 1448 = some (.invokestatic 186, 3, [281, 4, 1167, 0]) := by decide +kernel
theorem r287_1451 : am_at 287 1451 = some (.istore 6, 2, [6]) := by decide +kernel
theorem r287_1453 : am_at 287 1453 = some (.aload_n 2, 1, [2]) := by decide +kernel
theorem r287_1454 : am_at 287 1454 = some (.aload_n 0, 1, [0]) := by decide +kernel
theorem r287_1455 : am_at 287 1455 = some (.iload 5, 2, [5]) := by decide +kernel
theorem r287_1457 : am_at 287 1457 = some (.iconst (1), 1, []) := by decide +kernel
theorem r287_1458 : am_at 287 1458 = some (.iadd, 1, []) := by decide +kernel
theorem r287_1459 : am_at 287 1459 = some (.iaload, 1, []) := by decide +kernel
theorem r287_1460 : am_at 287 1460 = some (.aload_n 0, 1, [0]) := by decide +kernel
theorem r287_1461 : am_at 287 1461 = some (.iload 5, 2, [5]) := by decide +kernel
theorem r287_1463 : am_at 287 1463 = some (.iconst (2), 1, []) := by decide +kernel
theorem r287_1464 : am_at 287 1464 = some (.iadd, 1, []) := by decide +kernel
theorem r287_1465 : am_at 287 1465 = some (.iaload, 1, []) := by decide +kernel
theorem r287_1466 : am_at 287 1466 = some (.invokevirtual 188, 3, [123, 3, 1588, 0]) := by decide +kernel
theorem r287_1469 : am_at 287 1469 = some (.istore 7, 2, [7]) := by decide +kernel
theorem r287_1471 : am_at 287 1471 = some (.aload_n 2, 1, [2]) := by decide +kernel
theorem r287_1472 : am_at 287 1472 = some (.invokevirtual 112, 3, [45, 1, 1294, 0]) := by decide +kernel
theorem r287_1475 : am_at 287 1475 = some (.iload 6, 2, [6]) := by decide +kernel
theorem r287_1477 : am_at 287 1477 = some (.if_icmp .eq (5), 3, [1482]) := by decide +kernel
theorem r287_1480 : am_at 287 1480 = some (.iconst (0), 1, []) := by decide +kernel
theorem r287_1481 : am_at 287 1481 = some (.ireturn, 1, []) := by decide +kernel
theorem r287_1482 : am_at 287 1482 = some (.iload 6, 2, [6]) := by decide +kernel
theorem r287_1484 : am_at 287 1484 = some (.ifCond .ne (15), 3, [1499]) := by decide +kernel
theorem r287_1487 : am_at 287 1487 = some (.aload_n 3, 1, [3]) := by decide +kernel
theorem r287_1488 : am_at 287 1488 = some (.iconst (0), 1, []) := by decide +kernel
theorem r287_1489 : am_at 287 1489 = some (.laload, 1, []) := by decide +kernel
theorem r287_1490 : am_at 287 1490 = some (.iload 7, 2, [7]) := by decide +kernel
theorem r287_1492 : am_at 287 1492 = some (.i2l, 1, []) := by decide +kernel
theorem r287_1493 : am_at 287 1493 = some (.lcmp, 1, []) := by decide +kernel
theorem r287_1494 : am_at 287 1494 = some (.ifCond .eq (5), 3, [1499]) := by decide +kernel
theorem r287_1497 : am_at 287 1497 = some (.iconst (0), 1, []) := by decide +kernel
theorem r287_1498 : am_at 287 1498 = some (.ireturn, 1, []) := by decide +kernel
theorem r287_1499 : am_at 287 1499 = some (.goto (457), 3, [1956]) := by decide +kernel
theorem law_18 (hi : i + 5 ≤ L) (hL : L ≤ 2560) (hN : 2000 ≤ N) (hI : q_I D) (hc : c + 1 ≤ mc) (hs : s + 6 ≤ ms) (hd : 57 ≤ d) (nx : ∀ D' c' s', q_I D' → c' ≤ c + 1 → s' ≤ s + 6 → am_X xs L 287 d mc ms 1956 [.ref 1000002, .ref 0, .ref 106, .ref 124, .ref 125, .int (Int32.ofNat i), am_dead, am_dead, am_dead, am_dead] [] (am_mk D') c' s' Q) : am_X xs L 287 d mc ms 1094 [.ref 1000002, .ref 0, .ref 106, .ref 124, .ref 125, .int (Int32.ofNat i), am_dead, am_dead, am_dead, am_dead] [] (am_mk D) c s Q := by
  obtain ⟨r, D1, b, D2, h1, h2, h3, h4, h5⟩ := g_tileOf hI (xs (i + 1)) (xs (i + 2))
  refine x_ld (v := .ref 0) r287_1094 rfl rfl rfl ?_
  refine x_ld (v := .ref 1000002) r287_1095 rfl rfl rfl ?_
  refine x_ld (v := .int (Int32.ofNat i)) r287_1096 rfl rfl rfl ?_
  refine x_ic (v := 1) r287_1098 rfl rfl ?_
  refine x_ar r287_1099 rfl trivial rfl ?_
  refine am_topI (v := Int32.ofNat (i + 1)) (q_add i 1).symm ?_
  refine y_ialX (e := (i + 1)) r287_1100 (q_vx hL (by omega)) (q_tn (by omega)) rfl ?_
  refine x_ld (v := .ref 1000002) r287_1101 rfl rfl rfl ?_
  refine x_ld (v := .int (Int32.ofNat i)) r287_1102 rfl rfl rfl ?_
  refine x_ic (v := 2) r287_1104 rfl rfl ?_
  refine x_ar r287_1105 rfl trivial rfl ?_
  refine am_topI (v := Int32.ofNat (i + 2)) (q_add i 2).symm ?_
  refine y_ialX (e := (i + 2)) r287_1106 (q_vx hL (by omega)) (q_tn (by omega)) rfl ?_
  refine x_ld (v := .ref 124) r287_1107 rfl rfl rfl ?_
  refine x_call1 (as := [.ref 0, .int (xs (i + 1)), .int (xs (i + 2)), .ref 124]) (rest := []) r287_1108 rfl rfl rfl (by decide) (Nat.le_of_ble_eq_true rfl) (m276_ok h1) (Nat.le_trans (by decide) hd) hc hs rfl ?_
  refine x_sto (lc' := [.ref 1000002, .ref 0, .ref 106, .ref 124, .ref 125, .int (Int32.ofNat i), .int r, am_dead, am_dead, am_dead]) (st' := []) r287_1111 rfl rfl rfl rfl ?_
  refine x_ld (v := .ref 106) r287_1113 rfl rfl rfl ?_
  refine x_ld (v := .ref 1000002) r287_1114 rfl rfl rfl ?_
  refine x_ld (v := .int (Int32.ofNat i)) r287_1115 rfl rfl rfl ?_
  refine x_ic (v := 1) r287_1117 rfl rfl ?_
  refine x_ar r287_1118 rfl trivial rfl ?_
  refine am_topI (v := Int32.ofNat (i + 1)) (q_add i 1).symm ?_
  refine y_ialX (e := (i + 1)) r287_1119 (q_vx hL (by omega)) (q_tn (by omega)) rfl ?_
  refine x_ld (v := .ref 1000002) r287_1120 rfl rfl rfl ?_
  refine x_ld (v := .int (Int32.ofNat i)) r287_1121 rfl rfl rfl ?_
  refine x_ic (v := 2) r287_1123 rfl rfl ?_
  refine x_ar r287_1124 rfl trivial rfl ?_
  refine am_topI (v := Int32.ofNat (i + 2)) (q_add i 2).symm ?_
  refine y_ialX (e := (i + 2)) r287_1125 (q_vx hL (by omega)) (q_tn (by omega)) rfl ?_
  refine x_call1 (as := [.ref 106, .int (xs (i + 1)), .int (xs (i + 2))]) (rest := []) r287_1126 rfl rfl rfl (by decide) (Nat.le_of_ble_eq_true rfl) (m109_ok (Option.some.inj h2)) (Nat.le_trans (by decide) hd) hc hs rfl ?_
  refine x_sto (lc' := [.ref 1000002, .ref 0, .ref 106, .ref 124, .ref 125, .int (Int32.ofNat i), .int r, .int b, am_dead, am_dead]) (st' := []) r287_1129 rfl rfl rfl rfl ?_
  refine x_ld (v := .ref 106) r287_1131 rfl rfl rfl ?_
  refine x_call1 (as := [.ref 106]) (rest := []) r287_1132 rfl rfl rfl (by decide) (Nat.le_of_ble_eq_true rfl) (m45_ok (r := D2.1 106 0) rfl) (Nat.le_trans (by decide) hd) hc hs rfl ?_
  refine x_ld (v := .int r) r287_1135 rfl rfl rfl ?_
  refine x_iceqT r287_1137 h3 ?_
  refine x_ld (v := .int r) r287_1142 rfl rfl rfl ?_
  by_cases q : r = 0
  · refine x_ifneT r287_1144 q rfl ?_
    refine x_ld (v := .ref 124) r287_1147 rfl rfl rfl ?_
    refine x_ic (v := 0) r287_1148 rfl rfl ?_
    refine y_lal (n := 1) (e := 0) r287_1149 rfl (by decide) (by decide) rfl rfl ?_
    refine x_ld (v := .int b) r287_1150 rfl rfl rfl ?_
    refine x_ar r287_1152 rfl trivial rfl ?_
    refine x_ar r287_1153 rfl trivial rfl ?_
    refine am_topI (v := 0) (by rw [h4 q, q_lgc]) ?_
    refine x_ifeqT r287_1154 rfl ?_
    refine x_goto r287_1159 ?_
    exact x_forget (lc0 := [.ref 1000002, .ref 0, .ref 106, .ref 124, .ref 125, .int (Int32.ofNat i), am_dead, am_dead, am_dead, am_dead]) ⟨Or.inl rfl, Or.inl rfl, Or.inl rfl, Or.inl rfl, Or.inl rfl, Or.inl rfl, Or.inr ⟨rfl, rfl⟩, Or.inr ⟨rfl, rfl⟩, Or.inl rfl, Or.inl rfl, trivial⟩ (nx D2 _ _ h5 (Nat.le_refl _) (Nat.le_refl _))
  · refine x_ifneF r287_1144 q ?_
    refine x_goto r287_1159 ?_
    exact x_forget (lc0 := [.ref 1000002, .ref 0, .ref 106, .ref 124, .ref 125, .int (Int32.ofNat i), am_dead, am_dead, am_dead, am_dead]) ⟨Or.inl rfl, Or.inl rfl, Or.inl rfl, Or.inl rfl, Or.inl rfl, Or.inl rfl, Or.inr ⟨rfl, rfl⟩, Or.inr ⟨rfl, rfl⟩, Or.inl rfl, Or.inl rfl, trivial⟩ (nx D2 _ _ h5 (Nat.le_refl _) (Nat.le_refl _))
theorem law_19 (hi : i + 5 ≤ L) (hL : L ≤ 2560) (hN : 2000 ≤ N) (hI : q_I D) (hc : c + 1 ≤ mc) (hs : s + 6 ≤ ms) (hd : 57 ≤ d) (nx : ∀ D' c' s', q_I D' → c' ≤ c + 1 → s' ≤ s + 6 → am_X xs L 287 d mc ms 1956 [.ref 1000002, .ref 0, .ref 106, .ref 124, .ref 125, .int (Int32.ofNat i), am_dead, am_dead, am_dead, am_dead] [] (am_mk D') c' s' Q) : am_X xs L 287 d mc ms 1162 [.ref 1000002, .ref 0, .ref 106, .ref 124, .ref 125, .int (Int32.ofNat i), am_dead, am_dead, am_dead, am_dead] [] (am_mk D) c s Q := by
  obtain ⟨r, D1, b, D2, h1, h2, h3, h4, h5⟩ := g_chain hI (xs (i + 1)) (xs (i + 2))
  refine x_ld (v := .ref 0) r287_1162 rfl rfl rfl ?_
  refine x_ld (v := .ref 1000002) r287_1163 rfl rfl rfl ?_
  refine x_ld (v := .int (Int32.ofNat i)) r287_1164 rfl rfl rfl ?_
  refine x_ic (v := 1) r287_1166 rfl rfl ?_
  refine x_ar r287_1167 rfl trivial rfl ?_
  refine am_topI (v := Int32.ofNat (i + 1)) (q_add i 1).symm ?_
  refine y_ialX (e := (i + 1)) r287_1168 (q_vx hL (by omega)) (q_tn (by omega)) rfl ?_
  refine x_ld (v := .ref 1000002) r287_1169 rfl rfl rfl ?_
  refine x_ld (v := .int (Int32.ofNat i)) r287_1170 rfl rfl rfl ?_
  refine x_ic (v := 2) r287_1172 rfl rfl ?_
  refine x_ar r287_1173 rfl trivial rfl ?_
  refine am_topI (v := Int32.ofNat (i + 2)) (q_add i 2).symm ?_
  refine y_ialX (e := (i + 2)) r287_1174 (q_vx hL (by omega)) (q_tn (by omega)) rfl ?_
  refine x_ld (v := .ref 124) r287_1175 rfl rfl rfl ?_
  refine x_call1 (as := [.ref 0, .int (xs (i + 1)), .int (xs (i + 2)), .ref 124]) (rest := []) r287_1176 rfl rfl rfl (by decide) (Nat.le_of_ble_eq_true rfl) (m277_ok h1) (Nat.le_trans (by decide) hd) hc hs rfl ?_
  refine x_sto (lc' := [.ref 1000002, .ref 0, .ref 106, .ref 124, .ref 125, .int (Int32.ofNat i), .int r, am_dead, am_dead, am_dead]) (st' := []) r287_1179 rfl rfl rfl rfl ?_
  refine x_ld (v := .ref 106) r287_1181 rfl rfl rfl ?_
  refine x_ld (v := .ref 1000002) r287_1182 rfl rfl rfl ?_
  refine x_ld (v := .int (Int32.ofNat i)) r287_1183 rfl rfl rfl ?_
  refine x_ic (v := 1) r287_1185 rfl rfl ?_
  refine x_ar r287_1186 rfl trivial rfl ?_
  refine am_topI (v := Int32.ofNat (i + 1)) (q_add i 1).symm ?_
  refine y_ialX (e := (i + 1)) r287_1187 (q_vx hL (by omega)) (q_tn (by omega)) rfl ?_
  refine x_ld (v := .ref 1000002) r287_1188 rfl rfl rfl ?_
  refine x_ld (v := .int (Int32.ofNat i)) r287_1189 rfl rfl rfl ?_
  refine x_ic (v := 2) r287_1191 rfl rfl ?_
  refine x_ar r287_1192 rfl trivial rfl ?_
  refine am_topI (v := Int32.ofNat (i + 2)) (q_add i 2).symm ?_
  refine y_ialX (e := (i + 2)) r287_1193 (q_vx hL (by omega)) (q_tn (by omega)) rfl ?_
  refine x_call1 (as := [.ref 106, .int (xs (i + 1)), .int (xs (i + 2))]) (rest := []) r287_1194 rfl rfl rfl (by decide) (Nat.le_of_ble_eq_true rfl) (m111_ok h2) (Nat.le_trans (by decide) hd) hc hs rfl ?_
  refine x_sto (lc' := [.ref 1000002, .ref 0, .ref 106, .ref 124, .ref 125, .int (Int32.ofNat i), .int r, .int b, am_dead, am_dead]) (st' := []) r287_1197 rfl rfl rfl rfl ?_
  refine x_ld (v := .ref 106) r287_1199 rfl rfl rfl ?_
  refine x_call1 (as := [.ref 106]) (rest := []) r287_1200 rfl rfl rfl (by decide) (Nat.le_of_ble_eq_true rfl) (m45_ok (r := D2.1 106 0) rfl) (Nat.le_trans (by decide) hd) hc hs rfl ?_
  refine x_ld (v := .int r) r287_1203 rfl rfl rfl ?_
  refine x_iceqT r287_1205 h3 ?_
  refine x_ld (v := .int r) r287_1210 rfl rfl rfl ?_
  by_cases q : r = 0
  · refine x_ifneT r287_1212 q rfl ?_
    refine x_ld (v := .ref 124) r287_1215 rfl rfl rfl ?_
    refine x_ic (v := 0) r287_1216 rfl rfl ?_
    refine y_lal (n := 1) (e := 0) r287_1217 rfl (by decide) (by decide) rfl rfl ?_
    refine x_ld (v := .int b) r287_1218 rfl rfl rfl ?_
    refine x_ar r287_1220 rfl trivial rfl ?_
    refine x_ar r287_1221 rfl trivial rfl ?_
    refine am_topI (v := 0) (by rw [h4 q, q_lgc]) ?_
    refine x_ifeqT r287_1222 rfl ?_
    refine x_goto r287_1227 ?_
    exact x_forget (lc0 := [.ref 1000002, .ref 0, .ref 106, .ref 124, .ref 125, .int (Int32.ofNat i), am_dead, am_dead, am_dead, am_dead]) ⟨Or.inl rfl, Or.inl rfl, Or.inl rfl, Or.inl rfl, Or.inl rfl, Or.inl rfl, Or.inr ⟨rfl, rfl⟩, Or.inr ⟨rfl, rfl⟩, Or.inl rfl, Or.inl rfl, trivial⟩ (nx D2 _ _ h5 (Nat.le_refl _) (Nat.le_refl _))
  · refine x_ifneF r287_1212 q ?_
    refine x_goto r287_1227 ?_
    exact x_forget (lc0 := [.ref 1000002, .ref 0, .ref 106, .ref 124, .ref 125, .int (Int32.ofNat i), am_dead, am_dead, am_dead, am_dead]) ⟨Or.inl rfl, Or.inl rfl, Or.inl rfl, Or.inl rfl, Or.inl rfl, Or.inl rfl, Or.inr ⟨rfl, rfl⟩, Or.inr ⟨rfl, rfl⟩, Or.inl rfl, Or.inl rfl, trivial⟩ (nx D2 _ _ h5 (Nat.le_refl _) (Nat.le_refl _))
theorem law_20 (hi : i + 5 ≤ L) (hL : L ≤ 2560) (hN : 2000 ≤ N) (hI : q_I D) (hc : c + 1 ≤ mc) (hs : s + 6 ≤ ms) (hd : 57 ≤ d) (nx : ∀ D' c' s', q_I D' → c' ≤ c + 1 → s' ≤ s + 6 → am_X xs L 287 d mc ms 1956 [.ref 1000002, .ref 0, .ref 106, .ref 124, .ref 125, .int (Int32.ofNat i), am_dead, am_dead, am_dead, am_dead] [] (am_mk D') c' s' Q) : am_X xs L 287 d mc ms 1230 [.ref 1000002, .ref 0, .ref 106, .ref 124, .ref 125, .int (Int32.ofNat i), am_dead, am_dead, am_dead, am_dead] [] (am_mk D) c s Q := by
  obtain ⟨r, D1, b, D2, h1, h2, h3, h4, h5⟩ := g_hand hN hI (xs (i + 1)) (xs (i + 2))
  refine x_ld (v := .ref 0) r287_1230 rfl rfl rfl ?_
  refine x_ld (v := .ref 1000002) r287_1231 rfl rfl rfl ?_
  refine x_ld (v := .int (Int32.ofNat i)) r287_1232 rfl rfl rfl ?_
  refine x_ic (v := 1) r287_1234 rfl rfl ?_
  refine x_ar r287_1235 rfl trivial rfl ?_
  refine am_topI (v := Int32.ofNat (i + 1)) (q_add i 1).symm ?_
  refine y_ialX (e := (i + 1)) r287_1236 (q_vx hL (by omega)) (q_tn (by omega)) rfl ?_
  refine x_ld (v := .ref 1000002) r287_1237 rfl rfl rfl ?_
  refine x_ld (v := .int (Int32.ofNat i)) r287_1238 rfl rfl rfl ?_
  refine x_ic (v := 2) r287_1240 rfl rfl ?_
  refine x_ar r287_1241 rfl trivial rfl ?_
  refine am_topI (v := Int32.ofNat (i + 2)) (q_add i 2).symm ?_
  refine y_ialX (e := (i + 2)) r287_1242 (q_vx hL (by omega)) (q_tn (by omega)) rfl ?_
  refine x_ld (v := .ref 124) r287_1243 rfl rfl rfl ?_
  refine x_call1 (as := [.ref 0, .int (xs (i + 1)), .int (xs (i + 2)), .ref 124]) (rest := []) r287_1244 rfl rfl rfl (by decide) (Nat.le_of_ble_eq_true rfl) (m278_ok h1) (Nat.le_trans (by decide) hd) hc hs rfl ?_
  refine x_sto (lc' := [.ref 1000002, .ref 0, .ref 106, .ref 124, .ref 125, .int (Int32.ofNat i), .int r, am_dead, am_dead, am_dead]) (st' := []) r287_1247 rfl rfl rfl rfl ?_
  refine x_ld (v := .ref 106) r287_1249 rfl rfl rfl ?_
  refine x_ld (v := .ref 1000002) r287_1250 rfl rfl rfl ?_
  refine x_ld (v := .int (Int32.ofNat i)) r287_1251 rfl rfl rfl ?_
  refine x_ic (v := 1) r287_1253 rfl rfl ?_
  refine x_ar r287_1254 rfl trivial rfl ?_
  refine am_topI (v := Int32.ofNat (i + 1)) (q_add i 1).symm ?_
  refine y_ialX (e := (i + 1)) r287_1255 (q_vx hL (by omega)) (q_tn (by omega)) rfl ?_
  refine x_ld (v := .ref 1000002) r287_1256 rfl rfl rfl ?_
  refine x_ld (v := .int (Int32.ofNat i)) r287_1257 rfl rfl rfl ?_
  refine x_ic (v := 2) r287_1259 rfl rfl ?_
  refine x_ar r287_1260 rfl trivial rfl ?_
  refine am_topI (v := Int32.ofNat (i + 2)) (q_add i 2).symm ?_
  refine y_ialX (e := (i + 2)) r287_1261 (q_vx hL (by omega)) (q_tn (by omega)) rfl ?_
  refine x_call1 (as := [.ref 106, .int (xs (i + 1)), .int (xs (i + 2))]) (rest := []) r287_1262 rfl rfl rfl (by decide) (Nat.le_of_ble_eq_true rfl) (m116_ok h2) (Nat.le_trans (by decide) hd) hc hs rfl ?_
  refine x_sto (lc' := [.ref 1000002, .ref 0, .ref 106, .ref 124, .ref 125, .int (Int32.ofNat i), .int r, .int b, am_dead, am_dead]) (st' := []) r287_1265 rfl rfl rfl rfl ?_
  refine x_ld (v := .ref 106) r287_1267 rfl rfl rfl ?_
  refine x_call1 (as := [.ref 106]) (rest := []) r287_1268 rfl rfl rfl (by decide) (Nat.le_of_ble_eq_true rfl) (m45_ok (r := D2.1 106 0) rfl) (Nat.le_trans (by decide) hd) hc hs rfl ?_
  refine x_ld (v := .int r) r287_1271 rfl rfl rfl ?_
  refine x_iceqT r287_1273 h3 ?_
  refine x_ld (v := .int r) r287_1278 rfl rfl rfl ?_
  by_cases q : r = 0
  · refine x_ifneT r287_1280 q rfl ?_
    refine x_ld (v := .ref 124) r287_1283 rfl rfl rfl ?_
    refine x_ic (v := 0) r287_1284 rfl rfl ?_
    refine y_lal (n := 1) (e := 0) r287_1285 rfl (by decide) (by decide) rfl rfl ?_
    refine x_ld (v := .int b) r287_1286 rfl rfl rfl ?_
    refine x_ar r287_1288 rfl trivial rfl ?_
    refine x_ar r287_1289 rfl trivial rfl ?_
    refine am_topI (v := 0) (by rw [h4 q, q_lgc]) ?_
    refine x_ifeqT r287_1290 rfl ?_
    refine x_goto r287_1295 ?_
    exact x_forget (lc0 := [.ref 1000002, .ref 0, .ref 106, .ref 124, .ref 125, .int (Int32.ofNat i), am_dead, am_dead, am_dead, am_dead]) ⟨Or.inl rfl, Or.inl rfl, Or.inl rfl, Or.inl rfl, Or.inl rfl, Or.inl rfl, Or.inr ⟨rfl, rfl⟩, Or.inr ⟨rfl, rfl⟩, Or.inl rfl, Or.inl rfl, trivial⟩ (nx D2 _ _ h5 (Nat.le_refl _) (Nat.le_refl _))
  · refine x_ifneF r287_1280 q ?_
    refine x_goto r287_1295 ?_
    exact x_forget (lc0 := [.ref 1000002, .ref 0, .ref 106, .ref 124, .ref 125, .int (Int32.ofNat i), am_dead, am_dead, am_dead, am_dead]) ⟨Or.inl rfl, Or.inl rfl, Or.inl rfl, Or.inl rfl, Or.inl rfl, Or.inl rfl, Or.inr ⟨rfl, rfl⟩, Or.inr ⟨rfl, rfl⟩, Or.inl rfl, Or.inl rfl, trivial⟩ (nx D2 _ _ h5 (Nat.le_refl _) (Nat.le_refl _))
theorem law_21 (hi : i + 5 ≤ L) (hL : L ≤ 2560) (hN : 2000 ≤ N) (hI : q_I D) (hc : c + 1 ≤ mc) (hs : s + 6 ≤ ms) (hd : 57 ≤ d) (nx : ∀ D' c' s', q_I D' → c' ≤ c + 1 → s' ≤ s + 6 → am_X xs L 287 d mc ms 1956 [.ref 1000002, .ref 0, .ref 106, .ref 124, .ref 125, .int (Int32.ofNat i), am_dead, am_dead, am_dead, am_dead] [] (am_mk D') c' s' Q) : am_X xs L 287 d mc ms 1298 [.ref 1000002, .ref 0, .ref 106, .ref 124, .ref 125, .int (Int32.ofNat i), am_dead, am_dead, am_dead, am_dead] [] (am_mk D) c s Q := by
  obtain ⟨r, D1, b, D2, h1, h2, h3, h4, h5⟩ := g_count hN hI (xs (i + 1))
  refine x_ld (v := .ref 0) r287_1298 rfl rfl rfl ?_
  refine x_ld (v := .ref 1000002) r287_1299 rfl rfl rfl ?_
  refine x_ld (v := .int (Int32.ofNat i)) r287_1300 rfl rfl rfl ?_
  refine x_ic (v := 1) r287_1302 rfl rfl ?_
  refine x_ar r287_1303 rfl trivial rfl ?_
  refine am_topI (v := Int32.ofNat (i + 1)) (q_add i 1).symm ?_
  refine y_ialX (e := (i + 1)) r287_1304 (q_vx hL (by omega)) (q_tn (by omega)) rfl ?_
  refine x_ld (v := .ref 124) r287_1305 rfl rfl rfl ?_
  refine x_call1 (as := [.ref 0, .int (xs (i + 1)), .ref 124]) (rest := []) r287_1306 rfl rfl rfl (by decide) (Nat.le_of_ble_eq_true rfl) (m279_ok h1) (Nat.le_trans (by decide) hd) hc hs rfl ?_
  refine x_sto (lc' := [.ref 1000002, .ref 0, .ref 106, .ref 124, .ref 125, .int (Int32.ofNat i), .int r, am_dead, am_dead, am_dead]) (st' := []) r287_1309 rfl rfl rfl rfl ?_
  refine x_ld (v := .ref 106) r287_1311 rfl rfl rfl ?_
  refine x_ld (v := .ref 1000002) r287_1312 rfl rfl rfl ?_
  refine x_ld (v := .int (Int32.ofNat i)) r287_1313 rfl rfl rfl ?_
  refine x_ic (v := 1) r287_1315 rfl rfl ?_
  refine x_ar r287_1316 rfl trivial rfl ?_
  refine am_topI (v := Int32.ofNat (i + 1)) (q_add i 1).symm ?_
  refine y_ialX (e := (i + 1)) r287_1317 (q_vx hL (by omega)) (q_tn (by omega)) rfl ?_
  refine x_call1 (as := [.ref 106, .int (xs (i + 1))]) (rest := []) r287_1318 rfl rfl rfl (by decide) (Nat.le_of_ble_eq_true rfl) (m118_ok h2) (Nat.le_trans (by decide) hd) hc hs rfl ?_
  refine x_sto (lc' := [.ref 1000002, .ref 0, .ref 106, .ref 124, .ref 125, .int (Int32.ofNat i), .int r, .int b, am_dead, am_dead]) (st' := []) r287_1321 rfl rfl rfl rfl ?_
  refine x_ld (v := .ref 106) r287_1323 rfl rfl rfl ?_
  refine x_call1 (as := [.ref 106]) (rest := []) r287_1324 rfl rfl rfl (by decide) (Nat.le_of_ble_eq_true rfl) (m45_ok (r := D2.1 106 0) rfl) (Nat.le_trans (by decide) hd) hc hs rfl ?_
  refine x_ld (v := .int r) r287_1327 rfl rfl rfl ?_
  refine x_iceqT r287_1329 h3 ?_
  refine x_ld (v := .int r) r287_1334 rfl rfl rfl ?_
  by_cases q : r = 0
  · refine x_ifneT r287_1336 q rfl ?_
    refine x_ld (v := .ref 124) r287_1339 rfl rfl rfl ?_
    refine x_ic (v := 0) r287_1340 rfl rfl ?_
    refine y_lal (n := 1) (e := 0) r287_1341 rfl (by decide) (by decide) rfl rfl ?_
    refine x_ld (v := .int b) r287_1342 rfl rfl rfl ?_
    refine x_ar r287_1344 rfl trivial rfl ?_
    refine x_ar r287_1345 rfl trivial rfl ?_
    refine am_topI (v := 0) (by rw [h4 q, q_lgc]) ?_
    refine x_ifeqT r287_1346 rfl ?_
    refine x_goto r287_1351 ?_
    exact x_forget (lc0 := [.ref 1000002, .ref 0, .ref 106, .ref 124, .ref 125, .int (Int32.ofNat i), am_dead, am_dead, am_dead, am_dead]) ⟨Or.inl rfl, Or.inl rfl, Or.inl rfl, Or.inl rfl, Or.inl rfl, Or.inl rfl, Or.inr ⟨rfl, rfl⟩, Or.inr ⟨rfl, rfl⟩, Or.inl rfl, Or.inl rfl, trivial⟩ (nx D2 _ _ h5 (Nat.le_refl _) (Nat.le_refl _))
  · refine x_ifneF r287_1336 q ?_
    refine x_goto r287_1351 ?_
    exact x_forget (lc0 := [.ref 1000002, .ref 0, .ref 106, .ref 124, .ref 125, .int (Int32.ofNat i), am_dead, am_dead, am_dead, am_dead]) ⟨Or.inl rfl, Or.inl rfl, Or.inl rfl, Or.inl rfl, Or.inl rfl, Or.inl rfl, Or.inr ⟨rfl, rfl⟩, Or.inr ⟨rfl, rfl⟩, Or.inl rfl, Or.inl rfl, trivial⟩ (nx D2 _ _ h5 (Nat.le_refl _) (Nat.le_refl _))
theorem law_22 (hi : i + 5 ≤ L) (hL : L ≤ 2560) (hN : 2000 ≤ N) (hI : q_I D) (hc : c + 1 ≤ mc) (hs : s + 6 ≤ ms) (hd : 57 ≤ d) (nx : ∀ D' c' s', q_I D' → c' ≤ c + 1 → s' ≤ s + 6 → am_X xs L 287 d mc ms 1956 [.ref 1000002, .ref 0, .ref 106, .ref 124, .ref 125, .int (Int32.ofNat i), am_dead, am_dead, am_dead, am_dead] [] (am_mk D') c' s' Q) : am_X xs L 287 d mc ms 1354 [.ref 1000002, .ref 0, .ref 106, .ref 124, .ref 125, .int (Int32.ofNat i), am_dead, am_dead, am_dead, am_dead] [] (am_mk D) c s Q := by
  obtain ⟨r, D1, b, D2, h1, h2, h3, h4, h5⟩ := g_why hI (xs (i + 1)) (xs (i + 2)) (xs (i + 3))
  refine x_ld (v := .ref 0) r287_1354 rfl rfl rfl ?_
  refine x_ld (v := .ref 1000002) r287_1355 rfl rfl rfl ?_
  refine x_ld (v := .int (Int32.ofNat i)) r287_1356 rfl rfl rfl ?_
  refine x_ic (v := 1) r287_1358 rfl rfl ?_
  refine x_ar r287_1359 rfl trivial rfl ?_
  refine am_topI (v := Int32.ofNat (i + 1)) (q_add i 1).symm ?_
  refine y_ialX (e := (i + 1)) r287_1360 (q_vx hL (by omega)) (q_tn (by omega)) rfl ?_
  refine x_ld (v := .ref 1000002) r287_1361 rfl rfl rfl ?_
  refine x_ld (v := .int (Int32.ofNat i)) r287_1362 rfl rfl rfl ?_
  refine x_ic (v := 2) r287_1364 rfl rfl ?_
  refine x_ar r287_1365 rfl trivial rfl ?_
  refine am_topI (v := Int32.ofNat (i + 2)) (q_add i 2).symm ?_
  refine y_ialX (e := (i + 2)) r287_1366 (q_vx hL (by omega)) (q_tn (by omega)) rfl ?_
  refine x_ld (v := .ref 1000002) r287_1367 rfl rfl rfl ?_
  refine x_ld (v := .int (Int32.ofNat i)) r287_1368 rfl rfl rfl ?_
  refine x_ic (v := 3) r287_1370 rfl rfl ?_
  refine x_ar r287_1371 rfl trivial rfl ?_
  refine am_topI (v := Int32.ofNat (i + 3)) (q_add i 3).symm ?_
  refine y_ialX (e := (i + 3)) r287_1372 (q_vx hL (by omega)) (q_tn (by omega)) rfl ?_
  refine x_ld (v := .ref 124) r287_1373 rfl rfl rfl ?_
  refine x_call1 (as := [.ref 0, .int (xs (i + 1)), .int (xs (i + 2)), .int (xs (i + 3)), .ref 124]) (rest := []) r287_1374 rfl rfl rfl (by decide) (Nat.le_of_ble_eq_true rfl) (m280_ok h1) (Nat.le_trans (by decide) hd) hc hs rfl ?_
  refine x_sto (lc' := [.ref 1000002, .ref 0, .ref 106, .ref 124, .ref 125, .int (Int32.ofNat i), .int r, am_dead, am_dead, am_dead]) (st' := []) r287_1377 rfl rfl rfl rfl ?_
  refine x_ld (v := .ref 106) r287_1379 rfl rfl rfl ?_
  refine x_ld (v := .ref 1000002) r287_1380 rfl rfl rfl ?_
  refine x_ld (v := .int (Int32.ofNat i)) r287_1381 rfl rfl rfl ?_
  refine x_ic (v := 1) r287_1383 rfl rfl ?_
  refine x_ar r287_1384 rfl trivial rfl ?_
  refine am_topI (v := Int32.ofNat (i + 1)) (q_add i 1).symm ?_
  refine y_ialX (e := (i + 1)) r287_1385 (q_vx hL (by omega)) (q_tn (by omega)) rfl ?_
  refine x_ld (v := .ref 1000002) r287_1386 rfl rfl rfl ?_
  refine x_ld (v := .int (Int32.ofNat i)) r287_1387 rfl rfl rfl ?_
  refine x_ic (v := 2) r287_1389 rfl rfl ?_
  refine x_ar r287_1390 rfl trivial rfl ?_
  refine am_topI (v := Int32.ofNat (i + 2)) (q_add i 2).symm ?_
  refine y_ialX (e := (i + 2)) r287_1391 (q_vx hL (by omega)) (q_tn (by omega)) rfl ?_
  refine x_ld (v := .ref 1000002) r287_1392 rfl rfl rfl ?_
  refine x_ld (v := .int (Int32.ofNat i)) r287_1393 rfl rfl rfl ?_
  refine x_ic (v := 3) r287_1395 rfl rfl ?_
  refine x_ar r287_1396 rfl trivial rfl ?_
  refine am_topI (v := Int32.ofNat (i + 3)) (q_add i 3).symm ?_
  refine y_ialX (e := (i + 3)) r287_1397 (q_vx hL (by omega)) (q_tn (by omega)) rfl ?_
  refine x_call1 (as := [.ref 106, .int (xs (i + 1)), .int (xs (i + 2)), .int (xs (i + 3))]) (rest := []) r287_1398 rfl rfl rfl (by decide) (Nat.le_of_ble_eq_true rfl) (m119_ok h2) (Nat.le_trans (by decide) hd) hc hs rfl ?_
  refine x_sto (lc' := [.ref 1000002, .ref 0, .ref 106, .ref 124, .ref 125, .int (Int32.ofNat i), .int r, .int b, am_dead, am_dead]) (st' := []) r287_1401 rfl rfl rfl rfl ?_
  refine x_ld (v := .ref 106) r287_1403 rfl rfl rfl ?_
  refine x_call1 (as := [.ref 106]) (rest := []) r287_1404 rfl rfl rfl (by decide) (Nat.le_of_ble_eq_true rfl) (m45_ok (r := D2.1 106 0) rfl) (Nat.le_trans (by decide) hd) hc hs rfl ?_
  refine x_ld (v := .int r) r287_1407 rfl rfl rfl ?_
  refine x_iceqT r287_1409 h3 ?_
  refine x_ld (v := .int r) r287_1414 rfl rfl rfl ?_
  by_cases q : r = 0
  · refine x_ifneT r287_1416 q rfl ?_
    refine x_ld (v := .ref 124) r287_1419 rfl rfl rfl ?_
    refine x_ic (v := 0) r287_1420 rfl rfl ?_
    refine y_lal (n := 1) (e := 0) r287_1421 rfl (by decide) (by decide) rfl rfl ?_
    refine x_ld (v := .int b) r287_1422 rfl rfl rfl ?_
    refine x_ar r287_1424 rfl trivial rfl ?_
    refine x_ar r287_1425 rfl trivial rfl ?_
    refine am_topI (v := 0) (by rw [h4 q, q_lgc]) ?_
    refine x_ifeqT r287_1426 rfl ?_
    refine x_goto r287_1431 ?_
    exact x_forget (lc0 := [.ref 1000002, .ref 0, .ref 106, .ref 124, .ref 125, .int (Int32.ofNat i), am_dead, am_dead, am_dead, am_dead]) ⟨Or.inl rfl, Or.inl rfl, Or.inl rfl, Or.inl rfl, Or.inl rfl, Or.inl rfl, Or.inr ⟨rfl, rfl⟩, Or.inr ⟨rfl, rfl⟩, Or.inl rfl, Or.inl rfl, trivial⟩ (nx D2 _ _ h5 (Nat.le_refl _) (Nat.le_refl _))
  · refine x_ifneF r287_1416 q ?_
    refine x_goto r287_1431 ?_
    exact x_forget (lc0 := [.ref 1000002, .ref 0, .ref 106, .ref 124, .ref 125, .int (Int32.ofNat i), am_dead, am_dead, am_dead, am_dead]) ⟨Or.inl rfl, Or.inl rfl, Or.inl rfl, Or.inl rfl, Or.inl rfl, Or.inl rfl, Or.inr ⟨rfl, rfl⟩, Or.inr ⟨rfl, rfl⟩, Or.inl rfl, Or.inl rfl, trivial⟩ (nx D2 _ _ h5 (Nat.le_refl _) (Nat.le_refl _))
theorem law_23 (hi : i + 5 ≤ L) (hL : L ≤ 2560) (hN : 2000 ≤ N) (hI : q_I D) (hc : c + 1 ≤ mc) (hs : s + 6 ≤ ms) (hd : 57 ≤ d) (nx : ∀ D' c' s', q_I D' → c' ≤ c + 1 → s' ≤ s + 6 → am_X xs L 287 d mc ms 1956 [.ref 1000002, .ref 0, .ref 106, .ref 124, .ref 125, .int (Int32.ofNat i), am_dead, am_dead, am_dead, am_dead] [] (am_mk D') c' s' Q) : am_X xs L 287 d mc ms 1434 [.ref 1000002, .ref 0, .ref 106, .ref 124, .ref 125, .int (Int32.ofNat i), am_dead, am_dead, am_dead, am_dead] [] (am_mk D) c s Q := by
  obtain ⟨r, D1, b, D2, h1, h2, h3, h4, h5⟩ := g_deals hN hI (xs (i + 1)) (xs (i + 2))
  refine x_ld (v := .ref 0) r287_1434 rfl rfl rfl ?_
  refine x_ld (v := .ref 1000002) r287_1435 rfl rfl rfl ?_
  refine x_ld (v := .int (Int32.ofNat i)) r287_1436 rfl rfl rfl ?_
  refine x_ic (v := 1) r287_1438 rfl rfl ?_
  refine x_ar r287_1439 rfl trivial rfl ?_
  refine am_topI (v := Int32.ofNat (i + 1)) (q_add i 1).symm ?_
  refine y_ialX (e := (i + 1)) r287_1440 (q_vx hL (by omega)) (q_tn (by omega)) rfl ?_
  refine x_ld (v := .ref 1000002) r287_1441 rfl rfl rfl ?_
  refine x_ld (v := .int (Int32.ofNat i)) r287_1442 rfl rfl rfl ?_
  refine x_ic (v := 2) r287_1444 rfl rfl ?_
  refine x_ar r287_1445 rfl trivial rfl ?_
  refine am_topI (v := Int32.ofNat (i + 2)) (q_add i 2).symm ?_
  refine y_ialX (e := (i + 2)) r287_1446 (q_vx hL (by omega)) (q_tn (by omega)) rfl ?_
  refine x_ld (v := .ref 124) r287_1447 rfl rfl rfl ?_
  refine x_call1 (as := [.ref 0, .int (xs (i + 1)), .int (xs (i + 2)), .ref 124]) (rest := []) r287_1448 rfl rfl rfl (by decide) (Nat.le_of_ble_eq_true rfl) (m281_ok h1) (Nat.le_trans (by decide) hd) hc hs rfl ?_
  refine x_sto (lc' := [.ref 1000002, .ref 0, .ref 106, .ref 124, .ref 125, .int (Int32.ofNat i), .int r, am_dead, am_dead, am_dead]) (st' := []) r287_1451 rfl rfl rfl rfl ?_
  refine x_ld (v := .ref 106) r287_1453 rfl rfl rfl ?_
  refine x_ld (v := .ref 1000002) r287_1454 rfl rfl rfl ?_
  refine x_ld (v := .int (Int32.ofNat i)) r287_1455 rfl rfl rfl ?_
  refine x_ic (v := 1) r287_1457 rfl rfl ?_
  refine x_ar r287_1458 rfl trivial rfl ?_
  refine am_topI (v := Int32.ofNat (i + 1)) (q_add i 1).symm ?_
  refine y_ialX (e := (i + 1)) r287_1459 (q_vx hL (by omega)) (q_tn (by omega)) rfl ?_
  refine x_ld (v := .ref 1000002) r287_1460 rfl rfl rfl ?_
  refine x_ld (v := .int (Int32.ofNat i)) r287_1461 rfl rfl rfl ?_
  refine x_ic (v := 2) r287_1463 rfl rfl ?_
  refine x_ar r287_1464 rfl trivial rfl ?_
  refine am_topI (v := Int32.ofNat (i + 2)) (q_add i 2).symm ?_
  refine y_ialX (e := (i + 2)) r287_1465 (q_vx hL (by omega)) (q_tn (by omega)) rfl ?_
  refine x_call1 (as := [.ref 106, .int (xs (i + 1)), .int (xs (i + 2))]) (rest := []) r287_1466 rfl rfl rfl (by decide) (Nat.le_of_ble_eq_true rfl) (m123_ok h2) (Nat.le_trans (by decide) hd) hc hs rfl ?_
  refine x_sto (lc' := [.ref 1000002, .ref 0, .ref 106, .ref 124, .ref 125, .int (Int32.ofNat i), .int r, .int b, am_dead, am_dead]) (st' := []) r287_1469 rfl rfl rfl rfl ?_
  refine x_ld (v := .ref 106) r287_1471 rfl rfl rfl ?_
  refine x_call1 (as := [.ref 106]) (rest := []) r287_1472 rfl rfl rfl (by decide) (Nat.le_of_ble_eq_true rfl) (m45_ok (r := D2.1 106 0) rfl) (Nat.le_trans (by decide) hd) hc hs rfl ?_
  refine x_ld (v := .int r) r287_1475 rfl rfl rfl ?_
  refine x_iceqT r287_1477 h3 ?_
  refine x_ld (v := .int r) r287_1482 rfl rfl rfl ?_
  by_cases q : r = 0
  · refine x_ifneT r287_1484 q rfl ?_
    refine x_ld (v := .ref 124) r287_1487 rfl rfl rfl ?_
    refine x_ic (v := 0) r287_1488 rfl rfl ?_
    refine y_lal (n := 1) (e := 0) r287_1489 rfl (by decide) (by decide) rfl rfl ?_
    refine x_ld (v := .int b) r287_1490 rfl rfl rfl ?_
    refine x_ar r287_1492 rfl trivial rfl ?_
    refine x_ar r287_1493 rfl trivial rfl ?_
    refine am_topI (v := 0) (by rw [h4 q, q_lgc]) ?_
    refine x_ifeqT r287_1494 rfl ?_
    refine x_goto r287_1499 ?_
    exact x_forget (lc0 := [.ref 1000002, .ref 0, .ref 106, .ref 124, .ref 125, .int (Int32.ofNat i), am_dead, am_dead, am_dead, am_dead]) ⟨Or.inl rfl, Or.inl rfl, Or.inl rfl, Or.inl rfl, Or.inl rfl, Or.inl rfl, Or.inr ⟨rfl, rfl⟩, Or.inr ⟨rfl, rfl⟩, Or.inl rfl, Or.inl rfl, trivial⟩ (nx D2 _ _ h5 (Nat.le_refl _) (Nat.le_refl _))
  · refine x_ifneF r287_1484 q ?_
    refine x_goto r287_1499 ?_
    exact x_forget (lc0 := [.ref 1000002, .ref 0, .ref 106, .ref 124, .ref 125, .int (Int32.ofNat i), am_dead, am_dead, am_dead, am_dead]) ⟨Or.inl rfl, Or.inl rfl, Or.inl rfl, Or.inl rfl, Or.inl rfl, Or.inl rfl, Or.inr ⟨rfl, rfl⟩, Or.inr ⟨rfl, rfl⟩, Or.inl rfl, Or.inl rfl, trivial⟩ (nx D2 _ _ h5 (Nat.le_refl _) (Nat.le_refl _))
end TA3
