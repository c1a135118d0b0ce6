/-! decode rows -/
theorem dX12_init_1123 : decode cX12_init 1123 = .ok (.sipush 178, 3) := by decide +kernel
theorem dX12_init_1126 : decode cX12_init 1126 = .ok (.bipush 111, 2) := by decide +kernel
theorem dX12_init_1128 : decode cX12_init 1128 = .ok (.iastore, 1) := by decide +kernel
theorem dX12_init_1129 : decode cX12_init 1129 = .ok (.dup, 1) := by decide +kernel
theorem dX12_init_1130 : decode cX12_init 1130 = .ok (.sipush 179, 3) := by decide +kernel
theorem dX12_init_1133 : decode cX12_init 1133 = .ok (.bipush 100, 2) := by decide +kernel
theorem dX12_init_1135 : decode cX12_init 1135 = .ok (.iastore, 1) := by decide +kernel
theorem dX12_init_1136 : decode cX12_init 1136 = .ok (.dup, 1) := by decide +kernel
theorem dX12_init_1137 : decode cX12_init 1137 = .ok (.sipush 180, 3) := by decide +kernel
theorem dX12_init_1140 : decode cX12_init 1140 = .ok (.bipush 32, 2) := by decide +kernel
theorem dX12_init_1142 : decode cX12_init 1142 = .ok (.iastore, 1) := by decide +kernel
theorem dX12_init_1143 : decode cX12_init 1143 = .ok (.dup, 1) := by decide +kernel
theorem dX12_init_1144 : decode cX12_init 1144 = .ok (.sipush 181, 3) := by decide +kernel
theorem dX12_init_1147 : decode cX12_init 1147 = .ok (.bipush 101, 2) := by decide +kernel
theorem dX12_init_1149 : decode cX12_init 1149 = .ok (.iastore, 1) := by decide +kernel
theorem dX12_init_1150 : decode cX12_init 1150 = .ok (.dup, 1) := by decide +kernel
theorem dX12_init_1151 : decode cX12_init 1151 = .ok (.sipush 182, 3) := by decide +kernel
theorem dX12_init_1154 : decode cX12_init 1154 = .ok (.bipush 120, 2) := by decide +kernel
theorem dX12_init_1156 : decode cX12_init 1156 = .ok (.iastore, 1) := by decide +kernel
theorem dX12_init_1157 : decode cX12_init 1157 = .ok (.dup, 1) := by decide +kernel
theorem dX12_init_1158 : decode cX12_init 1158 = .ok (.sipush 183, 3) := by decide +kernel
theorem dX12_init_1161 : decode cX12_init 1161 = .ok (.bipush 105, 2) := by decide +kernel
theorem dX12_init_1163 : decode cX12_init 1163 = .ok (.iastore, 1) := by decide +kernel
theorem dX12_init_1164 : decode cX12_init 1164 = .ok (.dup, 1) := by decide +kernel
theorem dX12_init_1165 : decode cX12_init 1165 = .ok (.sipush 184, 3) := by decide +kernel
theorem dX12_init_1168 : decode cX12_init 1168 = .ok (.bipush 115, 2) := by decide +kernel
theorem dX12_init_1170 : decode cX12_init 1170 = .ok (.iastore, 1) := by decide +kernel
theorem dX12_init_1171 : decode cX12_init 1171 = .ok (.dup, 1) := by decide +kernel
theorem dX12_init_1172 : decode cX12_init 1172 = .ok (.sipush 185, 3) := by decide +kernel
theorem dX12_init_1175 : decode cX12_init 1175 = .ok (.bipush 116, 2) := by decide +kernel
theorem dX12_init_1177 : decode cX12_init 1177 = .ok (.iastore, 1) := by decide +kernel
theorem dX12_init_1178 : decode cX12_init 1178 = .ok (.dup, 1) := by decide +kernel
theorem dX12_init_1179 : decode cX12_init 1179 = .ok (.sipush 186, 3) := by decide +kernel
theorem dX12_init_1182 : decode cX12_init 1182 = .ok (.bipush 115, 2) := by decide +kernel
theorem dX12_init_1184 : decode cX12_init 1184 = .ok (.iastore, 1) := by decide +kernel
theorem dX12_init_1185 : decode cX12_init 1185 = .ok (.dup, 1) := by decide +kernel
theorem dX12_init_1186 : decode cX12_init 1186 = .ok (.sipush 187, 3) := by decide +kernel
theorem dX12_init_1189 : decode cX12_init 1189 = .ok (.bipush 32, 2) := by decide +kernel
theorem dX12_init_1191 : decode cX12_init 1191 = .ok (.iastore, 1) := by decide +kernel
theorem dX12_init_1192 : decode cX12_init 1192 = .ok (.dup, 1) := by decide +kernel
theorem dX12_init_1193 : decode cX12_init 1193 = .ok (.sipush 188, 3) := by decide +kernel
theorem dX12_init_1196 : decode cX12_init 1196 = .ok (.bipush 102, 2) := by decide +kernel
theorem dX12_init_1198 : decode cX12_init 1198 = .ok (.iastore, 1) := by decide +kernel
theorem dX12_init_1199 : decode cX12_init 1199 = .ok (.dup, 1) := by decide +kernel
theorem dX12_init_1200 : decode cX12_init 1200 = .ok (.sipush 189, 3) := by decide +kernel
theorem dX12_init_1203 : decode cX12_init 1203 = .ok (.bipush 111, 2) := by decide +kernel
theorem dX12_init_1205 : decode cX12_init 1205 = .ok (.iastore, 1) := by decide +kernel
theorem dX12_init_1206 : decode cX12_init 1206 = .ok (.dup, 1) := by decide +kernel
theorem dX12_init_1207 : decode cX12_init 1207 = .ok (.sipush 190, 3) := by decide +kernel
theorem dX12_init_1210 : decode cX12_init 1210 = .ok (.bipush 114, 2) := by decide +kernel
theorem dX12_init_1212 : decode cX12_init 1212 = .ok (.iastore, 1) := by decide +kernel
theorem dX12_init_1213 : decode cX12_init 1213 = .ok (.dup, 1) := by decide +kernel
theorem dX12_init_1214 : decode cX12_init 1214 = .ok (.sipush 191, 3) := by decide +kernel
theorem dX12_init_1217 : decode cX12_init 1217 = .ok (.bipush 97, 2) := by decide +kernel
theorem dX12_init_1219 : decode cX12_init 1219 = .ok (.iastore, 1) := by decide +kernel
theorem dX12_init_1220 : decode cX12_init 1220 = .ok (.dup, 1) := by decide +kernel
theorem dX12_init_1221 : decode cX12_init 1221 = .ok (.sipush 192, 3) := by decide +kernel
theorem dX12_init_1224 : decode cX12_init 1224 = .ok (.bipush 108, 2) := by decide +kernel
theorem dX12_init_1226 : decode cX12_init 1226 = .ok (.iastore, 1) := by decide +kernel
theorem dX12_init_1227 : decode cX12_init 1227 = .ok (.dup, 1) := by decide +kernel
theorem dX12_init_1228 : decode cX12_init 1228 = .ok (.sipush 193, 3) := by decide +kernel
theorem dX12_init_1231 : decode cX12_init 1231 = .ok (.bipush 108, 2) := by decide +kernel
theorem dX12_init_1233 : decode cX12_init 1233 = .ok (.iastore, 1) := by decide +kernel
theorem dX12_init_1234 : decode cX12_init 1234 = .ok (.dup, 1) := by decide +kernel
theorem dX12_init_1235 : decode cX12_init 1235 = .ok (.sipush 194, 3) := by decide +kernel
theorem dX12_init_1238 : decode cX12_init 1238 = .ok (.bipush 32, 2) := by decide +kernel
theorem dX12_init_1240 : decode cX12_init 1240 = .ok (.iastore, 1) := by decide +kernel
theorem dX12_init_1241 : decode cX12_init 1241 = .ok (.dup, 1) := by decide +kernel
theorem dX12_init_1242 : decode cX12_init 1242 = .ok (.sipush 195, 3) := by decide +kernel
theorem dX12_init_1245 : decode cX12_init 1245 = .ok (.bipush 97, 2) := by decide +kernel
theorem dX12_init_1247 : decode cX12_init 1247 = .ok (.iastore, 1) := by decide +kernel
theorem dX12_init_1248 : decode cX12_init 1248 = .ok (.dup, 1) := by decide +kernel
theorem dX12_init_1249 : decode cX12_init 1249 = .ok (.sipush 196, 3) := by decide +kernel
theorem dX12_init_1252 : decode cX12_init 1252 = .ok (.bipush 98, 2) := by decide +kernel
theorem dX12_init_1254 : decode cX12_init 1254 = .ok (.iastore, 1) := by decide +kernel
theorem dX12_init_1255 : decode cX12_init 1255 = .ok (.dup, 1) := by decide +kernel
theorem dX12_init_1256 : decode cX12_init 1256 = .ok (.sipush 197, 3) := by decide +kernel
theorem dX12_init_1259 : decode cX12_init 1259 = .ok (.bipush 115, 2) := by decide +kernel
theorem dX12_init_1261 : decode cX12_init 1261 = .ok (.iastore, 1) := by decide +kernel
theorem dX12_init_1262 : decode cX12_init 1262 = .ok (.dup, 1) := by decide +kernel
theorem dX12_init_1263 : decode cX12_init 1263 = .ok (.sipush 198, 3) := by decide +kernel
theorem dX12_init_1266 : decode cX12_init 1266 = .ok (.bipush 32, 2) := by decide +kernel
theorem dX12_init_1268 : decode cX12_init 1268 = .ok (.iastore, 1) := by decide +kernel
theorem dX12_init_1269 : decode cX12_init 1269 = .ok (.dup, 1) := by decide +kernel
theorem dX12_init_1270 : decode cX12_init 1270 = .ok (.sipush 199, 3) := by decide +kernel
theorem dX12_init_1273 : decode cX12_init 1273 = .ok (.bipush 97, 2) := by decide +kernel
theorem dX12_init_1275 : decode cX12_init 1275 = .ok (.iastore, 1) := by decide +kernel
theorem dX12_init_1276 : decode cX12_init 1276 = .ok (.dup, 1) := by decide +kernel
theorem dX12_init_1277 : decode cX12_init 1277 = .ok (.sipush 200, 3) := by decide +kernel
theorem dX12_init_1280 : decode cX12_init 1280 = .ok (.bipush 114, 2) := by decide +kernel
theorem dX12_init_1282 : decode cX12_init 1282 = .ok (.iastore, 1) := by decide +kernel
theorem dX12_init_1283 : decode cX12_init 1283 = .ok (.dup, 1) := by decide +kernel
theorem dX12_init_1284 : decode cX12_init 1284 = .ok (.sipush 201, 3) := by decide +kernel
theorem dX12_init_1287 : decode cX12_init 1287 = .ok (.bipush 98, 2) := by decide +kernel
theorem dX12_init_1289 : decode cX12_init 1289 = .ok (.iastore, 1) := by decide +kernel
theorem dX12_init_1290 : decode cX12_init 1290 = .ok (.dup, 1) := by decide +kernel
theorem dX12_init_1291 : decode cX12_init 1291 = .ok (.sipush 202, 3) := by decide +kernel
theorem dX12_init_1294 : decode cX12_init 1294 = .ok (.bipush 32, 2) := by decide +kernel
theorem dX12_init_1296 : decode cX12_init 1296 = .ok (.iastore, 1) := by decide +kernel
theorem dX12_init_1297 : decode cX12_init 1297 = .ok (.dup, 1) := by decide +kernel
theorem dX12_init_1298 : decode cX12_init 1298 = .ok (.sipush 203, 3) := by decide +kernel
theorem dX12_init_1301 : decode cX12_init 1301 = .ok (.bipush 100, 2) := by decide +kernel
theorem dX12_init_1303 : decode cX12_init 1303 = .ok (.iastore, 1) := by decide +kernel
theorem dX12_init_1304 : decode cX12_init 1304 = .ok (.dup, 1) := by decide +kernel
theorem dX12_init_1305 : decode cX12_init 1305 = .ok (.sipush 204, 3) := by decide +kernel
theorem dX12_init_1308 : decode cX12_init 1308 = .ok (.bipush 111, 2) := by decide +kernel
theorem dX12_init_1310 : decode cX12_init 1310 = .ok (.iastore, 1) := by decide +kernel
theorem dX12_init_1311 : decode cX12_init 1311 = .ok (.dup, 1) := by decide +kernel
theorem dX12_init_1312 : decode cX12_init 1312 = .ok (.sipush 205, 3) := by decide +kernel
theorem dX12_init_1315 : decode cX12_init 1315 = .ok (.bipush 109, 2) := by decide +kernel
theorem dX12_init_1317 : decode cX12_init 1317 = .ok (.iastore, 1) := by decide +kernel
theorem dX12_init_1318 : decode cX12_init 1318 = .ok (.dup, 1) := by decide +kernel
theorem dX12_init_1319 : decode cX12_init 1319 = .ok (.sipush 206, 3) := by decide +kernel
theorem dX12_init_1322 : decode cX12_init 1322 = .ok (.bipush 97, 2) := by decide +kernel
theorem dX12_init_1324 : decode cX12_init 1324 = .ok (.iastore, 1) := by decide +kernel
theorem dX12_init_1325 : decode cX12_init 1325 = .ok (.dup, 1) := by decide +kernel
theorem dX12_init_1326 : decode cX12_init 1326 = .ok (.sipush 207, 3) := by decide +kernel
theorem dX12_init_1329 : decode cX12_init 1329 = .ok (.bipush 105, 2) := by decide +kernel
theorem dX12_init_1331 : decode cX12_init 1331 = .ok (.iastore, 1) := by decide +kernel
theorem dX12_init_1332 : decode cX12_init 1332 = .ok (.dup, 1) := by decide +kernel
theorem dX12_init_1333 : decode cX12_init 1333 = .ok (.sipush 208, 3) := by decide +kernel
theorem dX12_init_1336 : decode cX12_init 1336 = .ok (.bipush 110, 2) := by decide +kernel
theorem dX12_init_1338 : decode cX12_init 1338 = .ok (.iastore, 1) := by decide +kernel
theorem dX12_init_1339 : decode cX12_init 1339 = .ok (.dup, 1) := by decide +kernel
theorem dX12_init_1340 : decode cX12_init 1340 = .ok (.sipush 209, 3) := by decide +kernel
theorem dX12_init_1343 : decode cX12_init 1343 = .ok (.bipush 32, 2) := by decide +kernel
theorem dX12_init_1345 : decode cX12_init 1345 = .ok (.iastore, 1) := by decide +kernel
theorem dX12_init_1346 : decode cX12_init 1346 = .ok (.dup, 1) := by decide +kernel
theorem dX12_init_1347 : decode cX12_init 1347 = .ok (.sipush 210, 3) := by decide +kernel
theorem dX12_init_1350 : decode cX12_init 1350 = .ok (.bipush 114, 2) := by decide +kernel
theorem dX12_init_1352 : decode cX12_init 1352 = .ok (.iastore, 1) := by decide +kernel
theorem dX12_init_1353 : decode cX12_init 1353 = .ok (.dup, 1) := by decide +kernel
theorem dX12_init_1354 : decode cX12_init 1354 = .ok (.sipush 211, 3) := by decide +kernel
theorem dX12_init_1357 : decode cX12_init 1357 = .ok (.bipush 97, 2) := by decide +kernel
theorem dX12_init_1359 : decode cX12_init 1359 = .ok (.iastore, 1) := by decide +kernel
theorem dX12_init_1360 : decode cX12_init 1360 = .ok (.dup, 1) := by decide +kernel
theorem dX12_init_1361 : decode cX12_init 1361 = .ok (.sipush 212, 3) := by decide +kernel
theorem dX12_init_1364 : decode cX12_init 1364 = .ok (.bipush 110, 2) := by decide +kernel
theorem dX12_init_1366 : decode cX12_init 1366 = .ok (.iastore, 1) := by decide +kernel
theorem dX12_init_1367 : decode cX12_init 1367 = .ok (.dup, 1) := by decide +kernel
theorem dX12_init_1368 : decode cX12_init 1368 = .ok (.sipush 213, 3) := by decide +kernel
theorem dX12_init_1371 : decode cX12_init 1371 = .ok (.bipush 103, 2) := by decide +kernel
theorem dX12_init_1373 : decode cX12_init 1373 = .ok (.iastore, 1) := by decide +kernel
theorem dX12_init_1374 : decode cX12_init 1374 = .ok (.dup, 1) := by decide +kernel
theorem dX12_init_1375 : decode cX12_init 1375 = .ok (.sipush 214, 3) := by decide +kernel
theorem dX12_init_1378 : decode cX12_init 1378 = .ok (.bipush 101, 2) := by decide +kernel
theorem dX12_init_1380 : decode cX12_init 1380 = .ok (.iastore, 1) := by decide +kernel
theorem dX12_init_1381 : decode cX12_init 1381 = .ok (.dup, 1) := by decide +kernel
theorem dX12_init_1382 : decode cX12_init 1382 = .ok (.sipush 215, 3) := by decide +kernel
theorem dX12_init_1385 : decode cX12_init 1385 = .ok (.bipush 32, 2) := by decide +kernel
theorem dX12_init_1387 : decode cX12_init 1387 = .ok (.iastore, 1) := by decide +kernel
theorem dX12_init_1388 : decode cX12_init 1388 = .ok (.dup, 1) := by decide +kernel
theorem dX12_init_1389 : decode cX12_init 1389 = .ok (.sipush 216, 3) := by decide +kernel
theorem dX12_init_1392 : decode cX12_init 1392 = .ok (.bipush 112, 2) := by decide +kernel
theorem dX12_init_1394 : decode cX12_init 1394 = .ok (.iastore, 1) := by decide +kernel
theorem dX12_init_1395 : decode cX12_init 1395 = .ok (.dup, 1) := by decide +kernel
theorem dX12_init_1396 : decode cX12_init 1396 = .ok (.sipush 217, 3) := by decide +kernel
theorem dX12_init_1399 : decode cX12_init 1399 = .ok (.bipush 111, 2) := by decide +kernel
theorem dX12_init_1401 : decode cX12_init 1401 = .ok (.iastore, 1) := by decide +kernel
theorem dX12_init_1402 : decode cX12_init 1402 = .ok (.dup, 1) := by decide +kernel
theorem dX12_init_1403 : decode cX12_init 1403 = .ok (.sipush 218, 3) := by decide +kernel
theorem dX12_init_1406 : decode cX12_init 1406 = .ok (.bipush 119, 2) := by decide +kernel
theorem dX12_init_1408 : decode cX12_init 1408 = .ok (.iastore, 1) := by decide +kernel
theorem dX12_init_1409 : decode cX12_init 1409 = .ok (.dup, 1) := by decide +kernel
theorem dX12_init_1410 : decode cX12_init 1410 = .ok (.sipush 219, 3) := by decide +kernel
theorem dX12_init_1413 : decode cX12_init 1413 = .ok (.bipush 32, 2) := by decide +kernel
theorem dX12_init_1415 : decode cX12_init 1415 = .ok (.iastore, 1) := by decide +kernel
theorem dX12_init_1416 : decode cX12_init 1416 = .ok (.dup, 1) := by decide +kernel
theorem dX12_init_1417 : decode cX12_init 1417 = .ok (.sipush 220, 3) := by decide +kernel
theorem dX12_init_1420 : decode cX12_init 1420 = .ok (.bipush 116, 2) := by decide +kernel
theorem dX12_init_1422 : decode cX12_init 1422 = .ok (.iastore, 1) := by decide +kernel
theorem dX12_init_1423 : decode cX12_init 1423 = .ok (.dup, 1) := by decide +kernel
theorem dX12_init_1424 : decode cX12_init 1424 = .ok (.sipush 221, 3) := by decide +kernel
theorem dX12_init_1427 : decode cX12_init 1427 = .ok (.bipush 121, 2) := by decide +kernel
theorem dX12_init_1429 : decode cX12_init 1429 = .ok (.iastore, 1) := by decide +kernel
theorem dX12_init_1430 : decode cX12_init 1430 = .ok (.dup, 1) := by decide +kernel
theorem dX12_init_1431 : decode cX12_init 1431 = .ok (.sipush 222, 3) := by decide +kernel
theorem dX12_init_1434 : decode cX12_init 1434 = .ok (.bipush 112, 2) := by decide +kernel
theorem dX12_init_1436 : decode cX12_init 1436 = .ok (.iastore, 1) := by decide +kernel
theorem dX12_init_1437 : decode cX12_init 1437 = .ok (.dup, 1) := by decide +kernel
theorem dX12_init_1438 : decode cX12_init 1438 = .ok (.sipush 223, 3) := by decide +kernel
theorem dX12_init_1441 : decode cX12_init 1441 = .ok (.bipush 101, 2) := by decide +kernel
theorem dX12_init_1443 : decode cX12_init 1443 = .ok (.iastore, 1) := by decide +kernel
theorem dX12_init_1444 : decode cX12_init 1444 = .ok (.dup, 1) := by decide +kernel
theorem dX12_init_1445 : decode cX12_init 1445 = .ok (.sipush 224, 3) := by decide +kernel
theorem dX12_init_1448 : decode cX12_init 1448 = .ok (.bipush 32, 2) := by decide +kernel
theorem dX12_init_1450 : decode cX12_init 1450 = .ok (.iastore, 1) := by decide +kernel
theorem dX12_init_1451 : decode cX12_init 1451 = .ok (.dup, 1) := by decide +kernel
theorem dX12_init_1452 : decode cX12_init 1452 = .ok (.sipush 225, 3) := by decide +kernel
theorem dX12_init_1455 : decode cX12_init 1455 = .ok (.bipush 115, 2) := by decide +kernel
theorem dX12_init_1457 : decode cX12_init 1457 = .ok (.iastore, 1) := by decide +kernel
theorem dX12_init_1458 : decode cX12_init 1458 = .ok (.dup, 1) := by decide +kernel
theorem dX12_init_1459 : decode cX12_init 1459 = .ok (.sipush 226, 3) := by decide +kernel
theorem dX12_init_1462 : decode cX12_init 1462 = .ok (.bipush 116, 2) := by decide +kernel
theorem dX12_init_1464 : decode cX12_init 1464 = .ok (.iastore, 1) := by decide +kernel
theorem dX12_init_1465 : decode cX12_init 1465 = .ok (.dup, 1) := by decide +kernel
theorem dX12_init_1466 : decode cX12_init 1466 = .ok (.sipush 227, 3) := by decide +kernel
theorem dX12_init_1469 : decode cX12_init 1469 = .ok (.bipush 114, 2) := by decide +kernel
theorem dX12_init_1471 : decode cX12_init 1471 = .ok (.iastore, 1) := by decide +kernel
theorem dX12_init_1472 : decode cX12_init 1472 = .ok (.dup, 1) := by decide +kernel
theorem dX12_init_1473 : decode cX12_init 1473 = .ok (.sipush 228, 3) := by decide +kernel
theorem dX12_init_1476 : decode cX12_init 1476 = .ok (.bipush 32, 2) := by decide +kernel
theorem dX12_init_1478 : decode cX12_init 1478 = .ok (.iastore, 1) := by decide +kernel
theorem dX12_init_1479 : decode cX12_init 1479 = .ok (.dup, 1) := by decide +kernel
theorem dX12_init_1480 : decode cX12_init 1480 = .ok (.sipush 229, 3) := by decide +kernel
theorem dX12_init_1483 : decode cX12_init 1483 = .ok (.bipush 99, 2) := by decide +kernel
theorem dX12_init_1485 : decode cX12_init 1485 = .ok (.iastore, 1) := by decide +kernel
theorem dX12_init_1486 : decode cX12_init 1486 = .ok (.dup, 1) := by decide +kernel
theorem dX12_init_1487 : decode cX12_init 1487 = .ok (.sipush 230, 3) := by decide +kernel
theorem dX12_init_1490 : decode cX12_init 1490 = .ok (.bipush 104, 2) := by decide +kernel
theorem dX12_init_1492 : decode cX12_init 1492 = .ok (.iastore, 1) := by decide +kernel
theorem dX12_init_1493 : decode cX12_init 1493 = .ok (.dup, 1) := by decide +kernel
theorem dX12_init_1494 : decode cX12_init 1494 = .ok (.sipush 231, 3) := by decide +kernel
theorem dX12_init_1497 : decode cX12_init 1497 = .ok (.bipush 97, 2) := by decide +kernel
theorem dX12_init_1499 : decode cX12_init 1499 = .ok (.iastore, 1) := by decide +kernel
theorem dX12_init_1500 : decode cX12_init 1500 = .ok (.dup, 1) := by decide +kernel
theorem dX12_init_1501 : decode cX12_init 1501 = .ok (.sipush 232, 3) := by decide +kernel
theorem dX12_init_1504 : decode cX12_init 1504 = .ok (.bipush 114, 2) := by decide +kernel
theorem dX12_init_1506 : decode cX12_init 1506 = .ok (.iastore, 1) := by decide +kernel
theorem dX12_init_1507 : decode cX12_init 1507 = .ok (.dup, 1) := by decide +kernel
theorem dX12_init_1508 : decode cX12_init 1508 = .ok (.sipush 233, 3) := by decide +kernel
theorem dX12_init_1511 : decode cX12_init 1511 = .ok (.bipush 32, 2) := by decide +kernel
theorem dX12_init_1513 : decode cX12_init 1513 = .ok (.iastore, 1) := by decide +kernel
theorem dX12_init_1514 : decode cX12_init 1514 = .ok (.dup, 1) := by decide +kernel
theorem dX12_init_1515 : decode cX12_init 1515 = .ok (.sipush 234, 3) := by decide +kernel
theorem dX12_init_1518 : decode cX12_init 1518 = .ok (.bipush 99, 2) := by decide +kernel
theorem dX12_init_1520 : decode cX12_init 1520 = .ok (.iastore, 1) := by decide +kernel
theorem dX12_init_1521 : decode cX12_init 1521 = .ok (.dup, 1) := by decide +kernel
theorem dX12_init_1522 : decode cX12_init 1522 = .ok (.sipush 235, 3) := by decide +kernel
theorem dX12_init_1525 : decode cX12_init 1525 = .ok (.bipush 111, 2) := by decide +kernel
theorem dX12_init_1527 : decode cX12_init 1527 = .ok (.iastore, 1) := by decide +kernel
theorem dX12_init_1528 : decode cX12_init 1528 = .ok (.dup, 1) := by decide +kernel
theorem dX12_init_1529 : decode cX12_init 1529 = .ok (.sipush 236, 3) := by decide +kernel
theorem dX12_init_1532 : decode cX12_init 1532 = .ok (.bipush 100, 2) := by decide +kernel
theorem dX12_init_1534 : decode cX12_init 1534 = .ok (.iastore, 1) := by decide +kernel
theorem dX12_init_1535 : decode cX12_init 1535 = .ok (.dup, 1) := by decide +kernel
theorem dX12_init_1536 : decode cX12_init 1536 = .ok (.sipush 237, 3) := by decide +kernel
theorem dX12_init_1539 : decode cX12_init 1539 = .ok (.bipush 101, 2) := by decide +kernel
theorem dX12_init_1541 : decode cX12_init 1541 = .ok (.iastore, 1) := by decide +kernel
theorem dX12_init_1542 : decode cX12_init 1542 = .ok (.dup, 1) := by decide +kernel
theorem dX12_init_1543 : decode cX12_init 1543 = .ok (.sipush 238, 3) := by decide +kernel
theorem dX12_init_1546 : decode cX12_init 1546 = .ok (.bipush 32, 2) := by decide +kernel
theorem dX12_init_1548 : decode cX12_init 1548 = .ok (.iastore, 1) := by decide +kernel
theorem dX12_init_1549 : decode cX12_init 1549 = .ok (.dup, 1) := by decide +kernel
theorem dX12_init_1550 : decode cX12_init 1550 = .ok (.sipush 239, 3) := by decide +kernel
theorem dX12_init_1553 : decode cX12_init 1553 = .ok (.bipush 109, 2) := by decide +kernel
theorem dX12_init_1555 : decode cX12_init 1555 = .ok (.iastore, 1) := by decide +kernel
theorem dX12_init_1556 : decode cX12_init 1556 = .ok (.dup, 1) := by decide +kernel
theorem dX12_init_1557 : decode cX12_init 1557 = .ok (.sipush 240, 3) := by decide +kernel
theorem dX12_init_1560 : decode cX12_init 1560 = .ok (.bipush 105, 2) := by decide +kernel
theorem dX12_init_1562 : decode cX12_init 1562 = .ok (.iastore, 1) := by decide +kernel
theorem dX12_init_1563 : decode cX12_init 1563 = .ok (.dup, 1) := by decide +kernel
theorem dX12_init_1564 : decode cX12_init 1564 = .ok (.sipush 241, 3) := by decide +kernel
theorem dX12_init_1567 : decode cX12_init 1567 = .ok (.bipush 110, 2) := by decide +kernel
theorem dX12_init_1569 : decode cX12_init 1569 = .ok (.iastore, 1) := by decide +kernel
theorem dX12_init_1570 : decode cX12_init 1570 = .ok (.dup, 1) := by decide +kernel
theorem dX12_init_1571 : decode cX12_init 1571 = .ok (.sipush 242, 3) := by decide +kernel
theorem dX12_init_1574 : decode cX12_init 1574 = .ok (.bipush 32, 2) := by decide +kernel
theorem dX12_init_1576 : decode cX12_init 1576 = .ok (.iastore, 1) := by decide +kernel
theorem dX12_init_1577 : decode cX12_init 1577 = .ok (.dup, 1) := by decide +kernel
theorem dX12_init_1578 : decode cX12_init 1578 = .ok (.sipush 243, 3) := by decide +kernel
theorem dX12_init_1581 : decode cX12_init 1581 = .ok (.bipush 109, 2) := by decide +kernel
theorem dX12_init_1583 : decode cX12_init 1583 = .ok (.iastore, 1) := by decide +kernel
theorem dX12_init_1584 : decode cX12_init 1584 = .ok (.dup, 1) := by decide +kernel
theorem dX12_init_1585 : decode cX12_init 1585 = .ok (.sipush 244, 3) := by decide +kernel
theorem dX12_init_1588 : decode cX12_init 1588 = .ok (.bipush 97, 2) := by decide +kernel
theorem dX12_init_1590 : decode cX12_init 1590 = .ok (.iastore, 1) := by decide +kernel
theorem dX12_init_1591 : decode cX12_init 1591 = .ok (.dup, 1) := by decide +kernel
theorem dX12_init_1592 : decode cX12_init 1592 = .ok (.sipush 245, 3) := by decide +kernel
theorem dX12_init_1595 : decode cX12_init 1595 = .ok (.bipush 120, 2) := by decide +kernel
theorem dX12_init_1597 : decode cX12_init 1597 = .ok (.iastore, 1) := by decide +kernel
theorem dX12_init_1598 : decode cX12_init 1598 = .ok (.dup, 1) := by decide +kernel
theorem dX12_init_1599 : decode cX12_init 1599 = .ok (.sipush 246, 3) := by decide +kernel
theorem dX12_init_1602 : decode cX12_init 1602 = .ok (.bipush 32, 2) := by decide +kernel
theorem dX12_init_1604 : decode cX12_init 1604 = .ok (.iastore, 1) := by decide +kernel
theorem dX12_init_1605 : decode cX12_init 1605 = .ok (.dup, 1) := by decide +kernel
theorem dX12_init_1606 : decode cX12_init 1606 = .ok (.sipush 247, 3) := by decide +kernel
theorem dX12_init_1609 : decode cX12_init 1609 = .ok (.bipush 114, 2) := by decide +kernel
theorem dX12_init_1611 : decode cX12_init 1611 = .ok (.iastore, 1) := by decide +kernel
theorem dX12_init_1612 : decode cX12_init 1612 = .ok (.dup, 1) := by decide +kernel
theorem dX12_init_1613 : decode cX12_init 1613 = .ok (.sipush 248, 3) := by decide +kernel
theorem dX12_init_1616 : decode cX12_init 1616 = .ok (.bipush 101, 2) := by decide +kernel
theorem dX12_init_1618 : decode cX12_init 1618 = .ok (.iastore, 1) := by decide +kernel
theorem dX12_init_1619 : decode cX12_init 1619 = .ok (.dup, 1) := by decide +kernel
theorem dX12_init_1620 : decode cX12_init 1620 = .ok (.sipush 249, 3) := by decide +kernel
theorem dX12_init_1623 : decode cX12_init 1623 = .ok (.bipush 118, 2) := by decide +kernel
theorem dX12_init_1625 : decode cX12_init 1625 = .ok (.iastore, 1) := by decide +kernel
theorem dX12_init_1626 : decode cX12_init 1626 = .ok (.dup, 1) := by decide +kernel
theorem dX12_init_1627 : decode cX12_init 1627 = .ok (.sipush 250, 3) := by decide +kernel
theorem dX12_init_1630 : decode cX12_init 1630 = .ok (.bipush 32, 2) := by decide +kernel
theorem dX12_init_1632 : decode cX12_init 1632 = .ok (.iastore, 1) := by decide +kernel
theorem dX12_init_1633 : decode cX12_init 1633 = .ok (.dup, 1) := by decide +kernel
theorem dX12_init_1634 : decode cX12_init 1634 = .ok (.sipush 251, 3) := by decide +kernel
theorem dX12_init_1637 : decode cX12_init 1637 = .ok (.bipush 110, 2) := by decide +kernel
theorem dX12_init_1639 : decode cX12_init 1639 = .ok (.iastore, 1) := by decide +kernel
theorem dX12_init_1640 : decode cX12_init 1640 = .ok (.dup, 1) := by decide +kernel
theorem dX12_init_1641 : decode cX12_init 1641 = .ok (.sipush 252, 3) := by decide +kernel
theorem dX12_init_1644 : decode cX12_init 1644 = .ok (.bipush 101, 2) := by decide +kernel
theorem dX12_init_1646 : decode cX12_init 1646 = .ok (.iastore, 1) := by decide +kernel
theorem dX12_init_1647 : decode cX12_init 1647 = .ok (.dup, 1) := by decide +kernel
theorem dX12_init_1648 : decode cX12_init 1648 = .ok (.sipush 253, 3) := by decide +kernel
theorem dX12_init_1651 : decode cX12_init 1651 = .ok (.bipush 119, 2) := by decide +kernel
theorem dX12_init_1653 : decode cX12_init 1653 = .ok (.iastore, 1) := by decide +kernel
theorem dX12_init_1654 : decode cX12_init 1654 = .ok (.dup, 1) := by decide +kernel
theorem dX12_init_1655 : decode cX12_init 1655 = .ok (.sipush 254, 3) := by decide +kernel
theorem dX12_init_1658 : decode cX12_init 1658 = .ok (.bipush 97, 2) := by decide +kernel
theorem dX12_init_1660 : decode cX12_init 1660 = .ok (.iastore, 1) := by decide +kernel
theorem dX12_init_1661 : decode cX12_init 1661 = .ok (.dup, 1) := by decide +kernel
theorem dX12_init_1662 : decode cX12_init 1662 = .ok (.sipush 255, 3) := by decide +kernel
theorem dX12_init_1665 : decode cX12_init 1665 = .ok (.bipush 116, 2) := by decide +kernel
theorem dX12_init_1667 : decode cX12_init 1667 = .ok (.iastore, 1) := by decide +kernel
theorem dX12_init_1668 : decode cX12_init 1668 = .ok (.dup, 1) := by decide +kernel
theorem dX12_init_1669 : decode cX12_init 1669 = .ok (.sipush 256, 3) := by decide +kernel
theorem dX12_init_1672 : decode cX12_init 1672 = .ok (.bipush 32, 2) := by decide +kernel
theorem dX12_init_1674 : decode cX12_init 1674 = .ok (.iastore, 1) := by decide +kernel
theorem dX12_init_1675 : decode cX12_init 1675 = .ok (.dup, 1) := by decide +kernel
theorem dX12_init_1676 : decode cX12_init 1676 = .ok (.sipush 257, 3) := by decide +kernel
theorem dX12_init_1679 : decode cX12_init 1679 = .ok (.bipush 114, 2) := by decide +kernel
theorem dX12_init_1681 : decode cX12_init 1681 = .ok (.iastore, 1) := by decide +kernel
theorem dX12_init_1682 : decode cX12_init 1682 = .ok (.dup, 1) := by decide +kernel
theorem dX12_init_1683 : decode cX12_init 1683 = .ok (.sipush 258, 3) := by decide +kernel
theorem dX12_init_1686 : decode cX12_init 1686 = .ok (.bipush 97, 2) := by decide +kernel
theorem dX12_init_1688 : decode cX12_init 1688 = .ok (.iastore, 1) := by decide +kernel
theorem dX12_init_1689 : decode cX12_init 1689 = .ok (.dup, 1) := by decide +kernel
theorem dX12_init_1690 : decode cX12_init 1690 = .ok (.sipush 259, 3) := by decide +kernel
theorem dX12_init_1693 : decode cX12_init 1693 = .ok (.bipush 110, 2) := by decide +kernel
theorem dX12_init_1695 : decode cX12_init 1695 = .ok (.iastore, 1) := by decide +kernel
theorem dX12_init_1696 : decode cX12_init 1696 = .ok (.dup, 1) := by decide +kernel
theorem dX12_init_1697 : decode cX12_init 1697 = .ok (.sipush 260, 3) := by decide +kernel
theorem dX12_init_1700 : decode cX12_init 1700 = .ok (.bipush 100, 2) := by decide +kernel
theorem dX12_init_1702 : decode cX12_init 1702 = .ok (.iastore, 1) := by decide +kernel
theorem dX12_init_1703 : decode cX12_init 1703 = .ok (.dup, 1) := by decide +kernel
theorem dX12_init_1704 : decode cX12_init 1704 = .ok (.sipush 261, 3) := by decide +kernel
theorem dX12_init_1707 : decode cX12_init 1707 = .ok (.bipush 111, 2) := by decide +kernel
theorem dX12_init_1709 : decode cX12_init 1709 = .ok (.iastore, 1) := by decide +kernel
theorem dX12_init_1710 : decode cX12_init 1710 = .ok (.dup, 1) := by decide +kernel
theorem dX12_init_1711 : decode cX12_init 1711 = .ok (.sipush 262, 3) := by decide +kernel
theorem dX12_init_1714 : decode cX12_init 1714 = .ok (.bipush 109, 2) := by decide +kernel
theorem dX12_init_1716 : decode cX12_init 1716 = .ok (.iastore, 1) := by decide +kernel
theorem dX12_init_1717 : decode cX12_init 1717 = .ok (.dup, 1) := by decide +kernel
theorem dX12_init_1718 : decode cX12_init 1718 = .ok (.sipush 263, 3) := by decide +kernel
theorem dX12_init_1721 : decode cX12_init 1721 = .ok (.bipush 32, 2) := by decide +kernel
theorem dX12_init_1723 : decode cX12_init 1723 = .ok (.iastore, 1) := by decide +kernel
theorem dX12_init_1724 : decode cX12_init 1724 = .ok (.putfield 62, 3) := by decide +kernel
theorem dX12_init_1727 : decode cX12_init 1727 = .ok (.aload_n 0, 1) := by decide +kernel
theorem dX12_init_1728 : decode cX12_init 1728 = .ok (.bipush 37, 2) := by decide +kernel
theorem dX12_init_1730 : decode cX12_init 1730 = .ok (.newarray .int, 2) := by decide +kernel
theorem dX12_init_1732 : decode cX12_init 1732 = .ok (.dup, 1) := by decide +kernel
theorem dX12_init_1733 : decode cX12_init 1733 = .ok (.iconst 0, 1) := by decide +kernel
theorem dX12_init_1734 : decode cX12_init 1734 = .ok (.bipush 111, 2) := by decide +kernel
theorem dX12_init_1736 : decode cX12_init 1736 = .ok (.iastore, 1) := by decide +kernel
theorem dX12_init_1737 : decode cX12_init 1737 = .ok (.dup, 1) := by decide +kernel
theorem dX12_init_1738 : decode cX12_init 1738 = .ok (.iconst 1, 1) := by decide +kernel
theorem dX12_init_1739 : decode cX12_init 1739 = .ok (.bipush 109, 2) := by decide +kernel
theorem dX12_init_1741 : decode cX12_init 1741 = .ok (.iastore, 1) := by decide +kernel
theorem dX12_init_1742 : decode cX12_init 1742 = .ok (.dup, 1) := by decide +kernel
theorem dX12_init_1743 : decode cX12_init 1743 = .ok (.iconst 2, 1) := by decide +kernel
theorem dX12_init_1744 : decode cX12_init 1744 = .ok (.bipush 32, 2) := by decide +kernel
theorem dX12_init_1746 : decode cX12_init 1746 = .ok (.iastore, 1) := by decide +kernel
