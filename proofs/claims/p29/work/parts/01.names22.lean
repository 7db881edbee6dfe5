theorem dL_acts_1139 : decode cL_acts 1139 = .ok (.iload 11, 2) := by decide +kernel
theorem dL_acts_1141 : decode cL_acts 1141 = .ok (.invokevirtual 43, 3) := by decide +kernel
theorem dL_acts_1144 : decode cL_acts 1144 = .ok (.bipush (-2), 2) := by decide +kernel
theorem dL_acts_1146 : decode cL_acts 1146 = .ok (.if_icmp .ne 7, 3) := by decide +kernel
theorem dL_acts_1149 : decode cL_acts 1149 = .ok (.iconst 1, 1) := by decide +kernel
theorem dL_acts_1150 : decode cL_acts 1150 = .ok (.goto 4, 3) := by decide +kernel
theorem dL_acts_1153 : decode cL_acts 1153 = .ok (.iconst 0, 1) := by decide +kernel
theorem dL_acts_1154 : decode cL_acts 1154 = .ok (.ireturn, 1) := by decide +kernel
theorem dL_acts_1155 : decode cL_acts 1155 = .ok (.aload_n 1, 1) := by decide +kernel
theorem dL_acts_1156 : decode cL_acts 1156 = .ok (.aload 4, 2) := by decide +kernel
theorem dL_acts_1158 : decode cL_acts 1158 = .ok (.aload 5, 2) := by decide +kernel
theorem dL_acts_1160 : decode cL_acts 1160 = .ok (.iload 11, 2) := by decide +kernel
theorem dL_acts_1162 : decode cL_acts 1162 = .ok (.invokestatic 55, 3) := by decide +kernel
theorem dL_acts_1165 : decode cL_acts 1165 = .ok (.istore 13, 2) := by decide +kernel
theorem dL_acts_1167 : decode cL_acts 1167 = .ok (.aload_n 1, 1) := by decide +kernel
theorem dL_acts_1168 : decode cL_acts 1168 = .ok (.aload_n 3, 1) := by decide +kernel
theorem dL_acts_1169 : decode cL_acts 1169 = .ok (.aload 4, 2) := by decide +kernel
theorem dL_acts_1171 : decode cL_acts 1171 = .ok (.iload 11, 2) := by decide +kernel
theorem dL_acts_1173 : decode cL_acts 1173 = .ok (.iconst 0, 1) := by decide +kernel
theorem dL_acts_1174 : decode cL_acts 1174 = .ok (.invokestatic 59, 3) := by decide +kernel
theorem dL_acts_1177 : decode cL_acts 1177 = .ok (.aload_n 2, 1) := by decide +kernel
theorem dL_acts_1178 : decode cL_acts 1178 = .ok (.iconst 3, 1) := by decide +kernel
theorem dL_acts_1179 : decode cL_acts 1179 = .ok (.iaload, 1) := by decide +kernel
theorem dL_acts_1180 : decode cL_acts 1180 = .ok (.if_icmp .le 8, 3) := by decide +kernel
theorem dL_acts_1183 : decode cL_acts 1183 = .ok (.iload 13, 2) := by decide +kernel
theorem dL_acts_1185 : decode cL_acts 1185 = .ok (.goto 7, 3) := by decide +kernel
theorem dL_acts_1188 : decode cL_acts 1188 = .ok (.iload 13, 2) := by decide +kernel
theorem dL_acts_1190 : decode cL_acts 1190 = .ok (.iconst 2, 1) := by decide +kernel
theorem dL_acts_1191 : decode cL_acts 1191 = .ok (.idiv, 1) := by decide +kernel
theorem dL_acts_1192 : decode cL_acts 1192 = .ok (.istore 14, 2) := by decide +kernel
theorem dL_acts_1194 : decode cL_acts 1194 = .ok (.aload_n 1, 1) := by decide +kernel
theorem dL_acts_1195 : decode cL_acts 1195 = .ok (.aload 4, 2) := by decide +kernel
theorem dL_acts_1197 : decode cL_acts 1197 = .ok (.aload 5, 2) := by decide +kernel
theorem dL_acts_1199 : decode cL_acts 1199 = .ok (.aload 6, 2) := by decide +kernel
theorem dL_acts_1201 : decode cL_acts 1201 = .ok (.iload 11, 2) := by decide +kernel
theorem dL_acts_1203 : decode cL_acts 1203 = .ok (.iload 14, 2) := by decide +kernel
theorem dL_acts_1205 : decode cL_acts 1205 = .ok (.invokestatic 63, 3) := by decide +kernel
theorem dL_acts_1208 : decode cL_acts 1208 = .ok (.aload 4, 2) := by decide +kernel
theorem dL_acts_1210 : decode cL_acts 1210 = .ok (.bipush 9, 2) := by decide +kernel
theorem dL_acts_1212 : decode cL_acts 1212 = .ok (.iload 11, 2) := by decide +kernel
theorem dL_acts_1214 : decode cL_acts 1214 = .ok (.imul, 1) := by decide +kernel
theorem dL_acts_1215 : decode cL_acts 1215 = .ok (.iconst 3, 1) := by decide +kernel
theorem dL_acts_1216 : decode cL_acts 1216 = .ok (.iadd, 1) := by decide +kernel
theorem dL_acts_1217 : decode cL_acts 1217 = .ok (.iconst 2, 1) := by decide +kernel
theorem dL_acts_1218 : decode cL_acts 1218 = .ok (.iastore, 1) := by decide +kernel
theorem dL_acts_1219 : decode cL_acts 1219 = .ok (.aload_n 0, 1) := by decide +kernel
theorem dL_acts_1220 : decode cL_acts 1220 = .ok (.iload 11, 2) := by decide +kernel
theorem dL_acts_1222 : decode cL_acts 1222 = .ok (.invokevirtual 43, 3) := by decide +kernel
theorem dL_acts_1225 : decode cL_acts 1225 = .ok (.iload 14, 2) := by decide +kernel
theorem dL_acts_1227 : decode cL_acts 1227 = .ok (.if_icmp .ne 7, 3) := by decide +kernel
theorem dL_acts_1230 : decode cL_acts 1230 = .ok (.iconst 1, 1) := by decide +kernel
theorem dL_acts_1231 : decode cL_acts 1231 = .ok (.goto 4, 3) := by decide +kernel
theorem dL_acts_1234 : decode cL_acts 1234 = .ok (.iconst 0, 1) := by decide +kernel
theorem dL_acts_1235 : decode cL_acts 1235 = .ok (.ireturn, 1) := by decide +kernel
theorem dL_acts_1236 : decode cL_acts 1236 = .ok (.iload 9, 2) := by decide +kernel
theorem dL_acts_1238 : decode cL_acts 1238 = .ok (.bipush 20, 2) := by decide +kernel
theorem dL_acts_1240 : decode cL_acts 1240 = .ok (.if_icmp .ge 377, 3) := by decide +kernel
theorem dL_acts_1243 : decode cL_acts 1243 = .ok (.iload 8, 2) := by decide +kernel
theorem dL_acts_1245 : decode cL_acts 1245 = .ok (.bipush 21, 2) := by decide +kernel
theorem dL_acts_1247 : decode cL_acts 1247 = .ok (.idiv, 1) := by decide +kernel
theorem dL_acts_1248 : decode cL_acts 1248 = .ok (.aload_n 1, 1) := by decide +kernel
theorem dL_acts_1249 : decode cL_acts 1249 = .ok (.iconst 1, 1) := by decide +kernel
theorem dL_acts_1250 : decode cL_acts 1250 = .ok (.iaload, 1) := by decide +kernel
theorem dL_acts_1251 : decode cL_acts 1251 = .ok (.irem, 1) := by decide +kernel
theorem dL_acts_1252 : decode cL_acts 1252 = .ok (.istore 13, 2) := by decide +kernel
theorem dL_acts_1254 : decode cL_acts 1254 = .ok (.iload 13, 2) := by decide +kernel
theorem dL_acts_1256 : decode cL_acts 1256 = .ok (.iload 11, 2) := by decide +kernel
theorem dL_acts_1258 : decode cL_acts 1258 = .ok (.if_icmp .ne 21, 3) := by decide +kernel
theorem dL_acts_1261 : decode cL_acts 1261 = .ok (.aload_n 0, 1) := by decide +kernel
theorem dL_acts_1262 : decode cL_acts 1262 = .ok (.iload 11, 2) := by decide +kernel
theorem dL_acts_1264 : decode cL_acts 1264 = .ok (.iload 11, 2) := by decide +kernel
theorem dL_acts_1266 : decode cL_acts 1266 = .ok (.invokevirtual 49, 3) := by decide +kernel
theorem dL_acts_1269 : decode cL_acts 1269 = .ok (.iconst (-1), 1) := by decide +kernel
theorem dL_acts_1270 : decode cL_acts 1270 = .ok (.if_icmp .ne 7, 3) := by decide +kernel
theorem dL_acts_1273 : decode cL_acts 1273 = .ok (.iconst 1, 1) := by decide +kernel
theorem dL_acts_1274 : decode cL_acts 1274 = .ok (.goto 4, 3) := by decide +kernel
theorem dL_acts_1277 : decode cL_acts 1277 = .ok (.iconst 0, 1) := by decide +kernel
theorem dL_acts_1278 : decode cL_acts 1278 = .ok (.ireturn, 1) := by decide +kernel
theorem dL_acts_1279 : decode cL_acts 1279 = .ok (.iload 12, 2) := by decide +kernel
theorem dL_acts_1281 : decode cL_acts 1281 = .ok (.ifCond .eq 29, 3) := by decide +kernel
theorem dL_acts_1284 : decode cL_acts 1284 = .ok (.aload 4, 2) := by decide +kernel
theorem dL_acts_1286 : decode cL_acts 1286 = .ok (.bipush 9, 2) := by decide +kernel
theorem dL_acts_1288 : decode cL_acts 1288 = .ok (.iload 13, 2) := by decide +kernel
theorem dL_acts_1290 : decode cL_acts 1290 = .ok (.imul, 1) := by decide +kernel
theorem dL_acts_1291 : decode cL_acts 1291 = .ok (.iconst 3, 1) := by decide +kernel
theorem dL_acts_1292 : decode cL_acts 1292 = .ok (.iadd, 1) := by decide +kernel
theorem dL_acts_1293 : decode cL_acts 1293 = .ok (.iaload, 1) := by decide +kernel
theorem dL_acts_1294 : decode cL_acts 1294 = .ok (.ifCond .ne 16, 3) := by decide +kernel
theorem dL_acts_1297 : decode cL_acts 1297 = .ok (.aload 4, 2) := by decide +kernel
theorem dL_acts_1299 : decode cL_acts 1299 = .ok (.bipush 9, 2) := by decide +kernel
theorem dL_acts_1301 : decode cL_acts 1301 = .ok (.iload 13, 2) := by decide +kernel
theorem dL_acts_1303 : decode cL_acts 1303 = .ok (.imul, 1) := by decide +kernel
theorem dL_acts_1304 : decode cL_acts 1304 = .ok (.iaload, 1) := by decide +kernel
theorem dL_acts_1305 : decode cL_acts 1305 = .ok (.iload 10, 2) := by decide +kernel
theorem dL_acts_1307 : decode cL_acts 1307 = .ok (.if_icmp .eq 22, 3) := by decide +kernel
theorem dL_acts_1310 : decode cL_acts 1310 = .ok (.aload_n 0, 1) := by decide +kernel
theorem dL_acts_1311 : decode cL_acts 1311 = .ok (.iload 11, 2) := by decide +kernel
theorem dL_acts_1313 : decode cL_acts 1313 = .ok (.iload 13, 2) := by decide +kernel
theorem dL_acts_1315 : decode cL_acts 1315 = .ok (.invokevirtual 49, 3) := by decide +kernel
theorem dL_acts_1318 : decode cL_acts 1318 = .ok (.bipush (-2), 2) := by decide +kernel
theorem dL_acts_1320 : decode cL_acts 1320 = .ok (.if_icmp .ne 7, 3) := by decide +kernel
theorem dL_acts_1323 : decode cL_acts 1323 = .ok (.iconst 1, 1) := by decide +kernel
theorem dL_acts_1324 : decode cL_acts 1324 = .ok (.goto 4, 3) := by decide +kernel
theorem dL_acts_1327 : decode cL_acts 1327 = .ok (.iconst 0, 1) := by decide +kernel
theorem dL_acts_1328 : decode cL_acts 1328 = .ok (.ireturn, 1) := by decide +kernel
theorem dL_acts_1329 : decode cL_acts 1329 = .ok (.aload 4, 2) := by decide +kernel
theorem dL_acts_1331 : decode cL_acts 1331 = .ok (.bipush 9, 2) := by decide +kernel
theorem dL_acts_1333 : decode cL_acts 1333 = .ok (.iload 11, 2) := by decide +kernel
theorem dL_acts_1335 : decode cL_acts 1335 = .ok (.imul, 1) := by decide +kernel
theorem dL_acts_1336 : decode cL_acts 1336 = .ok (.iconst 2, 1) := by decide +kernel
theorem dL_acts_1337 : decode cL_acts 1337 = .ok (.iadd, 1) := by decide +kernel
theorem dL_acts_1338 : decode cL_acts 1338 = .ok (.iaload, 1) := by decide +kernel
theorem dL_acts_1339 : decode cL_acts 1339 = .ok (.aload 4, 2) := by decide +kernel
theorem dL_acts_1341 : decode cL_acts 1341 = .ok (.bipush 9, 2) := by decide +kernel
theorem dL_acts_1343 : decode cL_acts 1343 = .ok (.iload 13, 2) := by decide +kernel
theorem dL_acts_1345 : decode cL_acts 1345 = .ok (.imul, 1) := by decide +kernel
theorem dL_acts_1346 : decode cL_acts 1346 = .ok (.iconst 2, 1) := by decide +kernel
theorem dL_acts_1347 : decode cL_acts 1347 = .ok (.iadd, 1) := by decide +kernel
theorem dL_acts_1348 : decode cL_acts 1348 = .ok (.iaload, 1) := by decide +kernel
theorem dL_acts_1349 : decode cL_acts 1349 = .ok (.iadd, 1) := by decide +kernel
theorem dL_acts_1350 : decode cL_acts 1350 = .ok (.aload_n 3, 1) := by decide +kernel
theorem dL_acts_1351 : decode cL_acts 1351 = .ok (.bipush 11, 2) := by decide +kernel
theorem dL_acts_1353 : decode cL_acts 1353 = .ok (.iload 10, 2) := by decide +kernel
theorem dL_acts_1355 : decode cL_acts 1355 = .ok (.imul, 1) := by decide +kernel
theorem dL_acts_1356 : decode cL_acts 1356 = .ok (.iconst 3, 1) := by decide +kernel
theorem dL_acts_1357 : decode cL_acts 1357 = .ok (.iadd, 1) := by decide +kernel
theorem dL_acts_1358 : decode cL_acts 1358 = .ok (.iaload, 1) := by decide +kernel
theorem dL_acts_1359 : decode cL_acts 1359 = .ok (.if_icmp .le 22, 3) := by decide +kernel
theorem dL_acts_1362 : decode cL_acts 1362 = .ok (.aload_n 0, 1) := by decide +kernel
theorem dL_acts_1363 : decode cL_acts 1363 = .ok (.iload 11, 2) := by decide +kernel
theorem dL_acts_1365 : decode cL_acts 1365 = .ok (.iload 13, 2) := by decide +kernel
theorem dL_acts_1367 : decode cL_acts 1367 = .ok (.invokevirtual 49, 3) := by decide +kernel
theorem dL_acts_1370 : decode cL_acts 1370 = .ok (.bipush (-3), 2) := by decide +kernel
theorem dL_acts_1372 : decode cL_acts 1372 = .ok (.if_icmp .ne 7, 3) := by decide +kernel
theorem dL_acts_1375 : decode cL_acts 1375 = .ok (.iconst 1, 1) := by decide +kernel
theorem dL_acts_1376 : decode cL_acts 1376 = .ok (.goto 4, 3) := by decide +kernel
theorem dL_acts_1379 : decode cL_acts 1379 = .ok (.iconst 0, 1) := by decide +kernel
theorem dL_acts_1380 : decode cL_acts 1380 = .ok (.ireturn, 1) := by decide +kernel
theorem dL_acts_1381 : decode cL_acts 1381 = .ok (.aload 4, 2) := by decide +kernel
theorem dL_acts_1383 : decode cL_acts 1383 = .ok (.bipush 9, 2) := by decide +kernel
theorem dL_acts_1385 : decode cL_acts 1385 = .ok (.iload 13, 2) := by decide +kernel
theorem dL_acts_1387 : decode cL_acts 1387 = .ok (.imul, 1) := by decide +kernel
theorem dL_acts_1388 : decode cL_acts 1388 = .ok (.iconst 2, 1) := by decide +kernel
theorem dL_acts_1389 : decode cL_acts 1389 = .ok (.iadd, 1) := by decide +kernel
theorem dL_acts_1390 : decode cL_acts 1390 = .ok (.dup2, 1) := by decide +kernel
theorem dL_acts_1391 : decode cL_acts 1391 = .ok (.iaload, 1) := by decide +kernel
theorem dL_acts_1392 : decode cL_acts 1392 = .ok (.aload 4, 2) := by decide +kernel
theorem dL_acts_1394 : decode cL_acts 1394 = .ok (.bipush 9, 2) := by decide +kernel
theorem dL_acts_1396 : decode cL_acts 1396 = .ok (.iload 11, 2) := by decide +kernel
theorem dL_acts_1398 : decode cL_acts 1398 = .ok (.imul, 1) := by decide +kernel
theorem dL_acts_1399 : decode cL_acts 1399 = .ok (.iconst 2, 1) := by decide +kernel
theorem dL_acts_1400 : decode cL_acts 1400 = .ok (.iadd, 1) := by decide +kernel
theorem dL_acts_1401 : decode cL_acts 1401 = .ok (.iaload, 1) := by decide +kernel
theorem dL_acts_1402 : decode cL_acts 1402 = .ok (.iadd, 1) := by decide +kernel
theorem dL_acts_1403 : decode cL_acts 1403 = .ok (.iastore, 1) := by decide +kernel
theorem dL_acts_1404 : decode cL_acts 1404 = .ok (.aload 4, 2) := by decide +kernel
theorem dL_acts_1406 : decode cL_acts 1406 = .ok (.bipush 9, 2) := by decide +kernel
theorem dL_acts_1408 : decode cL_acts 1408 = .ok (.iload 13, 2) := by decide +kernel
theorem dL_acts_1410 : decode cL_acts 1410 = .ok (.imul, 1) := by decide +kernel
theorem dL_acts_1411 : decode cL_acts 1411 = .ok (.iconst 4, 1) := by decide +kernel
theorem dL_acts_1412 : decode cL_acts 1412 = .ok (.iadd, 1) := by decide +kernel
theorem dL_acts_1413 : decode cL_acts 1413 = .ok (.dup2, 1) := by decide +kernel
theorem dL_acts_1414 : decode cL_acts 1414 = .ok (.iaload, 1) := by decide +kernel
theorem dL_acts_1415 : decode cL_acts 1415 = .ok (.aload 4, 2) := by decide +kernel
theorem dL_acts_1417 : decode cL_acts 1417 = .ok (.bipush 9, 2) := by decide +kernel
theorem dL_acts_1419 : decode cL_acts 1419 = .ok (.iload 11, 2) := by decide +kernel
theorem dL_acts_1421 : decode cL_acts 1421 = .ok (.imul, 1) := by decide +kernel
theorem dL_acts_1422 : decode cL_acts 1422 = .ok (.iconst 4, 1) := by decide +kernel
theorem dL_acts_1423 : decode cL_acts 1423 = .ok (.iadd, 1) := by decide +kernel
theorem dL_acts_1424 : decode cL_acts 1424 = .ok (.iaload, 1) := by decide +kernel
theorem dL_acts_1425 : decode cL_acts 1425 = .ok (.iadd, 1) := by decide +kernel
theorem dL_acts_1426 : decode cL_acts 1426 = .ok (.iastore, 1) := by decide +kernel
theorem dL_acts_1427 : decode cL_acts 1427 = .ok (.aload 4, 2) := by decide +kernel
theorem dL_acts_1429 : decode cL_acts 1429 = .ok (.bipush 9, 2) := by decide +kernel
theorem dL_acts_1431 : decode cL_acts 1431 = .ok (.iload 13, 2) := by decide +kernel
theorem dL_acts_1433 : decode cL_acts 1433 = .ok (.imul, 1) := by decide +kernel
theorem dL_acts_1434 : decode cL_acts 1434 = .ok (.iconst 5, 1) := by decide +kernel
theorem dL_acts_1435 : decode cL_acts 1435 = .ok (.iadd, 1) := by decide +kernel
theorem dL_acts_1436 : decode cL_acts 1436 = .ok (.dup2, 1) := by decide +kernel
theorem dL_acts_1437 : decode cL_acts 1437 = .ok (.iaload, 1) := by decide +kernel
theorem dL_acts_1438 : decode cL_acts 1438 = .ok (.aload 4, 2) := by decide +kernel
theorem dL_acts_1440 : decode cL_acts 1440 = .ok (.bipush 9, 2) := by decide +kernel
theorem dL_acts_1442 : decode cL_acts 1442 = .ok (.iload 11, 2) := by decide +kernel
theorem dL_acts_1444 : decode cL_acts 1444 = .ok (.imul, 1) := by decide +kernel
theorem dL_acts_1445 : decode cL_acts 1445 = .ok (.iconst 5, 1) := by decide +kernel
theorem dL_acts_1446 : decode cL_acts 1446 = .ok (.iadd, 1) := by decide +kernel
theorem dL_acts_1447 : decode cL_acts 1447 = .ok (.iaload, 1) := by decide +kernel
theorem dL_acts_1448 : decode cL_acts 1448 = .ok (.iadd, 1) := by decide +kernel
theorem dL_acts_1449 : decode cL_acts 1449 = .ok (.iastore, 1) := by decide +kernel
theorem dL_acts_1450 : decode cL_acts 1450 = .ok (.aload 4, 2) := by decide +kernel
theorem dL_acts_1452 : decode cL_acts 1452 = .ok (.bipush 9, 2) := by decide +kernel
theorem dL_acts_1454 : decode cL_acts 1454 = .ok (.iload 11, 2) := by decide +kernel
theorem dL_acts_1456 : decode cL_acts 1456 = .ok (.imul, 1) := by decide +kernel
theorem dL_acts_1457 : decode cL_acts 1457 = .ok (.iconst 2, 1) := by decide +kernel
theorem dL_acts_1458 : decode cL_acts 1458 = .ok (.iadd, 1) := by decide +kernel
theorem dL_acts_1459 : decode cL_acts 1459 = .ok (.iconst 0, 1) := by decide +kernel
theorem dL_acts_1460 : decode cL_acts 1460 = .ok (.iastore, 1) := by decide +kernel
theorem dL_acts_1461 : decode cL_acts 1461 = .ok (.aload 4, 2) := by decide +kernel
theorem dL_acts_1463 : decode cL_acts 1463 = .ok (.bipush 9, 2) := by decide +kernel
theorem dL_acts_1465 : decode cL_acts 1465 = .ok (.iload 11, 2) := by decide +kernel
theorem dL_acts_1467 : decode cL_acts 1467 = .ok (.imul, 1) := by decide +kernel
theorem dL_acts_1468 : decode cL_acts 1468 = .ok (.iconst 4, 1) := by decide +kernel
theorem dL_acts_1469 : decode cL_acts 1469 = .ok (.iadd, 1) := by decide +kernel
theorem dL_acts_1470 : decode cL_acts 1470 = .ok (.iconst 0, 1) := by decide +kernel
theorem dL_acts_1471 : decode cL_acts 1471 = .ok (.iastore, 1) := by decide +kernel
theorem dL_acts_1472 : decode cL_acts 1472 = .ok (.aload 4, 2) := by decide +kernel
theorem dL_acts_1474 : decode cL_acts 1474 = .ok (.bipush 9, 2) := by decide +kernel
theorem dL_acts_1476 : decode cL_acts 1476 = .ok (.iload 11, 2) := by decide +kernel
theorem dL_acts_1478 : decode cL_acts 1478 = .ok (.imul, 1) := by decide +kernel
theorem dL_acts_1479 : decode cL_acts 1479 = .ok (.iconst 5, 1) := by decide +kernel
theorem dL_acts_1480 : decode cL_acts 1480 = .ok (.iadd, 1) := by decide +kernel
theorem dL_acts_1481 : decode cL_acts 1481 = .ok (.iconst 0, 1) := by decide +kernel
theorem dL_acts_1482 : decode cL_acts 1482 = .ok (.iastore, 1) := by decide +kernel
theorem dL_acts_1483 : decode cL_acts 1483 = .ok (.aload 4, 2) := by decide +kernel
theorem dL_acts_1485 : decode cL_acts 1485 = .ok (.bipush 9, 2) := by decide +kernel
theorem dL_acts_1487 : decode cL_acts 1487 = .ok (.iload 11, 2) := by decide +kernel
theorem dL_acts_1489 : decode cL_acts 1489 = .ok (.imul, 1) := by decide +kernel
theorem dL_acts_1490 : decode cL_acts 1490 = .ok (.iconst 3, 1) := by decide +kernel
theorem dL_acts_1491 : decode cL_acts 1491 = .ok (.iadd, 1) := by decide +kernel
theorem dL_acts_1492 : decode cL_acts 1492 = .ok (.iconst 3, 1) := by decide +kernel
theorem dL_acts_1493 : decode cL_acts 1493 = .ok (.iastore, 1) := by decide +kernel
theorem dL_acts_1494 : decode cL_acts 1494 = .ok (.aload_n 1, 1) := by decide +kernel
theorem dL_acts_1495 : decode cL_acts 1495 = .ok (.iconst 4, 1) := by decide +kernel
theorem dL_acts_1496 : decode cL_acts 1496 = .ok (.iaload, 1) := by decide +kernel
theorem dL_acts_1497 : decode cL_acts 1497 = .ok (.istore 14, 2) := by decide +kernel
theorem dL_acts_1499 : decode cL_acts 1499 = .ok (.iconst 0, 1) := by decide +kernel
theorem dL_acts_1500 : decode cL_acts 1500 = .ok (.istore 15, 2) := by decide +kernel
theorem dL_acts_1502 : decode cL_acts 1502 = .ok (.iload 15, 2) := by decide +kernel
theorem dL_acts_1504 : decode cL_acts 1504 = .ok (.iload 14, 2) := by decide +kernel
theorem dL_acts_1506 : decode cL_acts 1506 = .ok (.if_icmp .ge 84, 3) := by decide +kernel
theorem dL_acts_1509 : decode cL_acts 1509 = .ok (.iconst 0, 1) := by decide +kernel
theorem dL_acts_1510 : decode cL_acts 1510 = .ok (.istore 16, 2) := by decide +kernel
theorem dL_acts_1512 : decode cL_acts 1512 = .ok (.iload 16, 2) := by decide +kernel
theorem dL_acts_1514 : decode cL_acts 1514 = .ok (.aload_n 1, 1) := by decide +kernel
theorem dL_acts_1515 : decode cL_acts 1515 = .ok (.iconst 1, 1) := by decide +kernel
theorem dL_acts_1516 : decode cL_acts 1516 = .ok (.iaload, 1) := by decide +kernel
theorem dL_acts_1517 : decode cL_acts 1517 = .ok (.if_icmp .ge 67, 3) := by decide +kernel
theorem dL_acts_1520 : decode cL_acts 1520 = .ok (.aload 5, 2) := by decide +kernel
theorem dL_acts_1522 : decode cL_acts 1522 = .ok (.iconst 4, 1) := by decide +kernel
theorem dL_acts_1523 : decode cL_acts 1523 = .ok (.iload 16, 2) := by decide +kernel
theorem dL_acts_1525 : decode cL_acts 1525 = .ok (.imul, 1) := by decide +kernel
theorem dL_acts_1526 : decode cL_acts 1526 = .ok (.iconst 2, 1) := by decide +kernel
theorem dL_acts_1527 : decode cL_acts 1527 = .ok (.iadd, 1) := by decide +kernel
theorem dL_acts_1528 : decode cL_acts 1528 = .ok (.iaload, 1) := by decide +kernel
theorem dL_acts_1529 : decode cL_acts 1529 = .ok (.iload 11, 2) := by decide +kernel
theorem dL_acts_1531 : decode cL_acts 1531 = .ok (.if_icmp .ne 47, 3) := by decide +kernel
theorem dL_acts_1534 : decode cL_acts 1534 = .ok (.aload 5, 2) := by decide +kernel
theorem dL_acts_1536 : decode cL_acts 1536 = .ok (.iconst 4, 1) := by decide +kernel
theorem dL_acts_1537 : decode cL_acts 1537 = .ok (.iload 16, 2) := by decide +kernel
theorem dL_acts_1539 : decode cL_acts 1539 = .ok (.imul, 1) := by decide +kernel
theorem dL_acts_1540 : decode cL_acts 1540 = .ok (.iconst 3, 1) := by decide +kernel
theorem dL_acts_1541 : decode cL_acts 1541 = .ok (.iadd, 1) := by decide +kernel
theorem dL_acts_1542 : decode cL_acts 1542 = .ok (.iaload, 1) := by decide +kernel
theorem dL_acts_1543 : decode cL_acts 1543 = .ok (.iload 15, 2) := by decide +kernel
theorem dL_acts_1545 : decode cL_acts 1545 = .ok (.if_icmp .ne 33, 3) := by decide +kernel
theorem dL_acts_1548 : decode cL_acts 1548 = .ok (.aload 5, 2) := by decide +kernel
theorem dL_acts_1550 : decode cL_acts 1550 = .ok (.iconst 4, 1) := by decide +kernel
theorem dL_acts_1551 : decode cL_acts 1551 = .ok (.iload 16, 2) := by decide +kernel
theorem dL_acts_1553 : decode cL_acts 1553 = .ok (.imul, 1) := by decide +kernel
theorem dL_acts_1554 : decode cL_acts 1554 = .ok (.iconst 2, 1) := by decide +kernel
theorem dL_acts_1555 : decode cL_acts 1555 = .ok (.iadd, 1) := by decide +kernel
theorem dL_acts_1556 : decode cL_acts 1556 = .ok (.iload 13, 2) := by decide +kernel
theorem dL_acts_1558 : decode cL_acts 1558 = .ok (.iastore, 1) := by decide +kernel
theorem dL_acts_1559 : decode cL_acts 1559 = .ok (.aload 5, 2) := by decide +kernel
theorem dL_acts_1561 : decode cL_acts 1561 = .ok (.iconst 4, 1) := by decide +kernel
theorem dL_acts_1562 : decode cL_acts 1562 = .ok (.iload 16, 2) := by decide +kernel
theorem dL_acts_1564 : decode cL_acts 1564 = .ok (.imul, 1) := by decide +kernel
theorem dL_acts_1565 : decode cL_acts 1565 = .ok (.iconst 3, 1) := by decide +kernel
theorem dL_acts_1566 : decode cL_acts 1566 = .ok (.iadd, 1) := by decide +kernel
theorem dL_acts_1567 : decode cL_acts 1567 = .ok (.aload_n 1, 1) := by decide +kernel
theorem dL_acts_1568 : decode cL_acts 1568 = .ok (.iconst 4, 1) := by decide +kernel
theorem dL_acts_1569 : decode cL_acts 1569 = .ok (.iaload, 1) := by decide +kernel
theorem dL_acts_1570 : decode cL_acts 1570 = .ok (.iastore, 1) := by decide +kernel
theorem dL_acts_1571 : decode cL_acts 1571 = .ok (.aload_n 1, 1) := by decide +kernel
theorem dL_acts_1572 : decode cL_acts 1572 = .ok (.iconst 4, 1) := by decide +kernel
theorem dL_acts_1573 : decode cL_acts 1573 = .ok (.dup2, 1) := by decide +kernel
theorem dL_acts_1574 : decode cL_acts 1574 = .ok (.iaload, 1) := by decide +kernel
theorem dL_acts_1575 : decode cL_acts 1575 = .ok (.iconst 1, 1) := by decide +kernel
theorem dL_acts_1576 : decode cL_acts 1576 = .ok (.iadd, 1) := by decide +kernel
theorem dL_acts_1577 : decode cL_acts 1577 = .ok (.iastore, 1) := by decide +kernel
theorem dL_acts_1578 : decode cL_acts 1578 = .ok (.iinc 16 1, 3) := by decide +kernel
theorem dL_acts_1581 : decode cL_acts 1581 = .ok (.goto (-69), 3) := by decide +kernel
theorem dL_acts_1584 : decode cL_acts 1584 = .ok (.iinc 15 1, 3) := by decide +kernel
theorem dL_acts_1587 : decode cL_acts 1587 = .ok (.goto (-85), 3) := by decide +kernel
theorem dL_acts_1590 : decode cL_acts 1590 = .ok (.aload_n 0, 1) := by decide +kernel
theorem dL_acts_1591 : decode cL_acts 1591 = .ok (.iload 11, 2) := by decide +kernel
theorem dL_acts_1593 : decode cL_acts 1593 = .ok (.iload 13, 2) := by decide +kernel
theorem dL_acts_1595 : decode cL_acts 1595 = .ok (.invokevirtual 49, 3) := by decide +kernel
theorem dL_acts_1598 : decode cL_acts 1598 = .ok (.aload 4, 2) := by decide +kernel
theorem dL_acts_1600 : decode cL_acts 1600 = .ok (.bipush 9, 2) := by decide +kernel
theorem dL_acts_1602 : decode cL_acts 1602 = .ok (.iload 13, 2) := by decide +kernel
theorem dL_acts_1604 : decode cL_acts 1604 = .ok (.imul, 1) := by decide +kernel
theorem dL_acts_1605 : decode cL_acts 1605 = .ok (.iconst 2, 1) := by decide +kernel
theorem dL_acts_1606 : decode cL_acts 1606 = .ok (.iadd, 1) := by decide +kernel
theorem dL_acts_1607 : decode cL_acts 1607 = .ok (.iaload, 1) := by decide +kernel
theorem dL_acts_1608 : decode cL_acts 1608 = .ok (.if_icmp .ne 7, 3) := by decide +kernel
theorem dL_acts_1611 : decode cL_acts 1611 = .ok (.iconst 1, 1) := by decide +kernel
theorem dL_acts_1612 : decode cL_acts 1612 = .ok (.goto 4, 3) := by decide +kernel
theorem dL_acts_1615 : decode cL_acts 1615 = .ok (.iconst 0, 1) := by decide +kernel
theorem dL_acts_1616 : decode cL_acts 1616 = .ok (.ireturn, 1) := by decide +kernel
theorem dL_acts_1617 : decode cL_acts 1617 = .ok (.iload 8, 2) := by decide +kernel
theorem dL_acts_1619 : decode cL_acts 1619 = .ok (.bipush 21, 2) := by decide +kernel
theorem dL_acts_1621 : decode cL_acts 1621 = .ok (.idiv, 1) := by decide +kernel
theorem dL_acts_1622 : decode cL_acts 1622 = .ok (.iload 8, 2) := by decide +kernel
theorem dL_acts_1624 : decode cL_acts 1624 = .ok (.iconst 3, 1) := by decide +kernel
theorem dL_acts_1625 : decode cL_acts 1625 = .ok (.irem, 1) := by decide +kernel
theorem dL_acts_1626 : decode cL_acts 1626 = .ok (.ifCond .ne 15, 3) := by decide +kernel
theorem dL_acts_1629 : decode cL_acts 1629 = .ok (.aload_n 3, 1) := by decide +kernel
theorem dL_acts_1630 : decode cL_acts 1630 = .ok (.bipush 11, 2) := by decide +kernel
theorem dL_acts_1632 : decode cL_acts 1632 = .ok (.iload 10, 2) := by decide +kernel
theorem dL_acts_1634 : decode cL_acts 1634 = .ok (.imul, 1) := by decide +kernel
theorem dL_acts_1635 : decode cL_acts 1635 = .ok (.iaload, 1) := by decide +kernel
theorem dL_acts_1636 : decode cL_acts 1636 = .ok (.iconst 1, 1) := by decide +kernel
theorem dL_acts_1637 : decode cL_acts 1637 = .ok (.iadd, 1) := by decide +kernel
theorem dL_acts_1638 : decode cL_acts 1638 = .ok (.goto 5, 3) := by decide +kernel
theorem dL_acts_1641 : decode cL_acts 1641 = .ok (.bipush 20, 2) := by decide +kernel
theorem dL_acts_1643 : decode cL_acts 1643 = .ok (.irem, 1) := by decide +kernel
theorem dL_acts_1644 : decode cL_acts 1644 = .ok (.istore 13, 2) := by decide +kernel
theorem dL_acts_1646 : decode cL_acts 1646 = .ok (.iload 8, 2) := by decide +kernel
theorem dL_acts_1648 : decode cL_acts 1648 = .ok (.bipush 7, 2) := by decide +kernel
theorem dL_acts_1650 : decode cL_acts 1650 = .ok (.idiv, 1) := by decide +kernel
theorem dL_acts_1651 : decode cL_acts 1651 = .ok (.bipush 21, 2) := by decide +kernel
theorem dL_acts_1653 : decode cL_acts 1653 = .ok (.irem, 1) := by decide +kernel
theorem dL_acts_1654 : decode cL_acts 1654 = .ok (.istore 14, 2) := by decide +kernel
theorem dL_acts_1656 : decode cL_acts 1656 = .ok (.iload 8, 2) := by decide +kernel
theorem dL_acts_1658 : decode cL_acts 1658 = .ok (.sipush 147, 3) := by decide +kernel
theorem dL_acts_1661 : decode cL_acts 1661 = .ok (.idiv, 1) := by decide +kernel
theorem dL_acts_1662 : decode cL_acts 1662 = .ok (.bipush 10, 2) := by decide +kernel
theorem dL_acts_1664 : decode cL_acts 1664 = .ok (.irem, 1) := by decide +kernel
theorem dL_acts_1665 : decode cL_acts 1665 = .ok (.istore 15, 2) := by decide +kernel
theorem dL_acts_1667 : decode cL_acts 1667 = .ok (.iload 9, 2) := by decide +kernel
theorem dL_acts_1669 : decode cL_acts 1669 = .ok (.bipush 24, 2) := by decide +kernel
theorem dL_acts_1671 : decode cL_acts 1671 = .ok (.if_icmp .ge 27, 3) := by decide +kernel
theorem dL_acts_1674 : decode cL_acts 1674 = .ok (.aload_n 1, 1) := by decide +kernel
theorem dL_acts_1675 : decode cL_acts 1675 = .ok (.aload 4, 2) := by decide +kernel
theorem dL_acts_1677 : decode cL_acts 1677 = .ok (.iload 10, 2) := by decide +kernel
theorem dL_acts_1679 : decode cL_acts 1679 = .ok (.iconst 0, 1) := by decide +kernel
theorem dL_acts_1680 : decode cL_acts 1680 = .ok (.invokestatic 9, 3) := by decide +kernel
theorem dL_acts_1683 : decode cL_acts 1683 = .ok (.ifCond .lt 15, 3) := by decide +kernel
theorem dL_acts_1686 : decode cL_acts 1686 = .ok (.aload_n 1, 1) := by decide +kernel
theorem dL_acts_1687 : decode cL_acts 1687 = .ok (.aload 4, 2) := by decide +kernel
theorem dL_acts_1689 : decode cL_acts 1689 = .ok (.iload 10, 2) := by decide +kernel
theorem dL_acts_1691 : decode cL_acts 1691 = .ok (.iconst 0, 1) := by decide +kernel
theorem dL_acts_1692 : decode cL_acts 1692 = .ok (.invokestatic 9, 3) := by decide +kernel
theorem dL_acts_1695 : decode cL_acts 1695 = .ok (.goto 5, 3) := by decide +kernel
theorem dL_acts_1698 : decode cL_acts 1698 = .ok (.iload 11, 2) := by decide +kernel
theorem dL_acts_1700 : decode cL_acts 1700 = .ok (.istore 11, 2) := by decide +kernel
theorem dL_acts_1702 : decode cL_acts 1702 = .ok (.aload_n 1, 1) := by decide +kernel
theorem dL_acts_1703 : decode cL_acts 1703 = .ok (.aload 4, 2) := by decide +kernel
theorem dL_acts_1705 : decode cL_acts 1705 = .ok (.iload 10, 2) := by decide +kernel
theorem dL_acts_1707 : decode cL_acts 1707 = .ok (.iconst 0, 1) := by decide +kernel
theorem dL_acts_1708 : decode cL_acts 1708 = .ok (.invokestatic 9, 3) := by decide +kernel
theorem dL_acts_1711 : decode cL_acts 1711 = .ok (.iload 11, 2) := by decide +kernel
theorem dL_acts_1713 : decode cL_acts 1713 = .ok (.if_icmp .eq 26, 3) := by decide +kernel
theorem dL_acts_1716 : decode cL_acts 1716 = .ok (.aload_n 0, 1) := by decide +kernel
theorem dL_acts_1717 : decode cL_acts 1717 = .ok (.iload 11, 2) := by decide +kernel
theorem dL_acts_1719 : decode cL_acts 1719 = .ok (.iload 13, 2) := by decide +kernel
theorem dL_acts_1721 : decode cL_acts 1721 = .ok (.iload 14, 2) := by decide +kernel
theorem dL_acts_1723 : decode cL_acts 1723 = .ok (.iload 15, 2) := by decide +kernel
theorem dL_acts_1725 : decode cL_acts 1725 = .ok (.invokevirtual 52, 3) := by decide +kernel
theorem dL_acts_1728 : decode cL_acts 1728 = .ok (.bipush (-2), 2) := by decide +kernel
theorem dL_acts_1730 : decode cL_acts 1730 = .ok (.if_icmp .ne 7, 3) := by decide +kernel
theorem dL_acts_1733 : decode cL_acts 1733 = .ok (.iconst 1, 1) := by decide +kernel
theorem dL_acts_1734 : decode cL_acts 1734 = .ok (.goto 4, 3) := by decide +kernel
theorem dL_acts_1737 : decode cL_acts 1737 = .ok (.iconst 0, 1) := by decide +kernel
theorem dL_acts_1738 : decode cL_acts 1738 = .ok (.ireturn, 1) := by decide +kernel
theorem dL_acts_1739 : decode cL_acts 1739 = .ok (.bipush 11, 2) := by decide +kernel
theorem dL_acts_1741 : decode cL_acts 1741 = .ok (.iload 10, 2) := by decide +kernel
theorem dL_acts_1743 : decode cL_acts 1743 = .ok (.imul, 1) := by decide +kernel
theorem dL_acts_1744 : decode cL_acts 1744 = .ok (.istore 16, 2) := by decide +kernel
theorem dL_acts_1746 : decode cL_acts 1746 = .ok (.aload_n 1, 1) := by decide +kernel
theorem dL_acts_1747 : decode cL_acts 1747 = .ok (.aload_n 3, 1) := by decide +kernel
theorem dL_acts_1748 : decode cL_acts 1748 = .ok (.aload 4, 2) := by decide +kernel
theorem dL_acts_1750 : decode cL_acts 1750 = .ok (.iload 11, 2) := by decide +kernel
theorem dL_acts_1752 : decode cL_acts 1752 = .ok (.iconst 0, 1) := by decide +kernel
theorem dL_acts_1753 : decode cL_acts 1753 = .ok (.invokestatic 59, 3) := by decide +kernel
theorem dL_acts_1756 : decode cL_acts 1756 = .ok (.istore 17, 2) := by decide +kernel
theorem dL_acts_1758 : decode cL_acts 1758 = .ok (.iload 13, 2) := by decide +kernel
theorem dL_acts_1760 : decode cL_acts 1760 = .ok (.iload 14, 2) := by decide +kernel
theorem dL_acts_1762 : decode cL_acts 1762 = .ok (.aload_n 2, 1) := by decide +kernel
theorem dL_acts_1763 : decode cL_acts 1763 = .ok (.iconst 0, 1) := by decide +kernel
theorem dL_acts_1764 : decode cL_acts 1764 = .ok (.iaload, 1) := by decide +kernel
theorem dL_acts_1765 : decode cL_acts 1765 = .ok (.imul, 1) := by decide +kernel
theorem dL_acts_1766 : decode cL_acts 1766 = .ok (.iadd, 1) := by decide +kernel
theorem dL_acts_1767 : decode cL_acts 1767 = .ok (.istore 18, 2) := by decide +kernel
theorem dL_acts_1769 : decode cL_acts 1769 = .ok (.iload 13, 2) := by decide +kernel
theorem dL_acts_1771 : decode cL_acts 1771 = .ok (.ifCond .le 20, 3) := by decide +kernel
theorem dL_acts_1774 : decode cL_acts 1774 = .ok (.iload 18, 2) := by decide +kernel
theorem dL_acts_1776 : decode cL_acts 1776 = .ok (.aload_n 3, 1) := by decide +kernel
theorem dL_acts_1777 : decode cL_acts 1777 = .ok (.iload 16, 2) := by decide +kernel
theorem dL_acts_1779 : decode cL_acts 1779 = .ok (.iaload, 1) := by decide +kernel
theorem dL_acts_1780 : decode cL_acts 1780 = .ok (.aload_n 2, 1) := by decide +kernel
theorem dL_acts_1781 : decode cL_acts 1781 = .ok (.iconst 1, 1) := by decide +kernel
theorem dL_acts_1782 : decode cL_acts 1782 = .ok (.iaload, 1) := by decide +kernel
theorem dL_acts_1783 : decode cL_acts 1783 = .ok (.iadd, 1) := by decide +kernel
theorem dL_acts_1784 : decode cL_acts 1784 = .ok (.if_icmp .gt 7, 3) := by decide +kernel
theorem dL_acts_1787 : decode cL_acts 1787 = .ok (.iconst 1, 1) := by decide +kernel
theorem dL_acts_1788 : decode cL_acts 1788 = .ok (.goto 4, 3) := by decide +kernel
theorem dL_acts_1791 : decode cL_acts 1791 = .ok (.iconst 0, 1) := by decide +kernel
theorem dL_acts_1792 : decode cL_acts 1792 = .ok (.istore 19, 2) := by decide +kernel
theorem dL_acts_1794 : decode cL_acts 1794 = .ok (.iload 13, 2) := by decide +kernel
theorem dL_acts_1796 : decode cL_acts 1796 = .ok (.ifCond .ne 10, 3) := by decide +kernel
theorem dL_acts_1799 : decode cL_acts 1799 = .ok (.aload_n 3, 1) := by decide +kernel
theorem dL_acts_1800 : decode cL_acts 1800 = .ok (.iload 16, 2) := by decide +kernel
theorem dL_acts_1802 : decode cL_acts 1802 = .ok (.iaload, 1) := by decide +kernel
theorem dL_acts_1803 : decode cL_acts 1803 = .ok (.goto 21, 3) := by decide +kernel
theorem dL_acts_1806 : decode cL_acts 1806 = .ok (.iload 19, 2) := by decide +kernel
theorem dL_acts_1808 : decode cL_acts 1808 = .ok (.ifCond .eq 8, 3) := by decide +kernel
theorem dL_acts_1811 : decode cL_acts 1811 = .ok (.iload 18, 2) := by decide +kernel
theorem dL_acts_1813 : decode cL_acts 1813 = .ok (.goto 11, 3) := by decide +kernel
theorem dL_acts_1816 : decode cL_acts 1816 = .ok (.aload_n 3, 1) := by decide +kernel
theorem dL_acts_1817 : decode cL_acts 1817 = .ok (.iload 16, 2) := by decide +kernel
theorem dL_acts_1819 : decode cL_acts 1819 = .ok (.iaload, 1) := by decide +kernel
theorem dL_acts_1820 : decode cL_acts 1820 = .ok (.aload_n 2, 1) := by decide +kernel
theorem dL_acts_1821 : decode cL_acts 1821 = .ok (.iconst 1, 1) := by decide +kernel
theorem dL_acts_1822 : decode cL_acts 1822 = .ok (.iaload, 1) := by decide +kernel
theorem dL_acts_1823 : decode cL_acts 1823 = .ok (.iadd, 1) := by decide +kernel
theorem dL_acts_1824 : decode cL_acts 1824 = .ok (.istore 20, 2) := by decide +kernel
theorem dL_acts_1826 : decode cL_acts 1826 = .ok (.aload 4, 2) := by decide +kernel
theorem dL_acts_1828 : decode cL_acts 1828 = .ok (.bipush 9, 2) := by decide +kernel
theorem dL_acts_1830 : decode cL_acts 1830 = .ok (.iload 11, 2) := by decide +kernel
theorem dL_acts_1832 : decode cL_acts 1832 = .ok (.imul, 1) := by decide +kernel
theorem dL_acts_1833 : decode cL_acts 1833 = .ok (.iconst 3, 1) := by decide +kernel
theorem dL_acts_1834 : decode cL_acts 1834 = .ok (.iadd, 1) := by decide +kernel
theorem dL_acts_1835 : decode cL_acts 1835 = .ok (.iconst 1, 1) := by decide +kernel
theorem dL_acts_1836 : decode cL_acts 1836 = .ok (.iastore, 1) := by decide +kernel
theorem dL_acts_1837 : decode cL_acts 1837 = .ok (.aload 4, 2) := by decide +kernel
theorem dL_acts_1839 : decode cL_acts 1839 = .ok (.bipush 9, 2) := by decide +kernel
theorem dL_acts_1841 : decode cL_acts 1841 = .ok (.iload 11, 2) := by decide +kernel
theorem dL_acts_1843 : decode cL_acts 1843 = .ok (.imul, 1) := by decide +kernel
theorem dL_acts_1844 : decode cL_acts 1844 = .ok (.bipush 7, 2) := by decide +kernel
theorem dL_acts_1846 : decode cL_acts 1846 = .ok (.iadd, 1) := by decide +kernel
theorem dL_acts_1847 : decode cL_acts 1847 = .ok (.aload 4, 2) := by decide +kernel
theorem dL_acts_1849 : decode cL_acts 1849 = .ok (.bipush 9, 2) := by decide +kernel
theorem dL_acts_1851 : decode cL_acts 1851 = .ok (.iload 11, 2) := by decide +kernel
theorem dL_acts_1853 : decode cL_acts 1853 = .ok (.imul, 1) := by decide +kernel
theorem dL_acts_1854 : decode cL_acts 1854 = .ok (.iconst 1, 1) := by decide +kernel
theorem dL_acts_1855 : decode cL_acts 1855 = .ok (.iadd, 1) := by decide +kernel
theorem dL_acts_1856 : decode cL_acts 1856 = .ok (.iaload, 1) := by decide +kernel
theorem dL_acts_1857 : decode cL_acts 1857 = .ok (.iload 17, 2) := by decide +kernel
theorem dL_acts_1859 : decode cL_acts 1859 = .ok (.iadd, 1) := by decide +kernel
theorem dL_acts_1860 : decode cL_acts 1860 = .ok (.iastore, 1) := by decide +kernel
theorem dL_acts_1861 : decode cL_acts 1861 = .ok (.aload 4, 2) := by decide +kernel
theorem dL_acts_1863 : decode cL_acts 1863 = .ok (.bipush 9, 2) := by decide +kernel
theorem dL_acts_1865 : decode cL_acts 1865 = .ok (.iload 11, 2) := by decide +kernel
theorem dL_acts_1867 : decode cL_acts 1867 = .ok (.imul, 1) := by decide +kernel
theorem dL_acts_1868 : decode cL_acts 1868 = .ok (.bipush 8, 2) := by decide +kernel
theorem dL_acts_1870 : decode cL_acts 1870 = .ok (.iadd, 1) := by decide +kernel
theorem dL_acts_1871 : decode cL_acts 1871 = .ok (.iload 20, 2) := by decide +kernel
theorem dL_acts_1873 : decode cL_acts 1873 = .ok (.iastore, 1) := by decide +kernel
theorem dL_acts_1874 : decode cL_acts 1874 = .ok (.aload_n 3, 1) := by decide +kernel
theorem dL_acts_1875 : decode cL_acts 1875 = .ok (.iload 16, 2) := by decide +kernel
theorem dL_acts_1877 : decode cL_acts 1877 = .ok (.iconst 4, 1) := by decide +kernel
theorem dL_acts_1878 : decode cL_acts 1878 = .ok (.iadd, 1) := by decide +kernel
theorem dL_acts_1879 : decode cL_acts 1879 = .ok (.aload 4, 2) := by decide +kernel
theorem dL_acts_1881 : decode cL_acts 1881 = .ok (.bipush 9, 2) := by decide +kernel
theorem dL_acts_1883 : decode cL_acts 1883 = .ok (.iload 11, 2) := by decide +kernel
theorem dL_acts_1885 : decode cL_acts 1885 = .ok (.imul, 1) := by decide +kernel
theorem dL_acts_1886 : decode cL_acts 1886 = .ok (.bipush 7, 2) := by decide +kernel
theorem dL_acts_1888 : decode cL_acts 1888 = .ok (.iadd, 1) := by decide +kernel
theorem dL_acts_1889 : decode cL_acts 1889 = .ok (.iaload, 1) := by decide +kernel
theorem dL_acts_1890 : decode cL_acts 1890 = .ok (.iload 20, 2) := by decide +kernel
theorem dL_acts_1892 : decode cL_acts 1892 = .ok (.iadd, 1) := by decide +kernel
theorem dL_acts_1893 : decode cL_acts 1893 = .ok (.aload_n 3, 1) := by decide +kernel
theorem dL_acts_1894 : decode cL_acts 1894 = .ok (.iload 16, 2) := by decide +kernel
theorem dL_acts_1896 : decode cL_acts 1896 = .ok (.iconst 1, 1) := by decide +kernel
theorem dL_acts_1897 : decode cL_acts 1897 = .ok (.iadd, 1) := by decide +kernel
theorem dL_acts_1898 : decode cL_acts 1898 = .ok (.iaload, 1) := by decide +kernel
theorem dL_acts_1899 : decode cL_acts 1899 = .ok (.iadd, 1) := by decide +kernel
theorem dL_acts_1900 : decode cL_acts 1900 = .ok (.iload 15, 2) := by decide +kernel
theorem dL_acts_1902 : decode cL_acts 1902 = .ok (.aload_n 2, 1) := by decide +kernel
theorem dL_acts_1903 : decode cL_acts 1903 = .ok (.iconst 2, 1) := by decide +kernel
theorem dL_acts_1904 : decode cL_acts 1904 = .ok (.iaload, 1) := by decide +kernel
theorem dL_acts_1905 : decode cL_acts 1905 = .ok (.imul, 1) := by decide +kernel
theorem dL_acts_1906 : decode cL_acts 1906 = .ok (.iadd, 1) := by decide +kernel
theorem dL_acts_1907 : decode cL_acts 1907 = .ok (.iastore, 1) := by decide +kernel
theorem dL_acts_1908 : decode cL_acts 1908 = .ok (.aload_n 3, 1) := by decide +kernel
theorem dL_acts_1909 : decode cL_acts 1909 = .ok (.iload 16, 2) := by decide +kernel
theorem dL_acts_1911 : decode cL_acts 1911 = .ok (.iconst 5, 1) := by decide +kernel
theorem dL_acts_1912 : decode cL_acts 1912 = .ok (.iadd, 1) := by decide +kernel
theorem dL_acts_1913 : decode cL_acts 1913 = .ok (.dup2, 1) := by decide +kernel
theorem dL_acts_1914 : decode cL_acts 1914 = .ok (.iaload, 1) := by decide +kernel
theorem dL_acts_1915 : decode cL_acts 1915 = .ok (.iconst 1, 1) := by decide +kernel
theorem dL_acts_1916 : decode cL_acts 1916 = .ok (.iadd, 1) := by decide +kernel
theorem dL_acts_1917 : decode cL_acts 1917 = .ok (.iastore, 1) := by decide +kernel
theorem dL_acts_1918 : decode cL_acts 1918 = .ok (.aload_n 3, 1) := by decide +kernel
theorem dL_acts_1919 : decode cL_acts 1919 = .ok (.iload 16, 2) := by decide +kernel
theorem dL_acts_1921 : decode cL_acts 1921 = .ok (.bipush 6, 2) := by decide +kernel
theorem dL_acts_1923 : decode cL_acts 1923 = .ok (.iadd, 1) := by decide +kernel
theorem dL_acts_1924 : decode cL_acts 1924 = .ok (.dup2, 1) := by decide +kernel
theorem dL_acts_1925 : decode cL_acts 1925 = .ok (.iaload, 1) := by decide +kernel
theorem dL_acts_1926 : decode cL_acts 1926 = .ok (.iload 19, 2) := by decide +kernel
theorem dL_acts_1928 : decode cL_acts 1928 = .ok (.ifCond .eq 7, 3) := by decide +kernel
theorem dL_acts_1931 : decode cL_acts 1931 = .ok (.iconst 1, 1) := by decide +kernel
theorem dL_acts_1932 : decode cL_acts 1932 = .ok (.goto 4, 3) := by decide +kernel
theorem dL_acts_1935 : decode cL_acts 1935 = .ok (.iconst 0, 1) := by decide +kernel
theorem dL_acts_1936 : decode cL_acts 1936 = .ok (.iadd, 1) := by decide +kernel
theorem dL_acts_1937 : decode cL_acts 1937 = .ok (.iastore, 1) := by decide +kernel
theorem dL_acts_1938 : decode cL_acts 1938 = .ok (.aload_n 3, 1) := by decide +kernel
theorem dL_acts_1939 : decode cL_acts 1939 = .ok (.iload 16, 2) := by decide +kernel
theorem dL_acts_1941 : decode cL_acts 1941 = .ok (.bipush 7, 2) := by decide +kernel
theorem dL_acts_1943 : decode cL_acts 1943 = .ok (.iadd, 1) := by decide +kernel
theorem dL_acts_1944 : decode cL_acts 1944 = .ok (.dup2, 1) := by decide +kernel
theorem dL_acts_1945 : decode cL_acts 1945 = .ok (.iaload, 1) := by decide +kernel
theorem dL_acts_1946 : decode cL_acts 1946 = .ok (.iload 14, 2) := by decide +kernel
theorem dL_acts_1948 : decode cL_acts 1948 = .ok (.iadd, 1) := by decide +kernel
theorem dL_acts_1949 : decode cL_acts 1949 = .ok (.iastore, 1) := by decide +kernel
theorem dL_acts_1950 : decode cL_acts 1950 = .ok (.aload_n 3, 1) := by decide +kernel
theorem dL_acts_1951 : decode cL_acts 1951 = .ok (.iload 16, 2) := by decide +kernel
theorem dL_acts_1953 : decode cL_acts 1953 = .ok (.bipush 8, 2) := by decide +kernel
theorem dL_acts_1955 : decode cL_acts 1955 = .ok (.iadd, 1) := by decide +kernel
theorem dL_acts_1956 : decode cL_acts 1956 = .ok (.dup2, 1) := by decide +kernel
theorem dL_acts_1957 : decode cL_acts 1957 = .ok (.iaload, 1) := by decide +kernel
theorem dL_acts_1958 : decode cL_acts 1958 = .ok (.iload 20, 2) := by decide +kernel
theorem dL_acts_1960 : decode cL_acts 1960 = .ok (.iadd, 1) := by decide +kernel
theorem dL_acts_1961 : decode cL_acts 1961 = .ok (.iastore, 1) := by decide +kernel
theorem dL_acts_1962 : decode cL_acts 1962 = .ok (.aload_n 3, 1) := by decide +kernel
theorem dL_acts_1963 : decode cL_acts 1963 = .ok (.iload 16, 2) := by decide +kernel
theorem dL_acts_1965 : decode cL_acts 1965 = .ok (.bipush 9, 2) := by decide +kernel
theorem dL_acts_1967 : decode cL_acts 1967 = .ok (.iadd, 1) := by decide +kernel
theorem dL_acts_1968 : decode cL_acts 1968 = .ok (.iload 17, 2) := by decide +kernel
theorem dL_acts_1970 : decode cL_acts 1970 = .ok (.aload_n 3, 1) := by decide +kernel
theorem dL_acts_1971 : decode cL_acts 1971 = .ok (.iload 16, 2) := by decide +kernel
theorem dL_acts_1973 : decode cL_acts 1973 = .ok (.bipush 9, 2) := by decide +kernel
theorem dL_acts_1975 : decode cL_acts 1975 = .ok (.iadd, 1) := by decide +kernel
theorem dL_acts_1976 : decode cL_acts 1976 = .ok (.iaload, 1) := by decide +kernel
theorem dL_acts_1977 : decode cL_acts 1977 = .ok (.if_icmp .le 8, 3) := by decide +kernel
theorem dL_acts_1980 : decode cL_acts 1980 = .ok (.iload 17, 2) := by decide +kernel
theorem dL_acts_1982 : decode cL_acts 1982 = .ok (.goto 10, 3) := by decide +kernel
theorem dL_acts_1985 : decode cL_acts 1985 = .ok (.aload_n 3, 1) := by decide +kernel
theorem dL_acts_1986 : decode cL_acts 1986 = .ok (.iload 16, 2) := by decide +kernel
theorem dL_acts_1988 : decode cL_acts 1988 = .ok (.bipush 9, 2) := by decide +kernel
theorem dL_acts_1990 : decode cL_acts 1990 = .ok (.iadd, 1) := by decide +kernel
theorem dL_acts_1991 : decode cL_acts 1991 = .ok (.iaload, 1) := by decide +kernel
theorem dL_acts_1992 : decode cL_acts 1992 = .ok (.iastore, 1) := by decide +kernel
theorem dL_acts_1993 : decode cL_acts 1993 = .ok (.aload_n 3, 1) := by decide +kernel
theorem dL_acts_1994 : decode cL_acts 1994 = .ok (.iload 16, 2) := by decide +kernel
theorem dL_acts_1996 : decode cL_acts 1996 = .ok (.bipush 10, 2) := by decide +kernel
theorem dL_acts_1998 : decode cL_acts 1998 = .ok (.iadd, 1) := by decide +kernel
theorem dL_acts_1999 : decode cL_acts 1999 = .ok (.dup2, 1) := by decide +kernel
theorem dL_acts_2000 : decode cL_acts 2000 = .ok (.iaload, 1) := by decide +kernel
theorem dL_acts_2001 : decode cL_acts 2001 = .ok (.iload 13, 2) := by decide +kernel
theorem dL_acts_2003 : decode cL_acts 2003 = .ok (.ifCond .le 16, 3) := by decide +kernel
theorem dL_acts_2006 : decode cL_acts 2006 = .ok (.iload 18, 2) := by decide +kernel
theorem dL_acts_2008 : decode cL_acts 2008 = .ok (.aload_n 3, 1) := by decide +kernel
theorem dL_acts_2009 : decode cL_acts 2009 = .ok (.iload 16, 2) := by decide +kernel
theorem dL_acts_2011 : decode cL_acts 2011 = .ok (.iaload, 1) := by decide +kernel
theorem dL_acts_2012 : decode cL_acts 2012 = .ok (.if_icmp .le 7, 3) := by decide +kernel
theorem dL_acts_2015 : decode cL_acts 2015 = .ok (.iconst 1, 1) := by decide +kernel
theorem dL_acts_2016 : decode cL_acts 2016 = .ok (.goto 4, 3) := by decide +kernel
theorem dL_acts_2019 : decode cL_acts 2019 = .ok (.iconst 0, 1) := by decide +kernel
theorem dL_acts_2020 : decode cL_acts 2020 = .ok (.iadd, 1) := by decide +kernel
theorem dL_acts_2021 : decode cL_acts 2021 = .ok (.iastore, 1) := by decide +kernel
theorem dL_acts_2022 : decode cL_acts 2022 = .ok (.aload_n 1, 1) := by decide +kernel
theorem dL_acts_2023 : decode cL_acts 2023 = .ok (.aload 4, 2) := by decide +kernel
theorem dL_acts_2025 : decode cL_acts 2025 = .ok (.aload 5, 2) := by decide +kernel
theorem dL_acts_2027 : decode cL_acts 2027 = .ok (.aload 6, 2) := by decide +kernel
theorem dL_acts_2029 : decode cL_acts 2029 = .ok (.iload 11, 2) := by decide +kernel
theorem dL_acts_2031 : decode cL_acts 2031 = .ok (.aload_n 2, 1) := by decide +kernel
theorem dL_acts_2032 : decode cL_acts 2032 = .ok (.aload 4, 2) := by decide +kernel
theorem dL_acts_2034 : decode cL_acts 2034 = .ok (.bipush 9, 2) := by decide +kernel
theorem dL_acts_2036 : decode cL_acts 2036 = .ok (.iload 11, 2) := by decide +kernel
theorem dL_acts_2038 : decode cL_acts 2038 = .ok (.imul, 1) := by decide +kernel
theorem dL_acts_2039 : decode cL_acts 2039 = .ok (.iconst 4, 1) := by decide +kernel
theorem dL_acts_2040 : decode cL_acts 2040 = .ok (.iadd, 1) := by decide +kernel
theorem dL_acts_2041 : decode cL_acts 2041 = .ok (.iaload, 1) := by decide +kernel
theorem dL_acts_2042 : decode cL_acts 2042 = .ok (.iload 17, 2) := by decide +kernel
theorem dL_acts_2044 : decode cL_acts 2044 = .ok (.invokestatic 67, 3) := by decide +kernel
theorem dL_acts_2047 : decode cL_acts 2047 = .ok (.invokestatic 63, 3) := by decide +kernel
theorem dL_acts_2050 : decode cL_acts 2050 = .ok (.aload_n 0, 1) := by decide +kernel
theorem dL_acts_2051 : decode cL_acts 2051 = .ok (.iload 11, 2) := by decide +kernel
theorem dL_acts_2053 : decode cL_acts 2053 = .ok (.iload 13, 2) := by decide +kernel
theorem dL_acts_2055 : decode cL_acts 2055 = .ok (.iload 14, 2) := by decide +kernel
theorem dL_acts_2057 : decode cL_acts 2057 = .ok (.iload 15, 2) := by decide +kernel
theorem dL_acts_2059 : decode cL_acts 2059 = .ok (.invokevirtual 52, 3) := by decide +kernel
theorem dL_acts_2062 : decode cL_acts 2062 = .ok (.iload 20, 2) := by decide +kernel
theorem dL_acts_2064 : decode cL_acts 2064 = .ok (.if_icmp .ne 7, 3) := by decide +kernel
theorem dL_acts_2067 : decode cL_acts 2067 = .ok (.iconst 1, 1) := by decide +kernel
theorem dL_acts_2068 : decode cL_acts 2068 = .ok (.goto 4, 3) := by decide +kernel
theorem dL_acts_2071 : decode cL_acts 2071 = .ok (.iconst 0, 1) := by decide +kernel
theorem dL_acts_2072 : decode cL_acts 2072 = .ok (.ireturn, 1) := by decide +kernel
theorem dL_isSo_0 : decode cL_isSo 0 = .ok (.aload_n 0, 1) := by decide +kernel
theorem dL_isSo_1 : decode cL_isSo 1 = .ok (.iconst 0, 1) := by decide +kernel
theorem dL_isSo_2 : decode cL_isSo 2 = .ok (.invokevirtual 71, 3) := by decide +kernel
theorem dL_isSo_5 : decode cL_isSo 5 = .ok (.aload_n 1, 1) := by decide +kernel
theorem dL_isSo_6 : decode cL_isSo 6 = .ok (.iconst 0, 1) := by decide +kernel
theorem dL_isSo_7 : decode cL_isSo 7 = .ok (.iaload, 1) := by decide +kernel
theorem dL_isSo_8 : decode cL_isSo 8 = .ok (.if_icmp .ne 56, 3) := by decide +kernel
theorem dL_isSo_11 : decode cL_isSo 11 = .ok (.aload_n 0, 1) := by decide +kernel
theorem dL_isSo_12 : decode cL_isSo 12 = .ok (.iconst 1, 1) := by decide +kernel
theorem dL_isSo_13 : decode cL_isSo 13 = .ok (.invokevirtual 71, 3) := by decide +kernel
theorem dL_isSo_16 : decode cL_isSo 16 = .ok (.aload_n 1, 1) := by decide +kernel
theorem dL_isSo_17 : decode cL_isSo 17 = .ok (.iconst 1, 1) := by decide +kernel
theorem dL_isSo_18 : decode cL_isSo 18 = .ok (.iaload, 1) := by decide +kernel
theorem dL_isSo_19 : decode cL_isSo 19 = .ok (.if_icmp .ne 45, 3) := by decide +kernel
theorem dL_isSo_22 : decode cL_isSo 22 = .ok (.aload_n 0, 1) := by decide +kernel
theorem dL_isSo_23 : decode cL_isSo 23 = .ok (.iconst 2, 1) := by decide +kernel
theorem dL_isSo_24 : decode cL_isSo 24 = .ok (.invokevirtual 71, 3) := by decide +kernel
theorem dL_isSo_27 : decode cL_isSo 27 = .ok (.aload_n 1, 1) := by decide +kernel
theorem dL_isSo_28 : decode cL_isSo 28 = .ok (.iconst 2, 1) := by decide +kernel
theorem dL_isSo_29 : decode cL_isSo 29 = .ok (.iaload, 1) := by decide +kernel
theorem dL_isSo_30 : decode cL_isSo 30 = .ok (.if_icmp .ne 34, 3) := by decide +kernel
theorem dL_isSo_33 : decode cL_isSo 33 = .ok (.aload_n 0, 1) := by decide +kernel
theorem dL_isSo_34 : decode cL_isSo 34 = .ok (.iconst 3, 1) := by decide +kernel
theorem dL_isSo_35 : decode cL_isSo 35 = .ok (.invokevirtual 71, 3) := by decide +kernel
theorem dL_isSo_38 : decode cL_isSo 38 = .ok (.ifCond .ne 26, 3) := by decide +kernel
theorem dL_isSo_41 : decode cL_isSo 41 = .ok (.aload_n 0, 1) := by decide +kernel
theorem dL_isSo_42 : decode cL_isSo 42 = .ok (.iconst 5, 1) := by decide +kernel
theorem dL_isSo_43 : decode cL_isSo 43 = .ok (.invokevirtual 71, 3) := by decide +kernel
theorem dL_isSo_46 : decode cL_isSo 46 = .ok (.ifCond .ne 18, 3) := by decide +kernel
theorem dL_isSo_49 : decode cL_isSo 49 = .ok (.aload_n 0, 1) := by decide +kernel
theorem dL_isSo_50 : decode cL_isSo 50 = .ok (.iconst 0, 1) := by decide +kernel
theorem dL_isSo_51 : decode cL_isSo 51 = .ok (.invokevirtual 74, 3) := by decide +kernel
theorem dL_isSo_54 : decode cL_isSo 54 = .ok (.aload_n 1, 1) := by decide +kernel
theorem dL_isSo_55 : decode cL_isSo 55 = .ok (.iconst 3, 1) := by decide +kernel
theorem dL_isSo_56 : decode cL_isSo 56 = .ok (.iaload, 1) := by decide +kernel
theorem dL_isSo_57 : decode cL_isSo 57 = .ok (.if_icmp .ne 7, 3) := by decide +kernel
theorem dL_isSo_60 : decode cL_isSo 60 = .ok (.iconst 1, 1) := by decide +kernel
theorem dL_isSo_61 : decode cL_isSo 61 = .ok (.goto 4, 3) := by decide +kernel
theorem dL_isSo_64 : decode cL_isSo 64 = .ok (.iconst 0, 1) := by decide +kernel
theorem dL_isSo_65 : decode cL_isSo 65 = .ok (.istore 7, 2) := by decide +kernel
theorem dL_isSo_67 : decode cL_isSo 67 = .ok (.iconst 4, 1) := by decide +kernel
theorem dL_isSo_68 : decode cL_isSo 68 = .ok (.newarray .int, 2) := by decide +kernel
theorem dL_isSo_70 : decode cL_isSo 70 = .ok (.astore 8, 2) := by decide +kernel
theorem dL_isSo_72 : decode cL_isSo 72 = .ok (.bipush 7, 2) := by decide +kernel
theorem dL_isSo_74 : decode cL_isSo 74 = .ok (.newarray .int, 2) := by decide +kernel
theorem dL_isSo_76 : decode cL_isSo 76 = .ok (.astore 9, 2) := by decide +kernel
theorem dL_isSo_78 : decode cL_isSo 78 = .ok (.iconst 0, 1) := by decide +kernel
theorem dL_isSo_79 : decode cL_isSo 79 = .ok (.istore 10, 2) := by decide +kernel
theorem dL_isSo_81 : decode cL_isSo 81 = .ok (.iload 10, 2) := by decide +kernel
theorem dL_isSo_83 : decode cL_isSo 83 = .ok (.aload_n 1, 1) := by decide +kernel
theorem dL_isSo_84 : decode cL_isSo 84 = .ok (.iconst 0, 1) := by decide +kernel
theorem dL_isSo_85 : decode cL_isSo 85 = .ok (.iaload, 1) := by decide +kernel
theorem dL_isSo_86 : decode cL_isSo 86 = .ok (.if_icmp .ge 121, 3) := by decide +kernel
theorem dL_isSo_89 : decode cL_isSo 89 = .ok (.iload 7, 2) := by decide +kernel
theorem dL_isSo_91 : decode cL_isSo 91 = .ok (.ifCond .eq 116, 3) := by decide +kernel
theorem dL_isSo_94 : decode cL_isSo 94 = .ok (.iconst 0, 1) := by decide +kernel
theorem dL_isSo_95 : decode cL_isSo 95 = .ok (.istore 11, 2) := by decide +kernel
theorem dL_isSo_97 : decode cL_isSo 97 = .ok (.iload 11, 2) := by decide +kernel
theorem dL_isSo_99 : decode cL_isSo 99 = .ok (.bipush 11, 2) := by decide +kernel
theorem dL_isSo_101 : decode cL_isSo 101 = .ok (.if_icmp .ge 42, 3) := by decide +kernel
theorem dL_isSo_104 : decode cL_isSo 104 = .ok (.iload 7, 2) := by decide +kernel
theorem dL_isSo_106 : decode cL_isSo 106 = .ok (.ifCond .eq 28, 3) := by decide +kernel
theorem dL_isSo_109 : decode cL_isSo 109 = .ok (.aload_n 0, 1) := by decide +kernel
theorem dL_isSo_110 : decode cL_isSo 110 = .ok (.iload 10, 2) := by decide +kernel
theorem dL_isSo_112 : decode cL_isSo 112 = .ok (.iload 11, 2) := by decide +kernel
theorem dL_isSo_114 : decode cL_isSo 114 = .ok (.invokevirtual 77, 3) := by decide +kernel
theorem dL_isSo_117 : decode cL_isSo 117 = .ok (.aload_n 3, 1) := by decide +kernel
theorem dL_isSo_118 : decode cL_isSo 118 = .ok (.bipush 11, 2) := by decide +kernel
theorem dL_isSo_120 : decode cL_isSo 120 = .ok (.iload 10, 2) := by decide +kernel
theorem dL_isSo_122 : decode cL_isSo 122 = .ok (.imul, 1) := by decide +kernel
theorem dL_isSo_123 : decode cL_isSo 123 = .ok (.iload 11, 2) := by decide +kernel
theorem dL_isSo_125 : decode cL_isSo 125 = .ok (.iadd, 1) := by decide +kernel
theorem dL_isSo_126 : decode cL_isSo 126 = .ok (.iaload, 1) := by decide +kernel
theorem dL_isSo_127 : decode cL_isSo 127 = .ok (.if_icmp .ne 7, 3) := by decide +kernel
theorem dL_isSo_130 : decode cL_isSo 130 = .ok (.iconst 1, 1) := by decide +kernel
theorem dL_isSo_131 : decode cL_isSo 131 = .ok (.goto 4, 3) := by decide +kernel
theorem dL_isSo_134 : decode cL_isSo 134 = .ok (.iconst 0, 1) := by decide +kernel
theorem dL_isSo_135 : decode cL_isSo 135 = .ok (.istore 7, 2) := by decide +kernel
theorem dL_isSo_137 : decode cL_isSo 137 = .ok (.iinc 11 1, 3) := by decide +kernel
theorem dL_isSo_140 : decode cL_isSo 140 = .ok (.goto (-43), 3) := by decide +kernel
theorem dL_isSo_143 : decode cL_isSo 143 = .ok (.aload_n 1, 1) := by decide +kernel
theorem dL_isSo_144 : decode cL_isSo 144 = .ok (.aload 4, 2) := by decide +kernel
theorem dL_isSo_146 : decode cL_isSo 146 = .ok (.iload 10, 2) := by decide +kernel
theorem dL_isSo_148 : decode cL_isSo 148 = .ok (.iconst 0, 1) := by decide +kernel
theorem dL_isSo_149 : decode cL_isSo 149 = .ok (.invokestatic 9, 3) := by decide +kernel
theorem dL_isSo_152 : decode cL_isSo 152 = .ok (.istore 11, 2) := by decide +kernel
theorem dL_isSo_154 : decode cL_isSo 154 = .ok (.iload 7, 2) := by decide +kernel
theorem dL_isSo_156 : decode cL_isSo 156 = .ok (.ifCond .eq 42, 3) := by decide +kernel
theorem dL_isSo_159 : decode cL_isSo 159 = .ok (.aload_n 0, 1) := by decide +kernel
theorem dL_isSo_160 : decode cL_isSo 160 = .ok (.iload 10, 2) := by decide +kernel
theorem dL_isSo_162 : decode cL_isSo 162 = .ok (.bipush 11, 2) := by decide +kernel
theorem dL_isSo_164 : decode cL_isSo 164 = .ok (.invokevirtual 77, 3) := by decide +kernel
theorem dL_isSo_167 : decode cL_isSo 167 = .ok (.iload 11, 2) := by decide +kernel
theorem dL_isSo_169 : decode cL_isSo 169 = .ok (.ifCond .ge 8, 3) := by decide +kernel
theorem dL_isSo_172 : decode cL_isSo 172 = .ok (.bipush (-9), 2) := by decide +kernel
theorem dL_isSo_174 : decode cL_isSo 174 = .ok (.goto 5, 3) := by decide +kernel
theorem dL_isSo_177 : decode cL_isSo 177 = .ok (.iload 11, 2) := by decide +kernel
theorem dL_isSo_179 : decode cL_isSo 179 = .ok (.if_icmp .ne 19, 3) := by decide +kernel
theorem dL_isSo_182 : decode cL_isSo 182 = .ok (.aload_n 0, 1) := by decide +kernel
theorem dL_isSo_183 : decode cL_isSo 183 = .ok (.iload 10, 2) := by decide +kernel
theorem dL_isSo_185 : decode cL_isSo 185 = .ok (.bipush 12, 2) := by decide +kernel
theorem dL_isSo_187 : decode cL_isSo 187 = .ok (.invokevirtual 77, 3) := by decide +kernel
theorem dL_isSo_190 : decode cL_isSo 190 = .ok (.iconst (-1), 1) := by decide +kernel
theorem dL_isSo_191 : decode cL_isSo 191 = .ok (.if_icmp .ne 7, 3) := by decide +kernel
theorem dL_isSo_194 : decode cL_isSo 194 = .ok (.iconst 1, 1) := by decide +kernel
theorem dL_isSo_195 : decode cL_isSo 195 = .ok (.goto 4, 3) := by decide +kernel
theorem dL_isSo_198 : decode cL_isSo 198 = .ok (.iconst 0, 1) := by decide +kernel
theorem dL_isSo_199 : decode cL_isSo 199 = .ok (.istore 7, 2) := by decide +kernel
theorem dL_isSo_201 : decode cL_isSo 201 = .ok (.iinc 10 1, 3) := by decide +kernel
theorem dL_isSo_204 : decode cL_isSo 204 = .ok (.goto (-123), 3) := by decide +kernel
theorem dL_isSo_207 : decode cL_isSo 207 = .ok (.iconst 0, 1) := by decide +kernel
theorem dL_isSo_208 : decode cL_isSo 208 = .ok (.istore 10, 2) := by decide +kernel
theorem dL_isSo_210 : decode cL_isSo 210 = .ok (.iload 10, 2) := by decide +kernel
theorem dL_isSo_212 : decode cL_isSo 212 = .ok (.aload_n 1, 1) := by decide +kernel
theorem dL_isSo_213 : decode cL_isSo 213 = .ok (.iconst 1, 1) := by decide +kernel
theorem dL_isSo_214 : decode cL_isSo 214 = .ok (.iaload, 1) := by decide +kernel
theorem dL_isSo_215 : decode cL_isSo 215 = .ok (.if_icmp .ge 336, 3) := by decide +kernel
theorem dL_isSo_218 : decode cL_isSo 218 = .ok (.iload 7, 2) := by decide +kernel
theorem dL_isSo_220 : decode cL_isSo 220 = .ok (.ifCond .eq 331, 3) := by decide +kernel
theorem dL_isSo_223 : decode cL_isSo 223 = .ok (.iconst 0, 1) := by decide +kernel
theorem dL_isSo_224 : decode cL_isSo 224 = .ok (.istore 11, 2) := by decide +kernel
theorem dL_isSo_226 : decode cL_isSo 226 = .ok (.aload_n 1, 1) := by decide +kernel
theorem dL_isSo_227 : decode cL_isSo 227 = .ok (.aload 4, 2) := by decide +kernel
theorem dL_isSo_229 : decode cL_isSo 229 = .ok (.aload 5, 2) := by decide +kernel
theorem dL_isSo_231 : decode cL_isSo 231 = .ok (.iload 10, 2) := by decide +kernel
theorem dL_isSo_233 : decode cL_isSo 233 = .ok (.invokestatic 55, 3) := by decide +kernel
theorem dL_isSo_236 : decode cL_isSo 236 = .ok (.istore 12, 2) := by decide +kernel
theorem dL_isSo_238 : decode cL_isSo 238 = .ok (.iconst 0, 1) := by decide +kernel
theorem dL_isSo_239 : decode cL_isSo 239 = .ok (.istore 13, 2) := by decide +kernel
theorem dL_isSo_241 : decode cL_isSo 241 = .ok (.iload 13, 2) := by decide +kernel
theorem dL_isSo_243 : decode cL_isSo 243 = .ok (.aload_n 1, 1) := by decide +kernel
theorem dL_isSo_244 : decode cL_isSo 244 = .ok (.iconst 1, 1) := by decide +kernel
theorem dL_isSo_245 : decode cL_isSo 245 = .ok (.iaload, 1) := by decide +kernel
theorem dL_isSo_246 : decode cL_isSo 246 = .ok (.if_icmp .ge 45, 3) := by decide +kernel
theorem dL_isSo_249 : decode cL_isSo 249 = .ok (.iload 11, 2) := by decide +kernel
theorem dL_isSo_251 : decode cL_isSo 251 = .ok (.aload 5, 2) := by decide +kernel
theorem dL_isSo_253 : decode cL_isSo 253 = .ok (.iconst 4, 1) := by decide +kernel
theorem dL_isSo_254 : decode cL_isSo 254 = .ok (.iload 13, 2) := by decide +kernel
theorem dL_isSo_256 : decode cL_isSo 256 = .ok (.imul, 1) := by decide +kernel
theorem dL_isSo_257 : decode cL_isSo 257 = .ok (.iconst 2, 1) := by decide +kernel
theorem dL_isSo_258 : decode cL_isSo 258 = .ok (.iadd, 1) := by decide +kernel
theorem dL_isSo_259 : decode cL_isSo 259 = .ok (.iaload, 1) := by decide +kernel
theorem dL_isSo_260 : decode cL_isSo 260 = .ok (.iload 10, 2) := by decide +kernel
theorem dL_isSo_262 : decode cL_isSo 262 = .ok (.if_icmp .ne 19, 3) := by decide +kernel
theorem dL_isSo_265 : decode cL_isSo 265 = .ok (.aload 5, 2) := by decide +kernel
theorem dL_isSo_267 : decode cL_isSo 267 = .ok (.iconst 4, 1) := by decide +kernel
theorem dL_isSo_268 : decode cL_isSo 268 = .ok (.iload 13, 2) := by decide +kernel
theorem dL_isSo_270 : decode cL_isSo 270 = .ok (.imul, 1) := by decide +kernel
theorem dL_isSo_271 : decode cL_isSo 271 = .ok (.iconst 1, 1) := by decide +kernel
theorem dL_isSo_272 : decode cL_isSo 272 = .ok (.iadd, 1) := by decide +kernel
theorem dL_isSo_273 : decode cL_isSo 273 = .ok (.iaload, 1) := by decide +kernel
theorem dL_isSo_274 : decode cL_isSo 274 = .ok (.ifCond .le 7, 3) := by decide +kernel
theorem dL_isSo_277 : decode cL_isSo 277 = .ok (.iconst 1, 1) := by decide +kernel
theorem dL_isSo_278 : decode cL_isSo 278 = .ok (.goto 4, 3) := by decide +kernel
theorem dL_isSo_281 : decode cL_isSo 281 = .ok (.iconst 0, 1) := by decide +kernel
theorem dL_isSo_282 : decode cL_isSo 282 = .ok (.iadd, 1) := by decide +kernel
theorem dL_isSo_283 : decode cL_isSo 283 = .ok (.istore 11, 2) := by decide +kernel
theorem dL_isSo_285 : decode cL_isSo 285 = .ok (.iinc 13 1, 3) := by decide +kernel
theorem dL_isSo_288 : decode cL_isSo 288 = .ok (.goto (-47), 3) := by decide +kernel
theorem dL_isSo_291 : decode cL_isSo 291 = .ok (.iconst 0, 1) := by decide +kernel
theorem dL_isSo_292 : decode cL_isSo 292 = .ok (.istore 13, 2) := by decide +kernel
theorem dL_isSo_294 : decode cL_isSo 294 = .ok (.iload 13, 2) := by decide +kernel
theorem dL_isSo_296 : decode cL_isSo 296 = .ok (.bipush 6, 2) := by decide +kernel
theorem dL_isSo_298 : decode cL_isSo 298 = .ok (.if_icmp .ge 43, 3) := by decide +kernel
theorem dL_isSo_301 : decode cL_isSo 301 = .ok (.iload 7, 2) := by decide +kernel
theorem dL_isSo_303 : decode cL_isSo 303 = .ok (.ifCond .eq 29, 3) := by decide +kernel
theorem dL_isSo_306 : decode cL_isSo 306 = .ok (.aload_n 0, 1) := by decide +kernel
theorem dL_isSo_307 : decode cL_isSo 307 = .ok (.iload 10, 2) := by decide +kernel
theorem dL_isSo_309 : decode cL_isSo 309 = .ok (.iload 13, 2) := by decide +kernel
theorem dL_isSo_311 : decode cL_isSo 311 = .ok (.invokevirtual 80, 3) := by decide +kernel
theorem dL_isSo_314 : decode cL_isSo 314 = .ok (.aload 4, 2) := by decide +kernel
theorem dL_isSo_316 : decode cL_isSo 316 = .ok (.bipush 9, 2) := by decide +kernel
theorem dL_isSo_318 : decode cL_isSo 318 = .ok (.iload 10, 2) := by decide +kernel
theorem dL_isSo_320 : decode cL_isSo 320 = .ok (.imul, 1) := by decide +kernel
theorem dL_isSo_321 : decode cL_isSo 321 = .ok (.iload 13, 2) := by decide +kernel
theorem dL_isSo_323 : decode cL_isSo 323 = .ok (.iadd, 1) := by decide +kernel
theorem dL_isSo_324 : decode cL_isSo 324 = .ok (.iaload, 1) := by decide +kernel
theorem dL_isSo_325 : decode cL_isSo 325 = .ok (.if_icmp .ne 7, 3) := by decide +kernel
theorem dL_isSo_328 : decode cL_isSo 328 = .ok (.iconst 1, 1) := by decide +kernel
theorem dL_isSo_329 : decode cL_isSo 329 = .ok (.goto 4, 3) := by decide +kernel
theorem dL_isSo_332 : decode cL_isSo 332 = .ok (.iconst 0, 1) := by decide +kernel
theorem dL_isSo_333 : decode cL_isSo 333 = .ok (.istore 7, 2) := by decide +kernel
theorem dL_isSo_335 : decode cL_isSo 335 = .ok (.iinc 13 1, 3) := by decide +kernel
theorem dL_isSo_338 : decode cL_isSo 338 = .ok (.goto (-44), 3) := by decide +kernel
theorem dL_isSo_341 : decode cL_isSo 341 = .ok (.iload 7, 2) := by decide +kernel
theorem dL_isSo_343 : decode cL_isSo 343 = .ok (.ifCond .eq 110, 3) := by decide +kernel
theorem dL_isSo_346 : decode cL_isSo 346 = .ok (.aload_n 0, 1) := by decide +kernel
theorem dL_isSo_347 : decode cL_isSo 347 = .ok (.iload 10, 2) := by decide +kernel
theorem dL_isSo_349 : decode cL_isSo 349 = .ok (.bipush 6, 2) := by decide +kernel
theorem dL_isSo_351 : decode cL_isSo 351 = .ok (.invokevirtual 80, 3) := by decide +kernel
theorem dL_isSo_354 : decode cL_isSo 354 = .ok (.iload 12, 2) := by decide +kernel
theorem dL_isSo_356 : decode cL_isSo 356 = .ok (.aload 4, 2) := by decide +kernel
theorem dL_isSo_358 : decode cL_isSo 358 = .ok (.bipush 9, 2) := by decide +kernel
theorem dL_isSo_360 : decode cL_isSo 360 = .ok (.iload 10, 2) := by decide +kernel
theorem dL_isSo_362 : decode cL_isSo 362 = .ok (.imul, 1) := by decide +kernel
theorem dL_isSo_363 : decode cL_isSo 363 = .ok (.iconst 5, 1) := by decide +kernel
theorem dL_isSo_364 : decode cL_isSo 364 = .ok (.iadd, 1) := by decide +kernel
theorem dL_isSo_365 : decode cL_isSo 365 = .ok (.iaload, 1) := by decide +kernel
theorem dL_isSo_366 : decode cL_isSo 366 = .ok (.isub, 1) := by decide +kernel
theorem dL_isSo_367 : decode cL_isSo 367 = .ok (.if_icmp .ne 86, 3) := by decide +kernel
theorem dL_isSo_370 : decode cL_isSo 370 = .ok (.aload_n 0, 1) := by decide +kernel
theorem dL_isSo_371 : decode cL_isSo 371 = .ok (.iload 10, 2) := by decide +kernel
theorem dL_isSo_373 : decode cL_isSo 373 = .ok (.bipush 7, 2) := by decide +kernel
theorem dL_isSo_375 : decode cL_isSo 375 = .ok (.invokevirtual 80, 3) := by decide +kernel
theorem dL_isSo_378 : decode cL_isSo 378 = .ok (.aload 4, 2) := by decide +kernel
theorem dL_isSo_380 : decode cL_isSo 380 = .ok (.bipush 9, 2) := by decide +kernel
theorem dL_isSo_382 : decode cL_isSo 382 = .ok (.iload 10, 2) := by decide +kernel
theorem dL_isSo_384 : decode cL_isSo 384 = .ok (.imul, 1) := by decide +kernel
theorem dL_isSo_385 : decode cL_isSo 385 = .ok (.bipush 6, 2) := by decide +kernel
theorem dL_isSo_387 : decode cL_isSo 387 = .ok (.iadd, 1) := by decide +kernel
theorem dL_isSo_388 : decode cL_isSo 388 = .ok (.iaload, 1) := by decide +kernel
theorem dL_isSo_389 : decode cL_isSo 389 = .ok (.if_icmp .ne 64, 3) := by decide +kernel
theorem dL_isSo_392 : decode cL_isSo 392 = .ok (.aload_n 0, 1) := by decide +kernel
theorem dL_isSo_393 : decode cL_isSo 393 = .ok (.iload 10, 2) := by decide +kernel
theorem dL_isSo_395 : decode cL_isSo 395 = .ok (.bipush 8, 2) := by decide +kernel
theorem dL_isSo_397 : decode cL_isSo 397 = .ok (.invokevirtual 80, 3) := by decide +kernel
theorem dL_isSo_400 : decode cL_isSo 400 = .ok (.aload 4, 2) := by decide +kernel
theorem dL_isSo_402 : decode cL_isSo 402 = .ok (.bipush 9, 2) := by decide +kernel
theorem dL_isSo_404 : decode cL_isSo 404 = .ok (.iload 10, 2) := by decide +kernel
theorem dL_isSo_406 : decode cL_isSo 406 = .ok (.imul, 1) := by decide +kernel
theorem dL_isSo_407 : decode cL_isSo 407 = .ok (.bipush 7, 2) := by decide +kernel
theorem dL_isSo_409 : decode cL_isSo 409 = .ok (.iadd, 1) := by decide +kernel
theorem dL_isSo_410 : decode cL_isSo 410 = .ok (.iaload, 1) := by decide +kernel
theorem dL_isSo_411 : decode cL_isSo 411 = .ok (.if_icmp .ne 42, 3) := by decide +kernel
theorem dL_isSo_414 : decode cL_isSo 414 = .ok (.aload_n 0, 1) := by decide +kernel
theorem dL_isSo_415 : decode cL_isSo 415 = .ok (.iload 10, 2) := by decide +kernel
theorem dL_isSo_417 : decode cL_isSo 417 = .ok (.bipush 9, 2) := by decide +kernel
theorem dL_isSo_419 : decode cL_isSo 419 = .ok (.invokevirtual 80, 3) := by decide +kernel
theorem dL_isSo_422 : decode cL_isSo 422 = .ok (.aload 4, 2) := by decide +kernel
theorem dL_isSo_424 : decode cL_isSo 424 = .ok (.bipush 9, 2) := by decide +kernel
theorem dL_isSo_426 : decode cL_isSo 426 = .ok (.iload 10, 2) := by decide +kernel
theorem dL_isSo_428 : decode cL_isSo 428 = .ok (.imul, 1) := by decide +kernel
theorem dL_isSo_429 : decode cL_isSo 429 = .ok (.bipush 8, 2) := by decide +kernel
theorem dL_isSo_431 : decode cL_isSo 431 = .ok (.iadd, 1) := by decide +kernel
theorem dL_isSo_432 : decode cL_isSo 432 = .ok (.iaload, 1) := by decide +kernel
theorem dL_isSo_433 : decode cL_isSo 433 = .ok (.if_icmp .ne 20, 3) := by decide +kernel
theorem dL_isSo_436 : decode cL_isSo 436 = .ok (.aload_n 0, 1) := by decide +kernel
theorem dL_isSo_437 : decode cL_isSo 437 = .ok (.iload 10, 2) := by decide +kernel
theorem dL_isSo_439 : decode cL_isSo 439 = .ok (.bipush 10, 2) := by decide +kernel
theorem dL_isSo_441 : decode cL_isSo 441 = .ok (.invokevirtual 80, 3) := by decide +kernel
theorem dL_isSo_444 : decode cL_isSo 444 = .ok (.iload 11, 2) := by decide +kernel
theorem dL_isSo_446 : decode cL_isSo 446 = .ok (.if_icmp .ne 7, 3) := by decide +kernel
theorem dL_isSo_449 : decode cL_isSo 449 = .ok (.iconst 1, 1) := by decide +kernel
theorem dL_isSo_450 : decode cL_isSo 450 = .ok (.goto 4, 3) := by decide +kernel
theorem dL_isSo_453 : decode cL_isSo 453 = .ok (.iconst 0, 1) := by decide +kernel
theorem dL_isSo_454 : decode cL_isSo 454 = .ok (.istore 7, 2) := by decide +kernel
theorem dL_isSo_456 : decode cL_isSo 456 = .ok (.aload 8, 2) := by decide +kernel
theorem dL_isSo_458 : decode cL_isSo 458 = .ok (.aload 4, 2) := by decide +kernel
theorem dL_isSo_460 : decode cL_isSo 460 = .ok (.bipush 9, 2) := by decide +kernel
theorem dL_isSo_462 : decode cL_isSo 462 = .ok (.iload 10, 2) := by decide +kernel
theorem dL_isSo_464 : decode cL_isSo 464 = .ok (.imul, 1) := by decide +kernel
theorem dL_isSo_465 : decode cL_isSo 465 = .ok (.iconst 3, 1) := by decide +kernel
theorem dL_isSo_466 : decode cL_isSo 466 = .ok (.iadd, 1) := by decide +kernel
theorem dL_isSo_467 : decode cL_isSo 467 = .ok (.iaload, 1) := by decide +kernel
theorem dL_isSo_468 : decode cL_isSo 468 = .ok (.dup2, 1) := by decide +kernel
theorem dL_isSo_469 : decode cL_isSo 469 = .ok (.iaload, 1) := by decide +kernel
theorem dL_isSo_470 : decode cL_isSo 470 = .ok (.iconst 1, 1) := by decide +kernel
theorem dL_isSo_471 : decode cL_isSo 471 = .ok (.iadd, 1) := by decide +kernel
theorem dL_isSo_472 : decode cL_isSo 472 = .ok (.iastore, 1) := by decide +kernel
theorem dL_isSo_473 : decode cL_isSo 473 = .ok (.aload 9, 2) := by decide +kernel
theorem dL_isSo_475 : decode cL_isSo 475 = .ok (.iconst 2, 1) := by decide +kernel
theorem dL_isSo_476 : decode cL_isSo 476 = .ok (.dup2, 1) := by decide +kernel
theorem dL_isSo_477 : decode cL_isSo 477 = .ok (.iaload, 1) := by decide +kernel
theorem dL_isSo_478 : decode cL_isSo 478 = .ok (.aload 4, 2) := by decide +kernel
theorem dL_isSo_480 : decode cL_isSo 480 = .ok (.bipush 9, 2) := by decide +kernel
theorem dL_isSo_482 : decode cL_isSo 482 = .ok (.iload 10, 2) := by decide +kernel
theorem dL_isSo_484 : decode cL_isSo 484 = .ok (.imul, 1) := by decide +kernel
theorem dL_isSo_485 : decode cL_isSo 485 = .ok (.iconst 4, 1) := by decide +kernel
theorem dL_isSo_486 : decode cL_isSo 486 = .ok (.iadd, 1) := by decide +kernel
theorem dL_isSo_487 : decode cL_isSo 487 = .ok (.iaload, 1) := by decide +kernel
theorem dL_isSo_488 : decode cL_isSo 488 = .ok (.iadd, 1) := by decide +kernel
theorem dL_isSo_489 : decode cL_isSo 489 = .ok (.iastore, 1) := by decide +kernel
theorem dL_isSo_490 : decode cL_isSo 490 = .ok (.aload 9, 2) := by decide +kernel
theorem dL_isSo_492 : decode cL_isSo 492 = .ok (.iconst 3, 1) := by decide +kernel
theorem dL_isSo_493 : decode cL_isSo 493 = .ok (.dup2, 1) := by decide +kernel
theorem dL_isSo_494 : decode cL_isSo 494 = .ok (.iaload, 1) := by decide +kernel
theorem dL_isSo_495 : decode cL_isSo 495 = .ok (.aload 4, 2) := by decide +kernel
theorem dL_isSo_497 : decode cL_isSo 497 = .ok (.bipush 9, 2) := by decide +kernel
theorem dL_isSo_499 : decode cL_isSo 499 = .ok (.iload 10, 2) := by decide +kernel
theorem dL_isSo_501 : decode cL_isSo 501 = .ok (.imul, 1) := by decide +kernel
theorem dL_isSo_502 : decode cL_isSo 502 = .ok (.bipush 6, 2) := by decide +kernel
theorem dL_isSo_504 : decode cL_isSo 504 = .ok (.iadd, 1) := by decide +kernel
theorem dL_isSo_505 : decode cL_isSo 505 = .ok (.iaload, 1) := by decide +kernel
theorem dL_isSo_506 : decode cL_isSo 506 = .ok (.iadd, 1) := by decide +kernel
theorem dL_isSo_507 : decode cL_isSo 507 = .ok (.iastore, 1) := by decide +kernel
theorem dL_isSo_508 : decode cL_isSo 508 = .ok (.aload 9, 2) := by decide +kernel
theorem dL_isSo_510 : decode cL_isSo 510 = .ok (.iconst 4, 1) := by decide +kernel
theorem dL_isSo_511 : decode cL_isSo 511 = .ok (.dup2, 1) := by decide +kernel
theorem dL_isSo_512 : decode cL_isSo 512 = .ok (.iaload, 1) := by decide +kernel
theorem dL_isSo_513 : decode cL_isSo 513 = .ok (.aload 4, 2) := by decide +kernel
theorem dL_isSo_515 : decode cL_isSo 515 = .ok (.bipush 9, 2) := by decide +kernel
theorem dL_isSo_517 : decode cL_isSo 517 = .ok (.iload 10, 2) := by decide +kernel
theorem dL_isSo_519 : decode cL_isSo 519 = .ok (.imul, 1) := by decide +kernel
theorem dL_isSo_520 : decode cL_isSo 520 = .ok (.iconst 5, 1) := by decide +kernel
theorem dL_isSo_521 : decode cL_isSo 521 = .ok (.iadd, 1) := by decide +kernel
theorem dL_isSo_522 : decode cL_isSo 522 = .ok (.iaload, 1) := by decide +kernel
theorem dL_isSo_523 : decode cL_isSo 523 = .ok (.iadd, 1) := by decide +kernel
theorem dL_isSo_524 : decode cL_isSo 524 = .ok (.iastore, 1) := by decide +kernel
theorem dL_isSo_525 : decode cL_isSo 525 = .ok (.aload 9, 2) := by decide +kernel
theorem dL_isSo_527 : decode cL_isSo 527 = .ok (.iconst 5, 1) := by decide +kernel
theorem dL_isSo_528 : decode cL_isSo 528 = .ok (.dup2, 1) := by decide +kernel
theorem dL_isSo_529 : decode cL_isSo 529 = .ok (.iaload, 1) := by decide +kernel
theorem dL_isSo_530 : decode cL_isSo 530 = .ok (.iload 12, 2) := by decide +kernel
theorem dL_isSo_532 : decode cL_isSo 532 = .ok (.aload 4, 2) := by decide +kernel
theorem dL_isSo_534 : decode cL_isSo 534 = .ok (.bipush 9, 2) := by decide +kernel
theorem dL_isSo_536 : decode cL_isSo 536 = .ok (.iload 10, 2) := by decide +kernel
theorem dL_isSo_538 : decode cL_isSo 538 = .ok (.imul, 1) := by decide +kernel
theorem dL_isSo_539 : decode cL_isSo 539 = .ok (.iconst 5, 1) := by decide +kernel
theorem dL_isSo_540 : decode cL_isSo 540 = .ok (.iadd, 1) := by decide +kernel
theorem dL_isSo_541 : decode cL_isSo 541 = .ok (.iaload, 1) := by decide +kernel
theorem dL_isSo_542 : decode cL_isSo 542 = .ok (.isub, 1) := by decide +kernel
theorem dL_isSo_543 : decode cL_isSo 543 = .ok (.iadd, 1) := by decide +kernel
theorem dL_isSo_544 : decode cL_isSo 544 = .ok (.iastore, 1) := by decide +kernel
theorem dL_isSo_545 : decode cL_isSo 545 = .ok (.iinc 10 1, 3) := by decide +kernel
theorem dL_isSo_548 : decode cL_isSo 548 = .ok (.goto (-338), 3) := by decide +kernel
theorem dL_isSo_551 : decode cL_isSo 551 = .ok (.iconst 0, 1) := by decide +kernel
theorem dL_isSo_552 : decode cL_isSo 552 = .ok (.istore 10, 2) := by decide +kernel
theorem dL_isSo_554 : decode cL_isSo 554 = .ok (.iload 10, 2) := by decide +kernel
theorem dL_isSo_556 : decode cL_isSo 556 = .ok (.aload_n 1, 1) := by decide +kernel
theorem dL_isSo_557 : decode cL_isSo 557 = .ok (.iconst 2, 1) := by decide +kernel
theorem dL_isSo_558 : decode cL_isSo 558 = .ok (.iaload, 1) := by decide +kernel
theorem dL_isSo_559 : decode cL_isSo 559 = .ok (.if_icmp .ge 205, 3) := by decide +kernel
theorem dL_isSo_562 : decode cL_isSo 562 = .ok (.iload 7, 2) := by decide +kernel
theorem dL_isSo_564 : decode cL_isSo 564 = .ok (.ifCond .eq 200, 3) := by decide +kernel
theorem dL_isSo_567 : decode cL_isSo 567 = .ok (.iconst 0, 1) := by decide +kernel
theorem dL_isSo_568 : decode cL_isSo 568 = .ok (.istore 11, 2) := by decide +kernel
theorem dL_isSo_570 : decode cL_isSo 570 = .ok (.iconst 0, 1) := by decide +kernel
theorem dL_isSo_571 : decode cL_isSo 571 = .ok (.istore 12, 2) := by decide +kernel
theorem dL_isSo_573 : decode cL_isSo 573 = .ok (.iload 12, 2) := by decide +kernel
theorem dL_isSo_575 : decode cL_isSo 575 = .ok (.aload_n 1, 1) := by decide +kernel
theorem dL_isSo_576 : decode cL_isSo 576 = .ok (.iconst 1, 1) := by decide +kernel
theorem dL_isSo_577 : decode cL_isSo 577 = .ok (.iaload, 1) := by decide +kernel
theorem dL_isSo_578 : decode cL_isSo 578 = .ok (.if_icmp .ge 94, 3) := by decide +kernel
theorem dL_isSo_581 : decode cL_isSo 581 = .ok (.iconst 0, 1) := by decide +kernel
theorem dL_isSo_582 : decode cL_isSo 582 = .ok (.istore 13, 2) := by decide +kernel
theorem dL_isSo_584 : decode cL_isSo 584 = .ok (.iconst 0, 1) := by decide +kernel
theorem dL_isSo_585 : decode cL_isSo 585 = .ok (.istore 14, 2) := by decide +kernel
theorem dL_isSo_587 : decode cL_isSo 587 = .ok (.iload 14, 2) := by decide +kernel
theorem dL_isSo_589 : decode cL_isSo 589 = .ok (.aload_n 1, 1) := by decide +kernel
theorem dL_isSo_590 : decode cL_isSo 590 = .ok (.iconst 1, 1) := by decide +kernel
theorem dL_isSo_591 : decode cL_isSo 591 = .ok (.iaload, 1) := by decide +kernel
theorem dL_isSo_592 : decode cL_isSo 592 = .ok (.if_icmp .ge 59, 3) := by decide +kernel
theorem dL_isSo_595 : decode cL_isSo 595 = .ok (.iload 13, 2) := by decide +kernel
theorem dL_isSo_597 : decode cL_isSo 597 = .ok (.ifCond .ne 41, 3) := by decide +kernel
theorem dL_isSo_600 : decode cL_isSo 600 = .ok (.aload 5, 2) := by decide +kernel
theorem dL_isSo_602 : decode cL_isSo 602 = .ok (.iconst 4, 1) := by decide +kernel
theorem dL_isSo_603 : decode cL_isSo 603 = .ok (.iload 14, 2) := by decide +kernel
theorem dL_isSo_605 : decode cL_isSo 605 = .ok (.imul, 1) := by decide +kernel
theorem dL_isSo_606 : decode cL_isSo 606 = .ok (.iconst 2, 1) := by decide +kernel
theorem dL_isSo_607 : decode cL_isSo 607 = .ok (.iadd, 1) := by decide +kernel
theorem dL_isSo_608 : decode cL_isSo 608 = .ok (.iaload, 1) := by decide +kernel
theorem dL_isSo_609 : decode cL_isSo 609 = .ok (.iload 12, 2) := by decide +kernel
theorem dL_isSo_611 : decode cL_isSo 611 = .ok (.if_icmp .ne 31, 3) := by decide +kernel
theorem dL_isSo_614 : decode cL_isSo 614 = .ok (.aload 5, 2) := by decide +kernel
theorem dL_isSo_616 : decode cL_isSo 616 = .ok (.iconst 4, 1) := by decide +kernel
theorem dL_isSo_617 : decode cL_isSo 617 = .ok (.iload 14, 2) := by decide +kernel
theorem dL_isSo_619 : decode cL_isSo 619 = .ok (.imul, 1) := by decide +kernel
theorem dL_isSo_620 : decode cL_isSo 620 = .ok (.iaload, 1) := by decide +kernel
theorem dL_isSo_621 : decode cL_isSo 621 = .ok (.iload 10, 2) := by decide +kernel
theorem dL_isSo_623 : decode cL_isSo 623 = .ok (.if_icmp .ne 19, 3) := by decide +kernel
theorem dL_isSo_626 : decode cL_isSo 626 = .ok (.aload 5, 2) := by decide +kernel
theorem dL_isSo_628 : decode cL_isSo 628 = .ok (.iconst 4, 1) := by decide +kernel
theorem dL_isSo_629 : decode cL_isSo 629 = .ok (.iload 14, 2) := by decide +kernel
theorem dL_isSo_631 : decode cL_isSo 631 = .ok (.imul, 1) := by decide +kernel
theorem dL_isSo_632 : decode cL_isSo 632 = .ok (.iconst 1, 1) := by decide +kernel
theorem dL_isSo_633 : decode cL_isSo 633 = .ok (.iadd, 1) := by decide +kernel
theorem dL_isSo_634 : decode cL_isSo 634 = .ok (.iaload, 1) := by decide +kernel
theorem dL_isSo_635 : decode cL_isSo 635 = .ok (.ifCond .le 7, 3) := by decide +kernel
theorem dL_isSo_638 : decode cL_isSo 638 = .ok (.iconst 1, 1) := by decide +kernel
theorem dL_isSo_639 : decode cL_isSo 639 = .ok (.goto 4, 3) := by decide +kernel
theorem dL_isSo_642 : decode cL_isSo 642 = .ok (.iconst 0, 1) := by decide +kernel
theorem dL_isSo_643 : decode cL_isSo 643 = .ok (.istore 13, 2) := by decide +kernel
theorem dL_isSo_645 : decode cL_isSo 645 = .ok (.iinc 14 1, 3) := by decide +kernel
theorem dL_isSo_648 : decode cL_isSo 648 = .ok (.goto (-61), 3) := by decide +kernel
theorem dL_isSo_651 : decode cL_isSo 651 = .ok (.iload 11, 2) := by decide +kernel
theorem dL_isSo_653 : decode cL_isSo 653 = .ok (.iload 13, 2) := by decide +kernel
theorem dL_isSo_655 : decode cL_isSo 655 = .ok (.ifCond .eq 7, 3) := by decide +kernel
theorem dL_isSo_658 : decode cL_isSo 658 = .ok (.iconst 1, 1) := by decide +kernel
theorem dL_isSo_659 : decode cL_isSo 659 = .ok (.goto 4, 3) := by decide +kernel
theorem dL_isSo_662 : decode cL_isSo 662 = .ok (.iconst 0, 1) := by decide +kernel
theorem dL_isSo_663 : decode cL_isSo 663 = .ok (.iadd, 1) := by decide +kernel
theorem dL_isSo_664 : decode cL_isSo 664 = .ok (.istore 11, 2) := by decide +kernel
theorem dL_isSo_666 : decode cL_isSo 666 = .ok (.iinc 12 1, 3) := by decide +kernel
theorem dL_isSo_669 : decode cL_isSo 669 = .ok (.goto (-96), 3) := by decide +kernel
theorem dL_isSo_672 : decode cL_isSo 672 = .ok (.aload 9, 2) := by decide +kernel
theorem dL_isSo_674 : decode cL_isSo 674 = .ok (.iconst 1, 1) := by decide +kernel
theorem dL_isSo_675 : decode cL_isSo 675 = .ok (.dup2, 1) := by decide +kernel
theorem dL_isSo_676 : decode cL_isSo 676 = .ok (.iaload, 1) := by decide +kernel
theorem dL_isSo_677 : decode cL_isSo 677 = .ok (.aload 6, 2) := by decide +kernel
theorem dL_isSo_679 : decode cL_isSo 679 = .ok (.iconst 2, 1) := by decide +kernel
theorem dL_isSo_680 : decode cL_isSo 680 = .ok (.iload 10, 2) := by decide +kernel
theorem dL_isSo_682 : decode cL_isSo 682 = .ok (.imul, 1) := by decide +kernel
theorem dL_isSo_683 : decode cL_isSo 683 = .ok (.iconst 1, 1) := by decide +kernel
theorem dL_isSo_684 : decode cL_isSo 684 = .ok (.iadd, 1) := by decide +kernel
theorem dL_isSo_685 : decode cL_isSo 685 = .ok (.iaload, 1) := by decide +kernel
theorem dL_isSo_686 : decode cL_isSo 686 = .ok (.iadd, 1) := by decide +kernel
theorem dL_isSo_687 : decode cL_isSo 687 = .ok (.iastore, 1) := by decide +kernel
theorem dL_isSo_688 : decode cL_isSo 688 = .ok (.aload 9, 2) := by decide +kernel
theorem dL_isSo_690 : decode cL_isSo 690 = .ok (.bipush 6, 2) := by decide +kernel
theorem dL_isSo_692 : decode cL_isSo 692 = .ok (.dup2, 1) := by decide +kernel
theorem dL_isSo_693 : decode cL_isSo 693 = .ok (.iaload, 1) := by decide +kernel
theorem dL_isSo_694 : decode cL_isSo 694 = .ok (.aload 6, 2) := by decide +kernel
theorem dL_isSo_696 : decode cL_isSo 696 = .ok (.iconst 2, 1) := by decide +kernel
theorem dL_isSo_697 : decode cL_isSo 697 = .ok (.iload 10, 2) := by decide +kernel
theorem dL_isSo_699 : decode cL_isSo 699 = .ok (.imul, 1) := by decide +kernel
theorem dL_isSo_700 : decode cL_isSo 700 = .ok (.iaload, 1) := by decide +kernel
theorem dL_isSo_701 : decode cL_isSo 701 = .ok (.iadd, 1) := by decide +kernel
theorem dL_isSo_702 : decode cL_isSo 702 = .ok (.iastore, 1) := by decide +kernel
theorem dL_isSo_703 : decode cL_isSo 703 = .ok (.aload_n 0, 1) := by decide +kernel
theorem dL_isSo_704 : decode cL_isSo 704 = .ok (.iload 10, 2) := by decide +kernel
theorem dL_isSo_706 : decode cL_isSo 706 = .ok (.iconst 0, 1) := by decide +kernel
theorem dL_isSo_707 : decode cL_isSo 707 = .ok (.invokevirtual 83, 3) := by decide +kernel
theorem dL_isSo_710 : decode cL_isSo 710 = .ok (.aload 6, 2) := by decide +kernel
theorem dL_isSo_712 : decode cL_isSo 712 = .ok (.iconst 2, 1) := by decide +kernel
theorem dL_isSo_713 : decode cL_isSo 713 = .ok (.iload 10, 2) := by decide +kernel
theorem dL_isSo_715 : decode cL_isSo 715 = .ok (.imul, 1) := by decide +kernel
theorem dL_isSo_716 : decode cL_isSo 716 = .ok (.iaload, 1) := by decide +kernel
theorem dL_isSo_717 : decode cL_isSo 717 = .ok (.if_icmp .ne 38, 3) := by decide +kernel
theorem dL_isSo_720 : decode cL_isSo 720 = .ok (.aload_n 0, 1) := by decide +kernel
theorem dL_isSo_721 : decode cL_isSo 721 = .ok (.iload 10, 2) := by decide +kernel
theorem dL_isSo_723 : decode cL_isSo 723 = .ok (.iconst 1, 1) := by decide +kernel
theorem dL_isSo_724 : decode cL_isSo 724 = .ok (.invokevirtual 83, 3) := by decide +kernel
theorem dL_isSo_727 : decode cL_isSo 727 = .ok (.aload 6, 2) := by decide +kernel
theorem dL_isSo_729 : decode cL_isSo 729 = .ok (.iconst 2, 1) := by decide +kernel
theorem dL_isSo_730 : decode cL_isSo 730 = .ok (.iload 10, 2) := by decide +kernel
theorem dL_isSo_732 : decode cL_isSo 732 = .ok (.imul, 1) := by decide +kernel
theorem dL_isSo_733 : decode cL_isSo 733 = .ok (.iconst 1, 1) := by decide +kernel
theorem dL_isSo_734 : decode cL_isSo 734 = .ok (.iadd, 1) := by decide +kernel
theorem dL_isSo_735 : decode cL_isSo 735 = .ok (.iaload, 1) := by decide +kernel
theorem dL_isSo_736 : decode cL_isSo 736 = .ok (.if_icmp .ne 19, 3) := by decide +kernel
theorem dL_isSo_739 : decode cL_isSo 739 = .ok (.aload_n 0, 1) := by decide +kernel
theorem dL_isSo_740 : decode cL_isSo 740 = .ok (.iload 10, 2) := by decide +kernel
theorem dL_isSo_742 : decode cL_isSo 742 = .ok (.iconst 2, 1) := by decide +kernel
theorem dL_isSo_743 : decode cL_isSo 743 = .ok (.invokevirtual 83, 3) := by decide +kernel
theorem dL_isSo_746 : decode cL_isSo 746 = .ok (.iload 11, 2) := by decide +kernel
theorem dL_isSo_748 : decode cL_isSo 748 = .ok (.if_icmp .ne 7, 3) := by decide +kernel
theorem dL_isSo_751 : decode cL_isSo 751 = .ok (.iconst 1, 1) := by decide +kernel
theorem dL_isSo_752 : decode cL_isSo 752 = .ok (.goto 4, 3) := by decide +kernel
theorem dL_isSo_755 : decode cL_isSo 755 = .ok (.iconst 0, 1) := by decide +kernel
theorem dL_isSo_756 : decode cL_isSo 756 = .ok (.istore 7, 2) := by decide +kernel
theorem dL_isSo_758 : decode cL_isSo 758 = .ok (.iinc 10 1, 3) := by decide +kernel
theorem dL_isSo_761 : decode cL_isSo 761 = .ok (.goto (-207), 3) := by decide +kernel
theorem dL_isSo_764 : decode cL_isSo 764 = .ok (.iconst 0, 1) := by decide +kernel
theorem dL_isSo_765 : decode cL_isSo 765 = .ok (.istore 10, 2) := by decide +kernel
theorem dL_isSo_767 : decode cL_isSo 767 = .ok (.iload 10, 2) := by decide +kernel
theorem dL_isSo_769 : decode cL_isSo 769 = .ok (.iconst 5, 1) := by decide +kernel
theorem dL_isSo_770 : decode cL_isSo 770 = .ok (.if_icmp .ge 60, 3) := by decide +kernel
theorem dL_isSo_773 : decode cL_isSo 773 = .ok (.iload 7, 2) := by decide +kernel
theorem dL_isSo_775 : decode cL_isSo 775 = .ok (.ifCond .eq 46, 3) := by decide +kernel
theorem dL_isSo_778 : decode cL_isSo 778 = .ok (.aload_n 0, 1) := by decide +kernel
theorem dL_isSo_779 : decode cL_isSo 779 = .ok (.bipush 6, 2) := by decide +kernel
theorem dL_isSo_781 : decode cL_isSo 781 = .ok (.iload 10, 2) := by decide +kernel
theorem dL_isSo_783 : decode cL_isSo 783 = .ok (.iadd, 1) := by decide +kernel
theorem dL_isSo_784 : decode cL_isSo 784 = .ok (.invokevirtual 71, 3) := by decide +kernel
theorem dL_isSo_787 : decode cL_isSo 787 = .ok (.aload_n 2, 1) := by decide +kernel
theorem dL_isSo_788 : decode cL_isSo 788 = .ok (.iload 10, 2) := by decide +kernel
theorem dL_isSo_790 : decode cL_isSo 790 = .ok (.iaload, 1) := by decide +kernel
theorem dL_isSo_791 : decode cL_isSo 791 = .ok (.if_icmp .ne 30, 3) := by decide +kernel
theorem dL_isSo_794 : decode cL_isSo 794 = .ok (.iload 10, 2) := by decide +kernel
theorem dL_isSo_796 : decode cL_isSo 796 = .ok (.iconst 4, 1) := by decide +kernel
theorem dL_isSo_797 : decode cL_isSo 797 = .ok (.if_icmp .eq 20, 3) := by decide +kernel
theorem dL_isSo_800 : decode cL_isSo 800 = .ok (.aload_n 0, 1) := by decide +kernel
theorem dL_isSo_801 : decode cL_isSo 801 = .ok (.bipush 11, 2) := by decide +kernel
theorem dL_isSo_803 : decode cL_isSo 803 = .ok (.iload 10, 2) := by decide +kernel
theorem dL_isSo_805 : decode cL_isSo 805 = .ok (.iadd, 1) := by decide +kernel
theorem dL_isSo_806 : decode cL_isSo 806 = .ok (.invokevirtual 71, 3) := by decide +kernel
theorem dL_isSo_809 : decode cL_isSo 809 = .ok (.aload 8, 2) := by decide +kernel
theorem dL_isSo_811 : decode cL_isSo 811 = .ok (.iload 10, 2) := by decide +kernel
theorem dL_isSo_813 : decode cL_isSo 813 = .ok (.iaload, 1) := by decide +kernel
theorem dL_isSo_814 : decode cL_isSo 814 = .ok (.if_icmp .ne 7, 3) := by decide +kernel
theorem dL_isSo_817 : decode cL_isSo 817 = .ok (.iconst 1, 1) := by decide +kernel
theorem dL_isSo_818 : decode cL_isSo 818 = .ok (.goto 4, 3) := by decide +kernel
theorem dL_isSo_821 : decode cL_isSo 821 = .ok (.iconst 0, 1) := by decide +kernel
theorem dL_isSo_822 : decode cL_isSo 822 = .ok (.istore 7, 2) := by decide +kernel
theorem dL_isSo_824 : decode cL_isSo 824 = .ok (.iinc 10 1, 3) := by decide +kernel
theorem dL_isSo_827 : decode cL_isSo 827 = .ok (.goto (-60), 3) := by decide +kernel
theorem dL_isSo_830 : decode cL_isSo 830 = .ok (.iconst 1, 1) := by decide +kernel
theorem dL_isSo_831 : decode cL_isSo 831 = .ok (.istore 10, 2) := by decide +kernel
theorem dL_isSo_833 : decode cL_isSo 833 = .ok (.iload 10, 2) := by decide +kernel
theorem dL_isSo_835 : decode cL_isSo 835 = .ok (.bipush 7, 2) := by decide +kernel
theorem dL_isSo_837 : decode cL_isSo 837 = .ok (.if_icmp .ge 35, 3) := by decide +kernel
theorem dL_isSo_840 : decode cL_isSo 840 = .ok (.iload 7, 2) := by decide +kernel
theorem dL_isSo_842 : decode cL_isSo 842 = .ok (.ifCond .eq 21, 3) := by decide +kernel
theorem dL_isSo_845 : decode cL_isSo 845 = .ok (.aload_n 0, 1) := by decide +kernel
theorem dL_isSo_846 : decode cL_isSo 846 = .ok (.iload 10, 2) := by decide +kernel
theorem dL_isSo_848 : decode cL_isSo 848 = .ok (.invokevirtual 74, 3) := by decide +kernel
theorem dL_isSo_851 : decode cL_isSo 851 = .ok (.aload 9, 2) := by decide +kernel
theorem dL_isSo_853 : decode cL_isSo 853 = .ok (.iload 10, 2) := by decide +kernel
theorem dL_isSo_855 : decode cL_isSo 855 = .ok (.iaload, 1) := by decide +kernel
theorem dL_isSo_856 : decode cL_isSo 856 = .ok (.if_icmp .ne 7, 3) := by decide +kernel
theorem dL_isSo_859 : decode cL_isSo 859 = .ok (.iconst 1, 1) := by decide +kernel
theorem dL_isSo_860 : decode cL_isSo 860 = .ok (.goto 4, 3) := by decide +kernel
theorem dL_isSo_863 : decode cL_isSo 863 = .ok (.iconst 0, 1) := by decide +kernel
theorem dL_isSo_864 : decode cL_isSo 864 = .ok (.istore 7, 2) := by decide +kernel
theorem dL_isSo_866 : decode cL_isSo 866 = .ok (.iinc 10 1, 3) := by decide +kernel
theorem dL_isSo_869 : decode cL_isSo 869 = .ok (.goto (-36), 3) := by decide +kernel
theorem dL_isSo_872 : decode cL_isSo 872 = .ok (.iload 7, 2) := by decide +kernel
theorem dL_isSo_874 : decode cL_isSo 874 = .ok (.ifCond .eq 78, 3) := by decide +kernel
theorem dL_isSo_877 : decode cL_isSo 877 = .ok (.aload_n 0, 1) := by decide +kernel
theorem dL_isSo_878 : decode cL_isSo 878 = .ok (.aload_n 1, 1) := by decide +kernel
theorem dL_isSo_879 : decode cL_isSo 879 = .ok (.iconst 0, 1) := by decide +kernel
theorem dL_isSo_880 : decode cL_isSo 880 = .ok (.iaload, 1) := by decide +kernel
theorem dL_isSo_881 : decode cL_isSo 881 = .ok (.iconst 0, 1) := by decide +kernel
theorem dL_isSo_882 : decode cL_isSo 882 = .ok (.invokevirtual 77, 3) := by decide +kernel
theorem dL_isSo_885 : decode cL_isSo 885 = .ok (.iconst (-1), 1) := by decide +kernel
theorem dL_isSo_886 : decode cL_isSo 886 = .ok (.if_icmp .ne 66, 3) := by decide +kernel
theorem dL_isSo_889 : decode cL_isSo 889 = .ok (.aload_n 0, 1) := by decide +kernel
theorem dL_isSo_890 : decode cL_isSo 890 = .ok (.aload_n 1, 1) := by decide +kernel
theorem dL_isSo_891 : decode cL_isSo 891 = .ok (.iconst 1, 1) := by decide +kernel
theorem dL_isSo_892 : decode cL_isSo 892 = .ok (.iaload, 1) := by decide +kernel
theorem dL_isSo_893 : decode cL_isSo 893 = .ok (.iconst 0, 1) := by decide +kernel
theorem dL_isSo_894 : decode cL_isSo 894 = .ok (.invokevirtual 80, 3) := by decide +kernel
theorem dL_isSo_897 : decode cL_isSo 897 = .ok (.iconst (-1), 1) := by decide +kernel
theorem dL_isSo_898 : decode cL_isSo 898 = .ok (.if_icmp .ne 54, 3) := by decide +kernel
theorem dL_isSo_901 : decode cL_isSo 901 = .ok (.aload_n 0, 1) := by decide +kernel
theorem dL_isSo_902 : decode cL_isSo 902 = .ok (.aload_n 1, 1) := by decide +kernel
theorem dL_isSo_903 : decode cL_isSo 903 = .ok (.iconst 2, 1) := by decide +kernel
theorem dL_isSo_904 : decode cL_isSo 904 = .ok (.iaload, 1) := by decide +kernel
theorem dL_isSo_905 : decode cL_isSo 905 = .ok (.iconst 0, 1) := by decide +kernel
theorem dL_isSo_906 : decode cL_isSo 906 = .ok (.invokevirtual 83, 3) := by decide +kernel
theorem dL_isSo_909 : decode cL_isSo 909 = .ok (.iconst (-1), 1) := by decide +kernel
theorem dL_isSo_910 : decode cL_isSo 910 = .ok (.if_icmp .ne 42, 3) := by decide +kernel
theorem dL_isSo_913 : decode cL_isSo 913 = .ok (.aload_n 0, 1) := by decide +kernel
theorem dL_isSo_914 : decode cL_isSo 914 = .ok (.iconst 0, 1) := by decide +kernel
theorem dL_isSo_915 : decode cL_isSo 915 = .ok (.invokevirtual 74, 3) := by decide +kernel
theorem dL_isSo_918 : decode cL_isSo 918 = .ok (.aload 9, 2) := by decide +kernel
theorem dL_isSo_920 : decode cL_isSo 920 = .ok (.bipush 6, 2) := by decide +kernel
theorem dL_isSo_922 : decode cL_isSo 922 = .ok (.iaload, 1) := by decide +kernel
theorem dL_isSo_923 : decode cL_isSo 923 = .ok (.aload 9, 2) := by decide +kernel
theorem dL_isSo_925 : decode cL_isSo 925 = .ok (.iconst 4, 1) := by decide +kernel
theorem dL_isSo_926 : decode cL_isSo 926 = .ok (.iaload, 1) := by decide +kernel
theorem dL_isSo_927 : decode cL_isSo 927 = .ok (.iadd, 1) := by decide +kernel
theorem dL_isSo_928 : decode cL_isSo 928 = .ok (.if_icmp .ne 24, 3) := by decide +kernel
theorem dL_isSo_931 : decode cL_isSo 931 = .ok (.aload 9, 2) := by decide +kernel
theorem dL_isSo_933 : decode cL_isSo 933 = .ok (.bipush 6, 2) := by decide +kernel
theorem dL_isSo_935 : decode cL_isSo 935 = .ok (.iaload, 1) := by decide +kernel
theorem dL_isSo_936 : decode cL_isSo 936 = .ok (.aload 9, 2) := by decide +kernel
theorem dL_isSo_938 : decode cL_isSo 938 = .ok (.iconst 1, 1) := by decide +kernel
theorem dL_isSo_939 : decode cL_isSo 939 = .ok (.iaload, 1) := by decide +kernel
theorem dL_isSo_940 : decode cL_isSo 940 = .ok (.aload 9, 2) := by decide +kernel
theorem dL_isSo_942 : decode cL_isSo 942 = .ok (.iconst 5, 1) := by decide +kernel
theorem dL_isSo_943 : decode cL_isSo 943 = .ok (.iaload, 1) := by decide +kernel
theorem dL_isSo_944 : decode cL_isSo 944 = .ok (.iadd, 1) := by decide +kernel
theorem dL_isSo_945 : decode cL_isSo 945 = .ok (.if_icmp .ne 7, 3) := by decide +kernel
theorem dL_isSo_948 : decode cL_isSo 948 = .ok (.iconst 1, 1) := by decide +kernel
theorem dL_isSo_949 : decode cL_isSo 949 = .ok (.goto 4, 3) := by decide +kernel
theorem dL_isSo_952 : decode cL_isSo 952 = .ok (.iconst 0, 1) := by decide +kernel
theorem dL_isSo_953 : decode cL_isSo 953 = .ok (.ireturn, 1) := by decide +kernel
theorem dL_law_0 : decode cL_law 0 = .ok (.new 21, 3) := by decide +kernel
theorem dL_law_3 : decode cL_law 3 = .ok (.dup, 1) := by decide +kernel
theorem dL_law_4 : decode cL_law 4 = .ok (.invokespecial 86, 3) := by decide +kernel
theorem dL_law_7 : decode cL_law 7 = .ok (.astore_n 1, 1) := by decide +kernel
theorem dL_law_8 : decode cL_law 8 = .ok (.iconst 5, 1) := by decide +kernel
theorem dL_law_9 : decode cL_law 9 = .ok (.newarray .int, 2) := by decide +kernel
theorem dL_law_11 : decode cL_law 11 = .ok (.astore_n 2, 1) := by decide +kernel
theorem dL_law_12 : decode cL_law 12 = .ok (.iconst 5, 1) := by decide +kernel
theorem dL_law_13 : decode cL_law 13 = .ok (.newarray .int, 2) := by decide +kernel
theorem dL_law_15 : decode cL_law 15 = .ok (.astore_n 3, 1) := by decide +kernel
theorem dL_law_16 : decode cL_law 16 = .ok (.bipush 33, 2) := by decide +kernel
theorem dL_law_18 : decode cL_law 18 = .ok (.newarray .int, 2) := by decide +kernel
theorem dL_law_20 : decode cL_law 20 = .ok (.astore 4, 2) := by decide +kernel
theorem dL_law_22 : decode cL_law 22 = .ok (.bipush 63, 2) := by decide +kernel
theorem dL_law_24 : decode cL_law 24 = .ok (.newarray .int, 2) := by decide +kernel
theorem dL_law_26 : decode cL_law 26 = .ok (.astore 5, 2) := by decide +kernel
theorem dL_law_28 : decode cL_law 28 = .ok (.bipush 28, 2) := by decide +kernel
theorem dL_law_30 : decode cL_law 30 = .ok (.newarray .int, 2) := by decide +kernel
theorem dL_law_32 : decode cL_law 32 = .ok (.astore 6, 2) := by decide +kernel
theorem dL_law_34 : decode cL_law 34 = .ok (.bipush 8, 2) := by decide +kernel
theorem dL_law_36 : decode cL_law 36 = .ok (.newarray .int, 2) := by decide +kernel
theorem dL_law_38 : decode cL_law 38 = .ok (.astore 7, 2) := by decide +kernel
theorem dL_law_40 : decode cL_law 40 = .ok (.aload_n 3, 1) := by decide +kernel
theorem dL_law_41 : decode cL_law 41 = .ok (.iconst 0, 1) := by decide +kernel
theorem dL_law_42 : decode cL_law 42 = .ok (.iconst 2, 1) := by decide +kernel
theorem dL_law_43 : decode cL_law 43 = .ok (.iastore, 1) := by decide +kernel
theorem dL_law_44 : decode cL_law 44 = .ok (.aload_n 3, 1) := by decide +kernel
theorem dL_law_45 : decode cL_law 45 = .ok (.iconst 1, 1) := by decide +kernel
theorem dL_law_46 : decode cL_law 46 = .ok (.bipush 10, 2) := by decide +kernel
theorem dL_law_48 : decode cL_law 48 = .ok (.iastore, 1) := by decide +kernel
theorem dL_law_49 : decode cL_law 49 = .ok (.aload_n 3, 1) := by decide +kernel
theorem dL_law_50 : decode cL_law 50 = .ok (.iconst 2, 1) := by decide +kernel
theorem dL_law_51 : decode cL_law 51 = .ok (.iconst 5, 1) := by decide +kernel
theorem dL_law_52 : decode cL_law 52 = .ok (.iastore, 1) := by decide +kernel
theorem dL_law_53 : decode cL_law 53 = .ok (.aload_n 3, 1) := by decide +kernel
theorem dL_law_54 : decode cL_law 54 = .ok (.iconst 3, 1) := by decide +kernel
theorem dL_law_55 : decode cL_law 55 = .ok (.bipush 15, 2) := by decide +kernel
theorem dL_law_57 : decode cL_law 57 = .ok (.iastore, 1) := by decide +kernel
theorem dL_law_58 : decode cL_law 58 = .ok (.aload_n 3, 1) := by decide +kernel
theorem dL_law_59 : decode cL_law 59 = .ok (.iconst 4, 1) := by decide +kernel
theorem dL_law_60 : decode cL_law 60 = .ok (.bipush 20, 2) := by decide +kernel
theorem dL_law_62 : decode cL_law 62 = .ok (.iastore, 1) := by decide +kernel
theorem dL_law_63 : decode cL_law 63 = .ok (.aload_n 1, 1) := by decide +kernel
theorem dL_law_64 : decode cL_law 64 = .ok (.aload_n 2, 1) := by decide +kernel
theorem dL_law_65 : decode cL_law 65 = .ok (.aload_n 3, 1) := by decide +kernel
theorem dL_law_66 : decode cL_law 66 = .ok (.aload 4, 2) := by decide +kernel
theorem dL_law_68 : decode cL_law 68 = .ok (.aload 5, 2) := by decide +kernel
theorem dL_law_70 : decode cL_law 70 = .ok (.aload 6, 2) := by decide +kernel
theorem dL_law_72 : decode cL_law 72 = .ok (.aload 7, 2) := by decide +kernel
theorem dL_law_74 : decode cL_law 74 = .ok (.invokestatic 87, 3) := by decide +kernel
theorem dL_law_77 : decode cL_law 77 = .ok (.istore 8, 2) := by decide +kernel
theorem dL_law_79 : decode cL_law 79 = .ok (.iconst 0, 1) := by decide +kernel
theorem dL_law_80 : decode cL_law 80 = .ok (.istore 9, 2) := by decide +kernel
theorem dL_law_82 : decode cL_law 82 = .ok (.iload 9, 2) := by decide +kernel
theorem dL_law_84 : decode cL_law 84 = .ok (.bipush 12, 2) := by decide +kernel
theorem dL_law_86 : decode cL_law 86 = .ok (.if_icmp .ge 72, 3) := by decide +kernel
theorem dL_law_89 : decode cL_law 89 = .ok (.iload 8, 2) := by decide +kernel
theorem dL_law_91 : decode cL_law 91 = .ok (.ifCond .eq 67, 3) := by decide +kernel
theorem dL_law_94 : decode cL_law 94 = .ok (.aload_n 1, 1) := by decide +kernel
theorem dL_law_95 : decode cL_law 95 = .ok (.aload_n 2, 1) := by decide +kernel
theorem dL_law_96 : decode cL_law 96 = .ok (.aload_n 3, 1) := by decide +kernel
theorem dL_law_97 : decode cL_law 97 = .ok (.aload 4, 2) := by decide +kernel
theorem dL_law_99 : decode cL_law 99 = .ok (.aload 5, 2) := by decide +kernel
theorem dL_law_101 : decode cL_law 101 = .ok (.aload 6, 2) := by decide +kernel
theorem dL_law_103 : decode cL_law 103 = .ok (.aload 7, 2) := by decide +kernel
theorem dL_law_105 : decode cL_law 105 = .ok (.aload_n 0, 1) := by decide +kernel
theorem dL_law_106 : decode cL_law 106 = .ok (.iconst 1, 1) := by decide +kernel
theorem dL_law_107 : decode cL_law 107 = .ok (.iload 9, 2) := by decide +kernel
theorem dL_law_109 : decode cL_law 109 = .ok (.iadd, 1) := by decide +kernel
theorem dL_law_110 : decode cL_law 110 = .ok (.invokestatic 91, 3) := by decide +kernel
theorem dL_law_113 : decode cL_law 113 = .ok (.ldc 8, 2) := by decide +kernel
theorem dL_law_115 : decode cL_law 115 = .ok (.iand, 1) := by decide +kernel
theorem dL_law_116 : decode cL_law 116 = .ok (.sipush 832, 3) := by decide +kernel
theorem dL_law_119 : decode cL_law 119 = .ok (.idiv, 1) := by decide +kernel
theorem dL_law_120 : decode cL_law 120 = .ok (.sipush 832, 3) := by decide +kernel
theorem dL_law_123 : decode cL_law 123 = .ok (.imul, 1) := by decide +kernel
theorem dL_law_124 : decode cL_law 124 = .ok (.iload 9, 2) := by decide +kernel
theorem dL_law_126 : decode cL_law 126 = .ok (.iconst 2, 1) := by decide +kernel
theorem dL_law_127 : decode cL_law 127 = .ok (.if_icmp .ge 7, 3) := by decide +kernel
theorem dL_law_130 : decode cL_law 130 = .ok (.iconst 0, 1) := by decide +kernel
theorem dL_law_131 : decode cL_law 131 = .ok (.goto 15, 3) := by decide +kernel
theorem dL_law_134 : decode cL_law 134 = .ok (.iload 9, 2) := by decide +kernel
theorem dL_law_136 : decode cL_law 136 = .ok (.iconst 5, 1) := by decide +kernel
theorem dL_law_137 : decode cL_law 137 = .ok (.if_icmp .ge 7, 3) := by decide +kernel
theorem dL_law_140 : decode cL_law 140 = .ok (.iconst 2, 1) := by decide +kernel
theorem dL_law_141 : decode cL_law 141 = .ok (.goto 5, 3) := by decide +kernel
theorem dL_law_144 : decode cL_law 144 = .ok (.bipush 6, 2) := by decide +kernel
theorem dL_law_146 : decode cL_law 146 = .ok (.iadd, 1) := by decide +kernel
theorem dL_law_147 : decode cL_law 147 = .ok (.invokestatic 95, 3) := by decide +kernel
theorem dL_law_150 : decode cL_law 150 = .ok (.istore 8, 2) := by decide +kernel
theorem dL_law_152 : decode cL_law 152 = .ok (.iinc 9 1, 3) := by decide +kernel
theorem dL_law_155 : decode cL_law 155 = .ok (.goto (-73), 3) := by decide +kernel
theorem dL_law_158 : decode cL_law 158 = .ok (.bipush 8, 2) := by decide +kernel
theorem dL_law_160 : decode cL_law 160 = .ok (.aload_n 0, 1) := by decide +kernel
theorem dL_law_161 : decode cL_law 161 = .ok (.iconst 0, 1) := by decide +kernel
theorem dL_law_162 : decode cL_law 162 = .ok (.invokestatic 91, 3) := by decide +kernel
theorem dL_law_165 : decode cL_law 165 = .ok (.bipush 45, 2) := by decide +kernel
theorem dL_law_167 : decode cL_law 167 = .ok (.invokestatic 16, 3) := by decide +kernel
theorem dL_law_170 : decode cL_law 170 = .ok (.iadd, 1) := by decide +kernel
theorem dL_law_171 : decode cL_law 171 = .ok (.istore 9, 2) := by decide +kernel
theorem dL_law_173 : decode cL_law 173 = .ok (.iconst 0, 1) := by decide +kernel
theorem dL_law_174 : decode cL_law 174 = .ok (.istore 10, 2) := by decide +kernel
theorem dL_law_176 : decode cL_law 176 = .ok (.iload 10, 2) := by decide +kernel
theorem dL_law_178 : decode cL_law 178 = .ok (.iload 9, 2) := by decide +kernel
theorem dL_law_180 : decode cL_law 180 = .ok (.if_icmp .ge 71, 3) := by decide +kernel
theorem dL_law_183 : decode cL_law 183 = .ok (.iload 8, 2) := by decide +kernel
theorem dL_law_185 : decode cL_law 185 = .ok (.ifCond .eq 66, 3) := by decide +kernel
theorem dL_law_188 : decode cL_law 188 = .ok (.aload_n 1, 1) := by decide +kernel
theorem dL_law_189 : decode cL_law 189 = .ok (.aload_n 2, 1) := by decide +kernel
theorem dL_law_190 : decode cL_law 190 = .ok (.aload_n 3, 1) := by decide +kernel
theorem dL_law_191 : decode cL_law 191 = .ok (.aload 4, 2) := by decide +kernel
theorem dL_law_193 : decode cL_law 193 = .ok (.aload 5, 2) := by decide +kernel
theorem dL_law_195 : decode cL_law 195 = .ok (.aload 6, 2) := by decide +kernel
theorem dL_law_197 : decode cL_law 197 = .ok (.aload 7, 2) := by decide +kernel
theorem dL_law_199 : decode cL_law 199 = .ok (.aload_n 0, 1) := by decide +kernel
theorem dL_law_200 : decode cL_law 200 = .ok (.bipush 13, 2) := by decide +kernel
theorem dL_law_202 : decode cL_law 202 = .ok (.iload 10, 2) := by decide +kernel
theorem dL_law_204 : decode cL_law 204 = .ok (.iadd, 1) := by decide +kernel
theorem dL_law_205 : decode cL_law 205 = .ok (.invokestatic 91, 3) := by decide +kernel
theorem dL_law_208 : decode cL_law 208 = .ok (.sipush 7919, 3) := by decide +kernel
theorem dL_law_211 : decode cL_law 211 = .ok (.iload 10, 2) := by decide +kernel
theorem dL_law_213 : decode cL_law 213 = .ok (.imul, 1) := by decide +kernel
theorem dL_law_214 : decode cL_law 214 = .ok (.ixor, 1) := by decide +kernel
theorem dL_law_215 : decode cL_law 215 = .ok (.invokestatic 95, 3) := by decide +kernel
theorem dL_law_218 : decode cL_law 218 = .ok (.ifCond .eq 24, 3) := by decide +kernel
theorem dL_law_221 : decode cL_law 221 = .ok (.aload_n 1, 1) := by decide +kernel
theorem dL_law_222 : decode cL_law 222 = .ok (.aload_n 2, 1) := by decide +kernel
theorem dL_law_223 : decode cL_law 223 = .ok (.aload_n 3, 1) := by decide +kernel
theorem dL_law_224 : decode cL_law 224 = .ok (.aload 4, 2) := by decide +kernel
theorem dL_law_226 : decode cL_law 226 = .ok (.aload 5, 2) := by decide +kernel
theorem dL_law_228 : decode cL_law 228 = .ok (.aload 6, 2) := by decide +kernel
theorem dL_law_230 : decode cL_law 230 = .ok (.aload 7, 2) := by decide +kernel
theorem dL_law_232 : decode cL_law 232 = .ok (.invokestatic 87, 3) := by decide +kernel
theorem dL_law_235 : decode cL_law 235 = .ok (.ifCond .eq 7, 3) := by decide +kernel
theorem dL_law_238 : decode cL_law 238 = .ok (.iconst 1, 1) := by decide +kernel
theorem dL_law_239 : decode cL_law 239 = .ok (.goto 4, 3) := by decide +kernel
theorem dL_law_242 : decode cL_law 242 = .ok (.iconst 0, 1) := by decide +kernel
theorem dL_law_243 : decode cL_law 243 = .ok (.istore 8, 2) := by decide +kernel
theorem dL_law_245 : decode cL_law 245 = .ok (.iinc 10 1, 3) := by decide +kernel
theorem dL_law_248 : decode cL_law 248 = .ok (.goto (-72), 3) := by decide +kernel
theorem dL_law_251 : decode cL_law 251 = .ok (.iload 8, 2) := by decide +kernel
theorem dL_law_253 : decode cL_law 253 = .ok (.ifCond .eq 36, 3) := by decide +kernel
theorem dL_law_256 : decode cL_law 256 = .ok (.aload_n 1, 1) := by decide +kernel
theorem dL_law_257 : decode cL_law 257 = .ok (.bipush 15, 2) := by decide +kernel
theorem dL_law_259 : decode cL_law 259 = .ok (.invokevirtual 71, 3) := by decide +kernel
theorem dL_law_262 : decode cL_law 262 = .ok (.iconst (-1), 1) := by decide +kernel
theorem dL_law_263 : decode cL_law 263 = .ok (.if_icmp .ne 26, 3) := by decide +kernel
theorem dL_law_266 : decode cL_law 266 = .ok (.aload_n 1, 1) := by decide +kernel
theorem dL_law_267 : decode cL_law 267 = .ok (.bipush 7, 2) := by decide +kernel
theorem dL_law_269 : decode cL_law 269 = .ok (.invokevirtual 74, 3) := by decide +kernel
theorem dL_law_272 : decode cL_law 272 = .ok (.iconst (-1), 1) := by decide +kernel
theorem dL_law_273 : decode cL_law 273 = .ok (.if_icmp .ne 16, 3) := by decide +kernel
theorem dL_law_276 : decode cL_law 276 = .ok (.aload_n 1, 1) := by decide +kernel
theorem dL_law_277 : decode cL_law 277 = .ok (.iconst (-1), 1) := by decide +kernel
theorem dL_law_278 : decode cL_law 278 = .ok (.invokevirtual 74, 3) := by decide +kernel
theorem dL_law_281 : decode cL_law 281 = .ok (.iconst (-1), 1) := by decide +kernel
theorem dL_law_282 : decode cL_law 282 = .ok (.if_icmp .ne 7, 3) := by decide +kernel
theorem dL_law_285 : decode cL_law 285 = .ok (.iconst 1, 1) := by decide +kernel
theorem dL_law_286 : decode cL_law 286 = .ok (.goto 4, 3) := by decide +kernel
theorem dL_law_289 : decode cL_law 289 = .ok (.iconst 0, 1) := by decide +kernel
theorem dL_law_290 : decode cL_law 290 = .ok (.ireturn, 1) := by decide +kernel
