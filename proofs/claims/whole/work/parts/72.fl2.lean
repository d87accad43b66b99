/-! where the law's instructions stand -/
theorem fl_1240 : fe 329 1240 = some (1240, .iaload, 1) := by decide +kernel
theorem fl_1241 : fe 329 1241 = some (1241, .invokevirtual 289, 3) := by decide +kernel
theorem fl_1244 : fe 329 1244 = some (1244, .if_icmp .eq 2199, 3) := by decide +kernel
theorem fl_1247 : fe 329 1247 = some (1247, .iconst 0, 1) := by decide +kernel
theorem fl_1248 : fe 329 1248 = some (1248, .ireturn, 1) := by decide +kernel
theorem fl_1249 : fe 329 1249 = some (1249, .aload 1, 1) := by decide +kernel
theorem fl_1250 : fe 329 1250 = some (1250, .aload 0, 1) := by decide +kernel
theorem fl_1251 : fe 329 1251 = some (1251, .iload 3, 1) := by decide +kernel
theorem fl_1252 : fe 329 1252 = some (1252, .iconst 1, 1) := by decide +kernel
theorem fl_1253 : fe 329 1253 = some (1253, .iadd, 1) := by decide +kernel
theorem fl_1254 : fe 329 1254 = some (1254, .iaload, 1) := by decide +kernel
theorem fl_1255 : fe 329 1255 = some (1255, .aload 0, 1) := by decide +kernel
theorem fl_1256 : fe 329 1256 = some (1256, .iload 3, 1) := by decide +kernel
theorem fl_1257 : fe 329 1257 = some (1257, .iconst 2, 1) := by decide +kernel
theorem fl_1258 : fe 329 1258 = some (1258, .iadd, 1) := by decide +kernel
theorem fl_1259 : fe 329 1259 = some (1259, .iaload, 1) := by decide +kernel
theorem fl_1260 : fe 329 1260 = some (1260, .invokevirtual 141, 3) := by decide +kernel
theorem fl_1263 : fe 329 1263 = some (1263, .aload 2, 1) := by decide +kernel
theorem fl_1264 : fe 329 1264 = some (1264, .aload 0, 1) := by decide +kernel
theorem fl_1265 : fe 329 1265 = some (1265, .iload 3, 1) := by decide +kernel
theorem fl_1266 : fe 329 1266 = some (1266, .iconst 1, 1) := by decide +kernel
theorem fl_1267 : fe 329 1267 = some (1267, .iadd, 1) := by decide +kernel
theorem fl_1268 : fe 329 1268 = some (1268, .iaload, 1) := by decide +kernel
theorem fl_1269 : fe 329 1269 = some (1269, .aload 0, 1) := by decide +kernel
theorem fl_1270 : fe 329 1270 = some (1270, .iload 3, 1) := by decide +kernel
theorem fl_1271 : fe 329 1271 = some (1271, .iconst 2, 1) := by decide +kernel
theorem fl_1272 : fe 329 1272 = some (1272, .iadd, 1) := by decide +kernel
theorem fl_1273 : fe 329 1273 = some (1273, .iaload, 1) := by decide +kernel
theorem fl_1274 : fe 329 1274 = some (1274, .invokevirtual 290, 3) := by decide +kernel
theorem fl_1277 : fe 329 1277 = some (1277, .if_icmp .eq 2199, 3) := by decide +kernel
theorem fl_1280 : fe 329 1280 = some (1280, .iconst 0, 1) := by decide +kernel
theorem fl_1281 : fe 329 1281 = some (1281, .ireturn, 1) := by decide +kernel
theorem fl_1282 : fe 329 1282 = some (1282, .aload 1, 1) := by decide +kernel
theorem fl_1283 : fe 329 1283 = some (1283, .aload 0, 1) := by decide +kernel
theorem fl_1284 : fe 329 1284 = some (1284, .iload 3, 1) := by decide +kernel
theorem fl_1285 : fe 329 1285 = some (1285, .iconst 1, 1) := by decide +kernel
theorem fl_1286 : fe 329 1286 = some (1286, .iadd, 1) := by decide +kernel
theorem fl_1287 : fe 329 1287 = some (1287, .iaload, 1) := by decide +kernel
theorem fl_1288 : fe 329 1288 = some (1288, .invokevirtual 142, 3) := by decide +kernel
theorem fl_1291 : fe 329 1291 = some (1291, .aload 2, 1) := by decide +kernel
theorem fl_1292 : fe 329 1292 = some (1292, .aload 0, 1) := by decide +kernel
theorem fl_1293 : fe 329 1293 = some (1293, .iload 3, 1) := by decide +kernel
theorem fl_1294 : fe 329 1294 = some (1294, .iconst 1, 1) := by decide +kernel
theorem fl_1295 : fe 329 1295 = some (1295, .iadd, 1) := by decide +kernel
theorem fl_1296 : fe 329 1296 = some (1296, .iaload, 1) := by decide +kernel
theorem fl_1297 : fe 329 1297 = some (1297, .invokevirtual 291, 3) := by decide +kernel
theorem fl_1300 : fe 329 1300 = some (1300, .if_icmp .eq 2199, 3) := by decide +kernel
theorem fl_1303 : fe 329 1303 = some (1303, .iconst 0, 1) := by decide +kernel
theorem fl_1304 : fe 329 1304 = some (1304, .ireturn, 1) := by decide +kernel
theorem fl_1305 : fe 329 1305 = some (1305, .aload 1, 1) := by decide +kernel
theorem fl_1306 : fe 329 1306 = some (1306, .aload 0, 1) := by decide +kernel
theorem fl_1307 : fe 329 1307 = some (1307, .iload 3, 1) := by decide +kernel
theorem fl_1308 : fe 329 1308 = some (1308, .iconst 1, 1) := by decide +kernel
theorem fl_1309 : fe 329 1309 = some (1309, .iadd, 1) := by decide +kernel
theorem fl_1310 : fe 329 1310 = some (1310, .iaload, 1) := by decide +kernel
theorem fl_1311 : fe 329 1311 = some (1311, .invokevirtual 143, 3) := by decide +kernel
theorem fl_1314 : fe 329 1314 = some (1314, .aload 2, 1) := by decide +kernel
theorem fl_1315 : fe 329 1315 = some (1315, .aload 0, 1) := by decide +kernel
theorem fl_1316 : fe 329 1316 = some (1316, .iload 3, 1) := by decide +kernel
theorem fl_1317 : fe 329 1317 = some (1317, .iconst 1, 1) := by decide +kernel
theorem fl_1318 : fe 329 1318 = some (1318, .iadd, 1) := by decide +kernel
theorem fl_1319 : fe 329 1319 = some (1319, .iaload, 1) := by decide +kernel
theorem fl_1320 : fe 329 1320 = some (1320, .invokevirtual 292, 3) := by decide +kernel
theorem fl_1323 : fe 329 1323 = some (1323, .if_icmp .eq 2199, 3) := by decide +kernel
theorem fl_1326 : fe 329 1326 = some (1326, .iconst 0, 1) := by decide +kernel
theorem fl_1327 : fe 329 1327 = some (1327, .ireturn, 1) := by decide +kernel
theorem fl_1328 : fe 329 1328 = some (1328, .aload 1, 1) := by decide +kernel
theorem fl_1329 : fe 329 1329 = some (1329, .aload 0, 1) := by decide +kernel
theorem fl_1330 : fe 329 1330 = some (1330, .iload 3, 1) := by decide +kernel
theorem fl_1331 : fe 329 1331 = some (1331, .iconst 1, 1) := by decide +kernel
theorem fl_1332 : fe 329 1332 = some (1332, .iadd, 1) := by decide +kernel
theorem fl_1333 : fe 329 1333 = some (1333, .iaload, 1) := by decide +kernel
theorem fl_1334 : fe 329 1334 = some (1334, .invokevirtual 146, 3) := by decide +kernel
theorem fl_1337 : fe 329 1337 = some (1337, .aload 2, 1) := by decide +kernel
theorem fl_1338 : fe 329 1338 = some (1338, .aload 0, 1) := by decide +kernel
theorem fl_1339 : fe 329 1339 = some (1339, .iload 3, 1) := by decide +kernel
theorem fl_1340 : fe 329 1340 = some (1340, .iconst 1, 1) := by decide +kernel
theorem fl_1341 : fe 329 1341 = some (1341, .iadd, 1) := by decide +kernel
theorem fl_1342 : fe 329 1342 = some (1342, .iaload, 1) := by decide +kernel
theorem fl_1343 : fe 329 1343 = some (1343, .invokevirtual 294, 3) := by decide +kernel
theorem fl_1346 : fe 329 1346 = some (1346, .if_icmp .eq 2199, 3) := by decide +kernel
theorem fl_1349 : fe 329 1349 = some (1349, .iconst 0, 1) := by decide +kernel
theorem fl_1350 : fe 329 1350 = some (1350, .ireturn, 1) := by decide +kernel
theorem fl_1351 : fe 329 1351 = some (1351, .aload 1, 1) := by decide +kernel
theorem fl_1352 : fe 329 1352 = some (1352, .invokevirtual 147, 3) := by decide +kernel
theorem fl_1355 : fe 329 1355 = some (1355, .aload 2, 1) := by decide +kernel
theorem fl_1356 : fe 329 1356 = some (1356, .invokevirtual 295, 3) := by decide +kernel
theorem fl_1359 : fe 329 1359 = some (1359, .if_icmp .eq 2199, 3) := by decide +kernel
theorem fl_1362 : fe 329 1362 = some (1362, .iconst 0, 1) := by decide +kernel
theorem fl_1363 : fe 329 1363 = some (1363, .ireturn, 1) := by decide +kernel
theorem fl_1364 : fe 329 1364 = some (1364, .aload 1, 1) := by decide +kernel
theorem fl_1365 : fe 329 1365 = some (1365, .aload 0, 1) := by decide +kernel
theorem fl_1366 : fe 329 1366 = some (1366, .iload 3, 1) := by decide +kernel
theorem fl_1367 : fe 329 1367 = some (1367, .iconst 1, 1) := by decide +kernel
theorem fl_1368 : fe 329 1368 = some (1368, .iadd, 1) := by decide +kernel
theorem fl_1369 : fe 329 1369 = some (1369, .iaload, 1) := by decide +kernel
theorem fl_1370 : fe 329 1370 = some (1370, .invokevirtual 149, 3) := by decide +kernel
theorem fl_1373 : fe 329 1373 = some (1373, .aload 2, 1) := by decide +kernel
theorem fl_1374 : fe 329 1374 = some (1374, .aload 0, 1) := by decide +kernel
theorem fl_1375 : fe 329 1375 = some (1375, .iload 3, 1) := by decide +kernel
theorem fl_1376 : fe 329 1376 = some (1376, .iconst 1, 1) := by decide +kernel
theorem fl_1377 : fe 329 1377 = some (1377, .iadd, 1) := by decide +kernel
theorem fl_1378 : fe 329 1378 = some (1378, .iaload, 1) := by decide +kernel
theorem fl_1379 : fe 329 1379 = some (1379, .invokevirtual 296, 3) := by decide +kernel
theorem fl_1382 : fe 329 1382 = some (1382, .if_icmp .eq 2199, 3) := by decide +kernel
theorem fl_1385 : fe 329 1385 = some (1385, .iconst 0, 1) := by decide +kernel
theorem fl_1386 : fe 329 1386 = some (1386, .ireturn, 1) := by decide +kernel
theorem fl_1387 : fe 329 1387 = some (1387, .aload 1, 1) := by decide +kernel
theorem fl_1388 : fe 329 1388 = some (1388, .aload 0, 1) := by decide +kernel
theorem fl_1389 : fe 329 1389 = some (1389, .iload 3, 1) := by decide +kernel
theorem fl_1390 : fe 329 1390 = some (1390, .iconst 1, 1) := by decide +kernel
theorem fl_1391 : fe 329 1391 = some (1391, .iadd, 1) := by decide +kernel
theorem fl_1392 : fe 329 1392 = some (1392, .iaload, 1) := by decide +kernel
theorem fl_1393 : fe 329 1393 = some (1393, .invokevirtual 150, 3) := by decide +kernel
theorem fl_1396 : fe 329 1396 = some (1396, .aload 2, 1) := by decide +kernel
theorem fl_1397 : fe 329 1397 = some (1397, .aload 0, 1) := by decide +kernel
theorem fl_1398 : fe 329 1398 = some (1398, .iload 3, 1) := by decide +kernel
theorem fl_1399 : fe 329 1399 = some (1399, .iconst 1, 1) := by decide +kernel
theorem fl_1400 : fe 329 1400 = some (1400, .iadd, 1) := by decide +kernel
theorem fl_1401 : fe 329 1401 = some (1401, .iaload, 1) := by decide +kernel
theorem fl_1402 : fe 329 1402 = some (1402, .invokevirtual 298, 3) := by decide +kernel
theorem fl_1405 : fe 329 1405 = some (1405, .if_icmp .eq 2199, 3) := by decide +kernel
theorem fl_1408 : fe 329 1408 = some (1408, .iconst 0, 1) := by decide +kernel
theorem fl_1409 : fe 329 1409 = some (1409, .ireturn, 1) := by decide +kernel
theorem fl_1410 : fe 329 1410 = some (1410, .aload 1, 1) := by decide +kernel
theorem fl_1411 : fe 329 1411 = some (1411, .aload 0, 1) := by decide +kernel
theorem fl_1412 : fe 329 1412 = some (1412, .iload 3, 1) := by decide +kernel
theorem fl_1413 : fe 329 1413 = some (1413, .iconst 1, 1) := by decide +kernel
theorem fl_1414 : fe 329 1414 = some (1414, .iadd, 1) := by decide +kernel
theorem fl_1415 : fe 329 1415 = some (1415, .iaload, 1) := by decide +kernel
theorem fl_1416 : fe 329 1416 = some (1416, .invokevirtual 151, 3) := by decide +kernel
theorem fl_1419 : fe 329 1419 = some (1419, .aload 2, 1) := by decide +kernel
theorem fl_1420 : fe 329 1420 = some (1420, .aload 0, 1) := by decide +kernel
theorem fl_1421 : fe 329 1421 = some (1421, .iload 3, 1) := by decide +kernel
theorem fl_1422 : fe 329 1422 = some (1422, .iconst 1, 1) := by decide +kernel
theorem fl_1423 : fe 329 1423 = some (1423, .iadd, 1) := by decide +kernel
theorem fl_1424 : fe 329 1424 = some (1424, .iaload, 1) := by decide +kernel
theorem fl_1425 : fe 329 1425 = some (1425, .invokevirtual 299, 3) := by decide +kernel
theorem fl_1428 : fe 329 1428 = some (1428, .if_icmp .eq 2199, 3) := by decide +kernel
theorem fl_1431 : fe 329 1431 = some (1431, .iconst 0, 1) := by decide +kernel
theorem fl_1432 : fe 329 1432 = some (1432, .ireturn, 1) := by decide +kernel
theorem fl_1433 : fe 329 1433 = some (1433, .aload 1, 1) := by decide +kernel
theorem fl_1434 : fe 329 1434 = some (1434, .aload 0, 1) := by decide +kernel
theorem fl_1435 : fe 329 1435 = some (1435, .iload 3, 1) := by decide +kernel
theorem fl_1436 : fe 329 1436 = some (1436, .iconst 1, 1) := by decide +kernel
theorem fl_1437 : fe 329 1437 = some (1437, .iadd, 1) := by decide +kernel
theorem fl_1438 : fe 329 1438 = some (1438, .iaload, 1) := by decide +kernel
theorem fl_1439 : fe 329 1439 = some (1439, .invokevirtual 152, 3) := by decide +kernel
theorem fl_1442 : fe 329 1442 = some (1442, .aload 2, 1) := by decide +kernel
theorem fl_1443 : fe 329 1443 = some (1443, .aload 0, 1) := by decide +kernel
theorem fl_1444 : fe 329 1444 = some (1444, .iload 3, 1) := by decide +kernel
theorem fl_1445 : fe 329 1445 = some (1445, .iconst 1, 1) := by decide +kernel
theorem fl_1446 : fe 329 1446 = some (1446, .iadd, 1) := by decide +kernel
theorem fl_1447 : fe 329 1447 = some (1447, .iaload, 1) := by decide +kernel
theorem fl_1448 : fe 329 1448 = some (1448, .invokevirtual 300, 3) := by decide +kernel
theorem fl_1451 : fe 329 1451 = some (1451, .if_icmp .eq 2199, 3) := by decide +kernel
theorem fl_1454 : fe 329 1454 = some (1454, .iconst 0, 1) := by decide +kernel
theorem fl_1455 : fe 329 1455 = some (1455, .ireturn, 1) := by decide +kernel
theorem fl_1456 : fe 329 1456 = some (1456, .aload 1, 1) := by decide +kernel
theorem fl_1457 : fe 329 1457 = some (1457, .invokevirtual 154, 3) := by decide +kernel
theorem fl_1460 : fe 329 1460 = some (1460, .aload 2, 1) := by decide +kernel
theorem fl_1461 : fe 329 1461 = some (1461, .invokevirtual 302, 3) := by decide +kernel
theorem fl_1464 : fe 329 1464 = some (1464, .if_icmp .eq 2199, 3) := by decide +kernel
theorem fl_1467 : fe 329 1467 = some (1467, .iconst 0, 1) := by decide +kernel
theorem fl_1468 : fe 329 1468 = some (1468, .ireturn, 1) := by decide +kernel
theorem fl_1469 : fe 329 1469 = some (1469, .aload 1, 1) := by decide +kernel
theorem fl_1470 : fe 329 1470 = some (1470, .invokevirtual 131, 3) := by decide +kernel
theorem fl_1473 : fe 329 1473 = some (1473, .aload 2, 1) := by decide +kernel
theorem fl_1474 : fe 329 1474 = some (1474, .invokevirtual 303, 3) := by decide +kernel
theorem fl_1477 : fe 329 1477 = some (1477, .if_icmp .eq 2199, 3) := by decide +kernel
theorem fl_1480 : fe 329 1480 = some (1480, .iconst 0, 1) := by decide +kernel
theorem fl_1481 : fe 329 1481 = some (1481, .ireturn, 1) := by decide +kernel
theorem fl_1482 : fe 329 1482 = some (1482, .aload 1, 1) := by decide +kernel
theorem fl_1483 : fe 329 1483 = some (1483, .aload 0, 1) := by decide +kernel
theorem fl_1484 : fe 329 1484 = some (1484, .iload 3, 1) := by decide +kernel
theorem fl_1485 : fe 329 1485 = some (1485, .iconst 1, 1) := by decide +kernel
theorem fl_1486 : fe 329 1486 = some (1486, .iadd, 1) := by decide +kernel
theorem fl_1487 : fe 329 1487 = some (1487, .iaload, 1) := by decide +kernel
theorem fl_1488 : fe 329 1488 = some (1488, .aload 0, 1) := by decide +kernel
theorem fl_1489 : fe 329 1489 = some (1489, .iload 3, 1) := by decide +kernel
theorem fl_1490 : fe 329 1490 = some (1490, .iconst 2, 1) := by decide +kernel
theorem fl_1491 : fe 329 1491 = some (1491, .iadd, 1) := by decide +kernel
theorem fl_1492 : fe 329 1492 = some (1492, .iaload, 1) := by decide +kernel
theorem fl_1493 : fe 329 1493 = some (1493, .aload 0, 1) := by decide +kernel
theorem fl_1494 : fe 329 1494 = some (1494, .iload 3, 1) := by decide +kernel
theorem fl_1495 : fe 329 1495 = some (1495, .iconst 3, 1) := by decide +kernel
theorem fl_1496 : fe 329 1496 = some (1496, .iadd, 1) := by decide +kernel
theorem fl_1497 : fe 329 1497 = some (1497, .iaload, 1) := by decide +kernel
theorem fl_1498 : fe 329 1498 = some (1498, .invokevirtual 155, 3) := by decide +kernel
theorem fl_1501 : fe 329 1501 = some (1501, .aload 2, 1) := by decide +kernel
theorem fl_1502 : fe 329 1502 = some (1502, .aload 0, 1) := by decide +kernel
theorem fl_1503 : fe 329 1503 = some (1503, .iload 3, 1) := by decide +kernel
theorem fl_1504 : fe 329 1504 = some (1504, .iconst 1, 1) := by decide +kernel
theorem fl_1505 : fe 329 1505 = some (1505, .iadd, 1) := by decide +kernel
theorem fl_1506 : fe 329 1506 = some (1506, .iaload, 1) := by decide +kernel
theorem fl_1507 : fe 329 1507 = some (1507, .aload 0, 1) := by decide +kernel
theorem fl_1508 : fe 329 1508 = some (1508, .iload 3, 1) := by decide +kernel
theorem fl_1509 : fe 329 1509 = some (1509, .iconst 2, 1) := by decide +kernel
theorem fl_1510 : fe 329 1510 = some (1510, .iadd, 1) := by decide +kernel
theorem fl_1511 : fe 329 1511 = some (1511, .iaload, 1) := by decide +kernel
theorem fl_1512 : fe 329 1512 = some (1512, .aload 0, 1) := by decide +kernel
theorem fl_1513 : fe 329 1513 = some (1513, .iload 3, 1) := by decide +kernel
theorem fl_1514 : fe 329 1514 = some (1514, .iconst 3, 1) := by decide +kernel
theorem fl_1515 : fe 329 1515 = some (1515, .iadd, 1) := by decide +kernel
theorem fl_1516 : fe 329 1516 = some (1516, .iaload, 1) := by decide +kernel
theorem fl_1517 : fe 329 1517 = some (1517, .invokevirtual 304, 3) := by decide +kernel
theorem fl_1520 : fe 329 1520 = some (1520, .if_icmp .eq 2199, 3) := by decide +kernel
theorem fl_1523 : fe 329 1523 = some (1523, .iconst 0, 1) := by decide +kernel
theorem fl_1524 : fe 329 1524 = some (1524, .ireturn, 1) := by decide +kernel
theorem fl_1525 : fe 329 1525 = some (1525, .aload 1, 1) := by decide +kernel
theorem fl_1526 : fe 329 1526 = some (1526, .aload 0, 1) := by decide +kernel
theorem fl_1527 : fe 329 1527 = some (1527, .iload 3, 1) := by decide +kernel
theorem fl_1528 : fe 329 1528 = some (1528, .iconst 1, 1) := by decide +kernel
theorem fl_1529 : fe 329 1529 = some (1529, .iadd, 1) := by decide +kernel
theorem fl_1530 : fe 329 1530 = some (1530, .iaload, 1) := by decide +kernel
theorem fl_1531 : fe 329 1531 = some (1531, .invokevirtual 161, 3) := by decide +kernel
theorem fl_1534 : fe 329 1534 = some (1534, .aload 2, 1) := by decide +kernel
theorem fl_1535 : fe 329 1535 = some (1535, .aload 0, 1) := by decide +kernel
theorem fl_1536 : fe 329 1536 = some (1536, .iload 3, 1) := by decide +kernel
theorem fl_1537 : fe 329 1537 = some (1537, .iconst 1, 1) := by decide +kernel
theorem fl_1538 : fe 329 1538 = some (1538, .iadd, 1) := by decide +kernel
theorem fl_1539 : fe 329 1539 = some (1539, .iaload, 1) := by decide +kernel
theorem fl_1540 : fe 329 1540 = some (1540, .invokevirtual 306, 3) := by decide +kernel
theorem fl_1543 : fe 329 1543 = some (1543, .if_icmp .eq 2199, 3) := by decide +kernel
theorem fl_1546 : fe 329 1546 = some (1546, .iconst 0, 1) := by decide +kernel
theorem fl_1547 : fe 329 1547 = some (1547, .ireturn, 1) := by decide +kernel
theorem fl_1548 : fe 329 1548 = some (1548, .aload 1, 1) := by decide +kernel
theorem fl_1549 : fe 329 1549 = some (1549, .aload 0, 1) := by decide +kernel
theorem fl_1550 : fe 329 1550 = some (1550, .iload 3, 1) := by decide +kernel
theorem fl_1551 : fe 329 1551 = some (1551, .iconst 1, 1) := by decide +kernel
theorem fl_1552 : fe 329 1552 = some (1552, .iadd, 1) := by decide +kernel
theorem fl_1553 : fe 329 1553 = some (1553, .iaload, 1) := by decide +kernel
theorem fl_1554 : fe 329 1554 = some (1554, .aload 0, 1) := by decide +kernel
theorem fl_1555 : fe 329 1555 = some (1555, .iload 3, 1) := by decide +kernel
theorem fl_1556 : fe 329 1556 = some (1556, .iconst 2, 1) := by decide +kernel
theorem fl_1557 : fe 329 1557 = some (1557, .iadd, 1) := by decide +kernel
theorem fl_1558 : fe 329 1558 = some (1558, .iaload, 1) := by decide +kernel
theorem fl_1559 : fe 329 1559 = some (1559, .invokevirtual 157, 3) := by decide +kernel
theorem fl_1562 : fe 329 1562 = some (1562, .aload 2, 1) := by decide +kernel
theorem fl_1563 : fe 329 1563 = some (1563, .aload 0, 1) := by decide +kernel
theorem fl_1564 : fe 329 1564 = some (1564, .iload 3, 1) := by decide +kernel
theorem fl_1565 : fe 329 1565 = some (1565, .iconst 1, 1) := by decide +kernel
theorem fl_1566 : fe 329 1566 = some (1566, .iadd, 1) := by decide +kernel
theorem fl_1567 : fe 329 1567 = some (1567, .iaload, 1) := by decide +kernel
theorem fl_1568 : fe 329 1568 = some (1568, .aload 0, 1) := by decide +kernel
theorem fl_1569 : fe 329 1569 = some (1569, .iload 3, 1) := by decide +kernel
theorem fl_1570 : fe 329 1570 = some (1570, .iconst 2, 1) := by decide +kernel
theorem fl_1571 : fe 329 1571 = some (1571, .iadd, 1) := by decide +kernel
theorem fl_1572 : fe 329 1572 = some (1572, .iaload, 1) := by decide +kernel
theorem fl_1573 : fe 329 1573 = some (1573, .invokevirtual 308, 3) := by decide +kernel
theorem fl_1576 : fe 329 1576 = some (1576, .if_icmp .eq 2199, 3) := by decide +kernel
theorem fl_1579 : fe 329 1579 = some (1579, .iconst 0, 1) := by decide +kernel
theorem fl_1580 : fe 329 1580 = some (1580, .ireturn, 1) := by decide +kernel
theorem fl_1581 : fe 329 1581 = some (1581, .aload 1, 1) := by decide +kernel
theorem fl_1582 : fe 329 1582 = some (1582, .aload 0, 1) := by decide +kernel
theorem fl_1583 : fe 329 1583 = some (1583, .iload 3, 1) := by decide +kernel
theorem fl_1584 : fe 329 1584 = some (1584, .iconst 1, 1) := by decide +kernel
theorem fl_1585 : fe 329 1585 = some (1585, .iadd, 1) := by decide +kernel
theorem fl_1586 : fe 329 1586 = some (1586, .iaload, 1) := by decide +kernel
theorem fl_1587 : fe 329 1587 = some (1587, .aload 0, 1) := by decide +kernel
theorem fl_1588 : fe 329 1588 = some (1588, .iload 3, 1) := by decide +kernel
theorem fl_1589 : fe 329 1589 = some (1589, .iconst 2, 1) := by decide +kernel
theorem fl_1590 : fe 329 1590 = some (1590, .iadd, 1) := by decide +kernel
theorem fl_1591 : fe 329 1591 = some (1591, .iaload, 1) := by decide +kernel
theorem fl_1592 : fe 329 1592 = some (1592, .invokevirtual 158, 3) := by decide +kernel
theorem fl_1595 : fe 329 1595 = some (1595, .aload 2, 1) := by decide +kernel
theorem fl_1596 : fe 329 1596 = some (1596, .aload 0, 1) := by decide +kernel
theorem fl_1597 : fe 329 1597 = some (1597, .iload 3, 1) := by decide +kernel
theorem fl_1598 : fe 329 1598 = some (1598, .iconst 1, 1) := by decide +kernel
theorem fl_1599 : fe 329 1599 = some (1599, .iadd, 1) := by decide +kernel
theorem fl_1600 : fe 329 1600 = some (1600, .iaload, 1) := by decide +kernel
theorem fl_1601 : fe 329 1601 = some (1601, .aload 0, 1) := by decide +kernel
theorem fl_1602 : fe 329 1602 = some (1602, .iload 3, 1) := by decide +kernel
theorem fl_1603 : fe 329 1603 = some (1603, .iconst 2, 1) := by decide +kernel
theorem fl_1604 : fe 329 1604 = some (1604, .iadd, 1) := by decide +kernel
theorem fl_1605 : fe 329 1605 = some (1605, .iaload, 1) := by decide +kernel
theorem fl_1606 : fe 329 1606 = some (1606, .invokevirtual 309, 3) := by decide +kernel
theorem fl_1609 : fe 329 1609 = some (1609, .if_icmp .eq 2199, 3) := by decide +kernel
theorem fl_1612 : fe 329 1612 = some (1612, .iconst 0, 1) := by decide +kernel
theorem fl_1613 : fe 329 1613 = some (1613, .ireturn, 1) := by decide +kernel
theorem fl_1614 : fe 329 1614 = some (1614, .aload 1, 1) := by decide +kernel
theorem fl_1615 : fe 329 1615 = some (1615, .aload 0, 1) := by decide +kernel
theorem fl_1616 : fe 329 1616 = some (1616, .iload 3, 1) := by decide +kernel
theorem fl_1617 : fe 329 1617 = some (1617, .iconst 1, 1) := by decide +kernel
theorem fl_1618 : fe 329 1618 = some (1618, .iadd, 1) := by decide +kernel
theorem fl_1619 : fe 329 1619 = some (1619, .iaload, 1) := by decide +kernel
theorem fl_1620 : fe 329 1620 = some (1620, .invokevirtual 160, 3) := by decide +kernel
theorem fl_1623 : fe 329 1623 = some (1623, .aload 2, 1) := by decide +kernel
theorem fl_1624 : fe 329 1624 = some (1624, .aload 0, 1) := by decide +kernel
theorem fl_1625 : fe 329 1625 = some (1625, .iload 3, 1) := by decide +kernel
theorem fl_1626 : fe 329 1626 = some (1626, .iconst 1, 1) := by decide +kernel
theorem fl_1627 : fe 329 1627 = some (1627, .iadd, 1) := by decide +kernel
theorem fl_1628 : fe 329 1628 = some (1628, .iaload, 1) := by decide +kernel
theorem fl_1629 : fe 329 1629 = some (1629, .invokevirtual 311, 3) := by decide +kernel
theorem fl_1632 : fe 329 1632 = some (1632, .if_icmp .eq 2199, 3) := by decide +kernel
theorem fl_1635 : fe 329 1635 = some (1635, .iconst 0, 1) := by decide +kernel
theorem fl_1636 : fe 329 1636 = some (1636, .ireturn, 1) := by decide +kernel
theorem fl_1637 : fe 329 1637 = some (1637, .aload 1, 1) := by decide +kernel
theorem fl_1638 : fe 329 1638 = some (1638, .aload 0, 1) := by decide +kernel
theorem fl_1639 : fe 329 1639 = some (1639, .iload 3, 1) := by decide +kernel
theorem fl_1640 : fe 329 1640 = some (1640, .iconst 1, 1) := by decide +kernel
theorem fl_1641 : fe 329 1641 = some (1641, .iadd, 1) := by decide +kernel
theorem fl_1642 : fe 329 1642 = some (1642, .iaload, 1) := by decide +kernel
theorem fl_1643 : fe 329 1643 = some (1643, .invokevirtual 121, 3) := by decide +kernel
theorem fl_1646 : fe 329 1646 = some (1646, .aload 2, 1) := by decide +kernel
theorem fl_1647 : fe 329 1647 = some (1647, .aload 0, 1) := by decide +kernel
theorem fl_1648 : fe 329 1648 = some (1648, .iload 3, 1) := by decide +kernel
theorem fl_1649 : fe 329 1649 = some (1649, .iconst 1, 1) := by decide +kernel
theorem fl_1650 : fe 329 1650 = some (1650, .iadd, 1) := by decide +kernel
theorem fl_1651 : fe 329 1651 = some (1651, .iaload, 1) := by decide +kernel
theorem fl_1652 : fe 329 1652 = some (1652, .invokevirtual 312, 3) := by decide +kernel
theorem fl_1655 : fe 329 1655 = some (1655, .if_icmp .eq 2199, 3) := by decide +kernel
theorem fl_1658 : fe 329 1658 = some (1658, .iconst 0, 1) := by decide +kernel
theorem fl_1659 : fe 329 1659 = some (1659, .ireturn, 1) := by decide +kernel
theorem fl_1660 : fe 329 1660 = some (1660, .aload 1, 1) := by decide +kernel
theorem fl_1661 : fe 329 1661 = some (1661, .aload 0, 1) := by decide +kernel
theorem fl_1662 : fe 329 1662 = some (1662, .iload 3, 1) := by decide +kernel
theorem fl_1663 : fe 329 1663 = some (1663, .iconst 1, 1) := by decide +kernel
theorem fl_1664 : fe 329 1664 = some (1664, .iadd, 1) := by decide +kernel
theorem fl_1665 : fe 329 1665 = some (1665, .iaload, 1) := by decide +kernel
theorem fl_1666 : fe 329 1666 = some (1666, .aload 0, 1) := by decide +kernel
theorem fl_1667 : fe 329 1667 = some (1667, .iload 3, 1) := by decide +kernel
theorem fl_1668 : fe 329 1668 = some (1668, .iconst 2, 1) := by decide +kernel
theorem fl_1669 : fe 329 1669 = some (1669, .iadd, 1) := by decide +kernel
theorem fl_1670 : fe 329 1670 = some (1670, .iaload, 1) := by decide +kernel
theorem fl_1671 : fe 329 1671 = some (1671, .aload 0, 1) := by decide +kernel
theorem fl_1672 : fe 329 1672 = some (1672, .iload 3, 1) := by decide +kernel
theorem fl_1673 : fe 329 1673 = some (1673, .iconst 3, 1) := by decide +kernel
theorem fl_1674 : fe 329 1674 = some (1674, .iadd, 1) := by decide +kernel
theorem fl_1675 : fe 329 1675 = some (1675, .iaload, 1) := by decide +kernel
theorem fl_1676 : fe 329 1676 = some (1676, .invokevirtual 166, 3) := by decide +kernel
theorem fl_1679 : fe 329 1679 = some (1679, .aload 2, 1) := by decide +kernel
theorem fl_1680 : fe 329 1680 = some (1680, .aload 0, 1) := by decide +kernel
theorem fl_1681 : fe 329 1681 = some (1681, .iload 3, 1) := by decide +kernel
theorem fl_1682 : fe 329 1682 = some (1682, .iconst 1, 1) := by decide +kernel
theorem fl_1683 : fe 329 1683 = some (1683, .iadd, 1) := by decide +kernel
theorem fl_1684 : fe 329 1684 = some (1684, .iaload, 1) := by decide +kernel
theorem fl_1685 : fe 329 1685 = some (1685, .aload 0, 1) := by decide +kernel
theorem fl_1686 : fe 329 1686 = some (1686, .iload 3, 1) := by decide +kernel
theorem fl_1687 : fe 329 1687 = some (1687, .iconst 2, 1) := by decide +kernel
theorem fl_1688 : fe 329 1688 = some (1688, .iadd, 1) := by decide +kernel
theorem fl_1689 : fe 329 1689 = some (1689, .iaload, 1) := by decide +kernel
theorem fl_1690 : fe 329 1690 = some (1690, .aload 0, 1) := by decide +kernel
theorem fl_1691 : fe 329 1691 = some (1691, .iload 3, 1) := by decide +kernel
theorem fl_1692 : fe 329 1692 = some (1692, .iconst 3, 1) := by decide +kernel
theorem fl_1693 : fe 329 1693 = some (1693, .iadd, 1) := by decide +kernel
theorem fl_1694 : fe 329 1694 = some (1694, .iaload, 1) := by decide +kernel
theorem fl_1695 : fe 329 1695 = some (1695, .invokevirtual 313, 3) := by decide +kernel
theorem fl_1698 : fe 329 1698 = some (1698, .if_icmp .eq 2199, 3) := by decide +kernel
theorem fl_1701 : fe 329 1701 = some (1701, .iconst 0, 1) := by decide +kernel
theorem fl_1702 : fe 329 1702 = some (1702, .ireturn, 1) := by decide +kernel
theorem fl_1703 : fe 329 1703 = some (1703, .aload 1, 1) := by decide +kernel
theorem fl_1704 : fe 329 1704 = some (1704, .aload 0, 1) := by decide +kernel
theorem fl_1705 : fe 329 1705 = some (1705, .iload 3, 1) := by decide +kernel
theorem fl_1706 : fe 329 1706 = some (1706, .iconst 1, 1) := by decide +kernel
theorem fl_1707 : fe 329 1707 = some (1707, .iadd, 1) := by decide +kernel
theorem fl_1708 : fe 329 1708 = some (1708, .iaload, 1) := by decide +kernel
theorem fl_1709 : fe 329 1709 = some (1709, .aload 0, 1) := by decide +kernel
theorem fl_1710 : fe 329 1710 = some (1710, .iload 3, 1) := by decide +kernel
theorem fl_1711 : fe 329 1711 = some (1711, .iconst 2, 1) := by decide +kernel
theorem fl_1712 : fe 329 1712 = some (1712, .iadd, 1) := by decide +kernel
theorem fl_1713 : fe 329 1713 = some (1713, .iaload, 1) := by decide +kernel
theorem fl_1714 : fe 329 1714 = some (1714, .aload 0, 1) := by decide +kernel
theorem fl_1715 : fe 329 1715 = some (1715, .iload 3, 1) := by decide +kernel
theorem fl_1716 : fe 329 1716 = some (1716, .iconst 3, 1) := by decide +kernel
theorem fl_1717 : fe 329 1717 = some (1717, .iadd, 1) := by decide +kernel
theorem fl_1718 : fe 329 1718 = some (1718, .iaload, 1) := by decide +kernel
theorem fl_1719 : fe 329 1719 = some (1719, .aload 0, 1) := by decide +kernel
theorem fl_1720 : fe 329 1720 = some (1720, .iload 3, 1) := by decide +kernel
theorem fl_1721 : fe 329 1721 = some (1721, .iconst 4, 1) := by decide +kernel
theorem fl_1722 : fe 329 1722 = some (1722, .iadd, 1) := by decide +kernel
theorem fl_1723 : fe 329 1723 = some (1723, .iaload, 1) := by decide +kernel
theorem fl_1724 : fe 329 1724 = some (1724, .invokevirtual 176, 3) := by decide +kernel
theorem fl_1727 : fe 329 1727 = some (1727, .aload 2, 1) := by decide +kernel
theorem fl_1728 : fe 329 1728 = some (1728, .aload 0, 1) := by decide +kernel
theorem fl_1729 : fe 329 1729 = some (1729, .iload 3, 1) := by decide +kernel
theorem fl_1730 : fe 329 1730 = some (1730, .iconst 1, 1) := by decide +kernel
theorem fl_1731 : fe 329 1731 = some (1731, .iadd, 1) := by decide +kernel
theorem fl_1732 : fe 329 1732 = some (1732, .iaload, 1) := by decide +kernel
theorem fl_1733 : fe 329 1733 = some (1733, .aload 0, 1) := by decide +kernel
theorem fl_1734 : fe 329 1734 = some (1734, .iload 3, 1) := by decide +kernel
theorem fl_1735 : fe 329 1735 = some (1735, .iconst 2, 1) := by decide +kernel
theorem fl_1736 : fe 329 1736 = some (1736, .iadd, 1) := by decide +kernel
theorem fl_1737 : fe 329 1737 = some (1737, .iaload, 1) := by decide +kernel
theorem fl_1738 : fe 329 1738 = some (1738, .aload 0, 1) := by decide +kernel
theorem fl_1739 : fe 329 1739 = some (1739, .iload 3, 1) := by decide +kernel
theorem fl_1740 : fe 329 1740 = some (1740, .iconst 3, 1) := by decide +kernel
theorem fl_1741 : fe 329 1741 = some (1741, .iadd, 1) := by decide +kernel
theorem fl_1742 : fe 329 1742 = some (1742, .iaload, 1) := by decide +kernel
theorem fl_1743 : fe 329 1743 = some (1743, .aload 0, 1) := by decide +kernel
theorem fl_1744 : fe 329 1744 = some (1744, .iload 3, 1) := by decide +kernel
theorem fl_1745 : fe 329 1745 = some (1745, .iconst 4, 1) := by decide +kernel
theorem fl_1746 : fe 329 1746 = some (1746, .iadd, 1) := by decide +kernel
theorem fl_1747 : fe 329 1747 = some (1747, .iaload, 1) := by decide +kernel
theorem fl_1748 : fe 329 1748 = some (1748, .invokevirtual 318, 3) := by decide +kernel
theorem fl_1751 : fe 329 1751 = some (1751, .if_icmp .eq 2199, 3) := by decide +kernel
theorem fl_1754 : fe 329 1754 = some (1754, .iconst 0, 1) := by decide +kernel
theorem fl_1755 : fe 329 1755 = some (1755, .ireturn, 1) := by decide +kernel
theorem fl_1756 : fe 329 1756 = some (1756, .aload 1, 1) := by decide +kernel
theorem fl_1757 : fe 329 1757 = some (1757, .aload 0, 1) := by decide +kernel
theorem fl_1758 : fe 329 1758 = some (1758, .iload 3, 1) := by decide +kernel
theorem fl_1759 : fe 329 1759 = some (1759, .iconst 1, 1) := by decide +kernel
theorem fl_1760 : fe 329 1760 = some (1760, .iadd, 1) := by decide +kernel
theorem fl_1761 : fe 329 1761 = some (1761, .iaload, 1) := by decide +kernel
theorem fl_1762 : fe 329 1762 = some (1762, .aload 0, 1) := by decide +kernel
theorem fl_1763 : fe 329 1763 = some (1763, .iload 3, 1) := by decide +kernel
theorem fl_1764 : fe 329 1764 = some (1764, .iconst 2, 1) := by decide +kernel
theorem fl_1765 : fe 329 1765 = some (1765, .iadd, 1) := by decide +kernel
theorem fl_1766 : fe 329 1766 = some (1766, .iaload, 1) := by decide +kernel
theorem fl_1767 : fe 329 1767 = some (1767, .aload 0, 1) := by decide +kernel
theorem fl_1768 : fe 329 1768 = some (1768, .iload 3, 1) := by decide +kernel
theorem fl_1769 : fe 329 1769 = some (1769, .iconst 3, 1) := by decide +kernel
theorem fl_1770 : fe 329 1770 = some (1770, .iadd, 1) := by decide +kernel
theorem fl_1771 : fe 329 1771 = some (1771, .iaload, 1) := by decide +kernel
theorem fl_1772 : fe 329 1772 = some (1772, .invokevirtual 177, 3) := by decide +kernel
theorem fl_1775 : fe 329 1775 = some (1775, .aload 2, 1) := by decide +kernel
theorem fl_1776 : fe 329 1776 = some (1776, .aload 0, 1) := by decide +kernel
theorem fl_1777 : fe 329 1777 = some (1777, .iload 3, 1) := by decide +kernel
theorem fl_1778 : fe 329 1778 = some (1778, .iconst 1, 1) := by decide +kernel
theorem fl_1779 : fe 329 1779 = some (1779, .iadd, 1) := by decide +kernel
theorem fl_1780 : fe 329 1780 = some (1780, .iaload, 1) := by decide +kernel
theorem fl_1781 : fe 329 1781 = some (1781, .aload 0, 1) := by decide +kernel
theorem fl_1782 : fe 329 1782 = some (1782, .iload 3, 1) := by decide +kernel
theorem fl_1783 : fe 329 1783 = some (1783, .iconst 2, 1) := by decide +kernel
theorem fl_1784 : fe 329 1784 = some (1784, .iadd, 1) := by decide +kernel
theorem fl_1785 : fe 329 1785 = some (1785, .iaload, 1) := by decide +kernel
theorem fl_1786 : fe 329 1786 = some (1786, .aload 0, 1) := by decide +kernel
theorem fl_1787 : fe 329 1787 = some (1787, .iload 3, 1) := by decide +kernel
theorem fl_1788 : fe 329 1788 = some (1788, .iconst 3, 1) := by decide +kernel
theorem fl_1789 : fe 329 1789 = some (1789, .iadd, 1) := by decide +kernel
theorem fl_1790 : fe 329 1790 = some (1790, .iaload, 1) := by decide +kernel
theorem fl_1791 : fe 329 1791 = some (1791, .invokevirtual 319, 3) := by decide +kernel
theorem fl_1794 : fe 329 1794 = some (1794, .if_icmp .eq 2199, 3) := by decide +kernel
theorem fl_1797 : fe 329 1797 = some (1797, .iconst 0, 1) := by decide +kernel
theorem fl_1798 : fe 329 1798 = some (1798, .ireturn, 1) := by decide +kernel
theorem fl_1799 : fe 329 1799 = some (1799, .aload 1, 1) := by decide +kernel
theorem fl_1800 : fe 329 1800 = some (1800, .aload 0, 1) := by decide +kernel
theorem fl_1801 : fe 329 1801 = some (1801, .iload 3, 1) := by decide +kernel
theorem fl_1802 : fe 329 1802 = some (1802, .iconst 1, 1) := by decide +kernel
theorem fl_1803 : fe 329 1803 = some (1803, .iadd, 1) := by decide +kernel
theorem fl_1804 : fe 329 1804 = some (1804, .iaload, 1) := by decide +kernel
theorem fl_1805 : fe 329 1805 = some (1805, .invokevirtual 178, 3) := by decide +kernel
theorem fl_1808 : fe 329 1808 = some (1808, .aload 2, 1) := by decide +kernel
theorem fl_1809 : fe 329 1809 = some (1809, .aload 0, 1) := by decide +kernel
theorem fl_1810 : fe 329 1810 = some (1810, .iload 3, 1) := by decide +kernel
theorem fl_1811 : fe 329 1811 = some (1811, .iconst 1, 1) := by decide +kernel
theorem fl_1812 : fe 329 1812 = some (1812, .iadd, 1) := by decide +kernel
theorem fl_1813 : fe 329 1813 = some (1813, .iaload, 1) := by decide +kernel
theorem fl_1814 : fe 329 1814 = some (1814, .invokevirtual 320, 3) := by decide +kernel
theorem fl_1817 : fe 329 1817 = some (1817, .if_icmp .eq 2199, 3) := by decide +kernel
theorem fl_1820 : fe 329 1820 = some (1820, .iconst 0, 1) := by decide +kernel
theorem fl_1821 : fe 329 1821 = some (1821, .ireturn, 1) := by decide +kernel
theorem fl_1822 : fe 329 1822 = some (1822, .aload 1, 1) := by decide +kernel
theorem fl_1823 : fe 329 1823 = some (1823, .aload 0, 1) := by decide +kernel
theorem fl_1824 : fe 329 1824 = some (1824, .iload 3, 1) := by decide +kernel
theorem fl_1825 : fe 329 1825 = some (1825, .iconst 1, 1) := by decide +kernel
theorem fl_1826 : fe 329 1826 = some (1826, .iadd, 1) := by decide +kernel
theorem fl_1827 : fe 329 1827 = some (1827, .iaload, 1) := by decide +kernel
theorem fl_1828 : fe 329 1828 = some (1828, .aload 0, 1) := by decide +kernel
theorem fl_1829 : fe 329 1829 = some (1829, .iload 3, 1) := by decide +kernel
theorem fl_1830 : fe 329 1830 = some (1830, .iconst 2, 1) := by decide +kernel
theorem fl_1831 : fe 329 1831 = some (1831, .iadd, 1) := by decide +kernel
theorem fl_1832 : fe 329 1832 = some (1832, .iaload, 1) := by decide +kernel
theorem fl_1833 : fe 329 1833 = some (1833, .aload 0, 1) := by decide +kernel
theorem fl_1834 : fe 329 1834 = some (1834, .iload 3, 1) := by decide +kernel
theorem fl_1835 : fe 329 1835 = some (1835, .iconst 3, 1) := by decide +kernel
theorem fl_1836 : fe 329 1836 = some (1836, .iadd, 1) := by decide +kernel
theorem fl_1837 : fe 329 1837 = some (1837, .iaload, 1) := by decide +kernel
theorem fl_1838 : fe 329 1838 = some (1838, .invokevirtual 179, 3) := by decide +kernel
theorem fl_1841 : fe 329 1841 = some (1841, .aload 2, 1) := by decide +kernel
theorem fl_1842 : fe 329 1842 = some (1842, .aload 0, 1) := by decide +kernel
theorem fl_1843 : fe 329 1843 = some (1843, .iload 3, 1) := by decide +kernel
theorem fl_1844 : fe 329 1844 = some (1844, .iconst 1, 1) := by decide +kernel
theorem fl_1845 : fe 329 1845 = some (1845, .iadd, 1) := by decide +kernel
theorem fl_1846 : fe 329 1846 = some (1846, .iaload, 1) := by decide +kernel
theorem fl_1847 : fe 329 1847 = some (1847, .aload 0, 1) := by decide +kernel
theorem fl_1848 : fe 329 1848 = some (1848, .iload 3, 1) := by decide +kernel
theorem fl_1849 : fe 329 1849 = some (1849, .iconst 2, 1) := by decide +kernel
theorem fl_1850 : fe 329 1850 = some (1850, .iadd, 1) := by decide +kernel
theorem fl_1851 : fe 329 1851 = some (1851, .iaload, 1) := by decide +kernel
theorem fl_1852 : fe 329 1852 = some (1852, .aload 0, 1) := by decide +kernel
theorem fl_1853 : fe 329 1853 = some (1853, .iload 3, 1) := by decide +kernel
theorem fl_1854 : fe 329 1854 = some (1854, .iconst 3, 1) := by decide +kernel
theorem fl_1855 : fe 329 1855 = some (1855, .iadd, 1) := by decide +kernel
theorem fl_1856 : fe 329 1856 = some (1856, .iaload, 1) := by decide +kernel
theorem fl_1857 : fe 329 1857 = some (1857, .invokevirtual 321, 3) := by decide +kernel
theorem fl_1860 : fe 329 1860 = some (1860, .if_icmp .eq 2199, 3) := by decide +kernel
theorem fl_1863 : fe 329 1863 = some (1863, .iconst 0, 1) := by decide +kernel
theorem fl_1864 : fe 329 1864 = some (1864, .ireturn, 1) := by decide +kernel
theorem fl_1865 : fe 329 1865 = some (1865, .aload 1, 1) := by decide +kernel
theorem fl_1866 : fe 329 1866 = some (1866, .aload 0, 1) := by decide +kernel
theorem fl_1867 : fe 329 1867 = some (1867, .iload 3, 1) := by decide +kernel
theorem fl_1868 : fe 329 1868 = some (1868, .iconst 1, 1) := by decide +kernel
theorem fl_1869 : fe 329 1869 = some (1869, .iadd, 1) := by decide +kernel
theorem fl_1870 : fe 329 1870 = some (1870, .iaload, 1) := by decide +kernel
theorem fl_1871 : fe 329 1871 = some (1871, .aload 0, 1) := by decide +kernel
theorem fl_1872 : fe 329 1872 = some (1872, .iload 3, 1) := by decide +kernel
theorem fl_1873 : fe 329 1873 = some (1873, .iconst 2, 1) := by decide +kernel
theorem fl_1874 : fe 329 1874 = some (1874, .iadd, 1) := by decide +kernel
theorem fl_1875 : fe 329 1875 = some (1875, .iaload, 1) := by decide +kernel
theorem fl_1876 : fe 329 1876 = some (1876, .aload 0, 1) := by decide +kernel
theorem fl_1877 : fe 329 1877 = some (1877, .iload 3, 1) := by decide +kernel
theorem fl_1878 : fe 329 1878 = some (1878, .iconst 3, 1) := by decide +kernel
theorem fl_1879 : fe 329 1879 = some (1879, .iadd, 1) := by decide +kernel
theorem fl_1880 : fe 329 1880 = some (1880, .iaload, 1) := by decide +kernel
theorem fl_1881 : fe 329 1881 = some (1881, .aload 0, 1) := by decide +kernel
theorem fl_1882 : fe 329 1882 = some (1882, .iload 3, 1) := by decide +kernel
theorem fl_1883 : fe 329 1883 = some (1883, .iconst 4, 1) := by decide +kernel
theorem fl_1884 : fe 329 1884 = some (1884, .iadd, 1) := by decide +kernel
theorem fl_1885 : fe 329 1885 = some (1885, .iaload, 1) := by decide +kernel
theorem fl_1886 : fe 329 1886 = some (1886, .aload 0, 1) := by decide +kernel
theorem fl_1887 : fe 329 1887 = some (1887, .iload 3, 1) := by decide +kernel
theorem fl_1888 : fe 329 1888 = some (1888, .iconst 5, 1) := by decide +kernel
theorem fl_1889 : fe 329 1889 = some (1889, .iadd, 1) := by decide +kernel
theorem fl_1890 : fe 329 1890 = some (1890, .iaload, 1) := by decide +kernel
theorem fl_1891 : fe 329 1891 = some (1891, .invokevirtual 183, 3) := by decide +kernel
theorem fl_1894 : fe 329 1894 = some (1894, .aload 2, 1) := by decide +kernel
theorem fl_1895 : fe 329 1895 = some (1895, .aload 0, 1) := by decide +kernel
theorem fl_1896 : fe 329 1896 = some (1896, .iload 3, 1) := by decide +kernel
theorem fl_1897 : fe 329 1897 = some (1897, .iconst 1, 1) := by decide +kernel
theorem fl_1898 : fe 329 1898 = some (1898, .iadd, 1) := by decide +kernel
theorem fl_1899 : fe 329 1899 = some (1899, .iaload, 1) := by decide +kernel
theorem fl_1900 : fe 329 1900 = some (1900, .aload 0, 1) := by decide +kernel
theorem fl_1901 : fe 329 1901 = some (1901, .iload 3, 1) := by decide +kernel
theorem fl_1902 : fe 329 1902 = some (1902, .iconst 2, 1) := by decide +kernel
theorem fl_1903 : fe 329 1903 = some (1903, .iadd, 1) := by decide +kernel
theorem fl_1904 : fe 329 1904 = some (1904, .iaload, 1) := by decide +kernel
theorem fl_1905 : fe 329 1905 = some (1905, .aload 0, 1) := by decide +kernel
theorem fl_1906 : fe 329 1906 = some (1906, .iload 3, 1) := by decide +kernel
theorem fl_1907 : fe 329 1907 = some (1907, .iconst 3, 1) := by decide +kernel
theorem fl_1908 : fe 329 1908 = some (1908, .iadd, 1) := by decide +kernel
theorem fl_1909 : fe 329 1909 = some (1909, .iaload, 1) := by decide +kernel
theorem fl_1910 : fe 329 1910 = some (1910, .aload 0, 1) := by decide +kernel
theorem fl_1911 : fe 329 1911 = some (1911, .iload 3, 1) := by decide +kernel
theorem fl_1912 : fe 329 1912 = some (1912, .iconst 4, 1) := by decide +kernel
theorem fl_1913 : fe 329 1913 = some (1913, .iadd, 1) := by decide +kernel
theorem fl_1914 : fe 329 1914 = some (1914, .iaload, 1) := by decide +kernel
theorem fl_1915 : fe 329 1915 = some (1915, .aload 0, 1) := by decide +kernel
theorem fl_1916 : fe 329 1916 = some (1916, .iload 3, 1) := by decide +kernel
theorem fl_1917 : fe 329 1917 = some (1917, .iconst 5, 1) := by decide +kernel
theorem fl_1918 : fe 329 1918 = some (1918, .iadd, 1) := by decide +kernel
theorem fl_1919 : fe 329 1919 = some (1919, .iaload, 1) := by decide +kernel
theorem fl_1920 : fe 329 1920 = some (1920, .invokevirtual 324, 3) := by decide +kernel
theorem fl_1923 : fe 329 1923 = some (1923, .if_icmp .eq 2199, 3) := by decide +kernel
theorem fl_1926 : fe 329 1926 = some (1926, .iconst 0, 1) := by decide +kernel
theorem fl_1927 : fe 329 1927 = some (1927, .ireturn, 1) := by decide +kernel
theorem fl_1928 : fe 329 1928 = some (1928, .aload 1, 1) := by decide +kernel
theorem fl_1929 : fe 329 1929 = some (1929, .aload 0, 1) := by decide +kernel
theorem fl_1930 : fe 329 1930 = some (1930, .iload 3, 1) := by decide +kernel
theorem fl_1931 : fe 329 1931 = some (1931, .iconst 1, 1) := by decide +kernel
theorem fl_1932 : fe 329 1932 = some (1932, .iadd, 1) := by decide +kernel
theorem fl_1933 : fe 329 1933 = some (1933, .iaload, 1) := by decide +kernel
theorem fl_1934 : fe 329 1934 = some (1934, .invokevirtual 184, 3) := by decide +kernel
theorem fl_1937 : fe 329 1937 = some (1937, .aload 2, 1) := by decide +kernel
theorem fl_1938 : fe 329 1938 = some (1938, .aload 0, 1) := by decide +kernel
theorem fl_1939 : fe 329 1939 = some (1939, .iload 3, 1) := by decide +kernel
theorem fl_1940 : fe 329 1940 = some (1940, .iconst 1, 1) := by decide +kernel
theorem fl_1941 : fe 329 1941 = some (1941, .iadd, 1) := by decide +kernel
theorem fl_1942 : fe 329 1942 = some (1942, .iaload, 1) := by decide +kernel
theorem fl_1943 : fe 329 1943 = some (1943, .invokevirtual 325, 3) := by decide +kernel
theorem fl_1946 : fe 329 1946 = some (1946, .if_icmp .eq 2199, 3) := by decide +kernel
theorem fl_1949 : fe 329 1949 = some (1949, .iconst 0, 1) := by decide +kernel
theorem fl_1950 : fe 329 1950 = some (1950, .ireturn, 1) := by decide +kernel
theorem fl_1951 : fe 329 1951 = some (1951, .aload 1, 1) := by decide +kernel
theorem fl_1952 : fe 329 1952 = some (1952, .aload 0, 1) := by decide +kernel
theorem fl_1953 : fe 329 1953 = some (1953, .iload 3, 1) := by decide +kernel
theorem fl_1954 : fe 329 1954 = some (1954, .iconst 1, 1) := by decide +kernel
theorem fl_1955 : fe 329 1955 = some (1955, .iadd, 1) := by decide +kernel
theorem fl_1956 : fe 329 1956 = some (1956, .iaload, 1) := by decide +kernel
theorem fl_1957 : fe 329 1957 = some (1957, .invokevirtual 188, 3) := by decide +kernel
theorem fl_1960 : fe 329 1960 = some (1960, .aload 2, 1) := by decide +kernel
theorem fl_1961 : fe 329 1961 = some (1961, .aload 0, 1) := by decide +kernel
theorem fl_1962 : fe 329 1962 = some (1962, .iload 3, 1) := by decide +kernel
theorem fl_1963 : fe 329 1963 = some (1963, .iconst 1, 1) := by decide +kernel
theorem fl_1964 : fe 329 1964 = some (1964, .iadd, 1) := by decide +kernel
theorem fl_1965 : fe 329 1965 = some (1965, .iaload, 1) := by decide +kernel
theorem fl_1966 : fe 329 1966 = some (1966, .invokevirtual 326, 3) := by decide +kernel
theorem fl_1969 : fe 329 1969 = some (1969, .if_icmp .eq 2199, 3) := by decide +kernel
theorem fl_1972 : fe 329 1972 = some (1972, .iconst 0, 1) := by decide +kernel
theorem fl_1973 : fe 329 1973 = some (1973, .ireturn, 1) := by decide +kernel
theorem fl_1974 : fe 329 1974 = some (1974, .aload 1, 1) := by decide +kernel
theorem fl_1975 : fe 329 1975 = some (1975, .aload 0, 1) := by decide +kernel
theorem fl_1976 : fe 329 1976 = some (1976, .iload 3, 1) := by decide +kernel
theorem fl_1977 : fe 329 1977 = some (1977, .iconst 1, 1) := by decide +kernel
theorem fl_1978 : fe 329 1978 = some (1978, .iadd, 1) := by decide +kernel
theorem fl_1979 : fe 329 1979 = some (1979, .iaload, 1) := by decide +kernel
theorem fl_1980 : fe 329 1980 = some (1980, .invokevirtual 190, 3) := by decide +kernel
theorem fl_1983 : fe 329 1983 = some (1983, .aload 2, 1) := by decide +kernel
theorem fl_1984 : fe 329 1984 = some (1984, .aload 0, 1) := by decide +kernel
theorem fl_1985 : fe 329 1985 = some (1985, .iload 3, 1) := by decide +kernel
theorem fl_1986 : fe 329 1986 = some (1986, .iconst 1, 1) := by decide +kernel
theorem fl_1987 : fe 329 1987 = some (1987, .iadd, 1) := by decide +kernel
theorem fl_1988 : fe 329 1988 = some (1988, .iaload, 1) := by decide +kernel
theorem fl_1989 : fe 329 1989 = some (1989, .invokevirtual 327, 3) := by decide +kernel
theorem fl_1992 : fe 329 1992 = some (1992, .if_icmp .eq 2199, 3) := by decide +kernel
theorem fl_1995 : fe 329 1995 = some (1995, .iconst 0, 1) := by decide +kernel
theorem fl_1996 : fe 329 1996 = some (1996, .ireturn, 1) := by decide +kernel
theorem fl_1997 : fe 329 1997 = some (1997, .aload 1, 1) := by decide +kernel
theorem fl_1998 : fe 329 1998 = some (1998, .aload 0, 1) := by decide +kernel
theorem fl_1999 : fe 329 1999 = some (1999, .iload 3, 1) := by decide +kernel
theorem fl_2000 : fe 329 2000 = some (2000, .iconst 1, 1) := by decide +kernel
theorem fl_2001 : fe 329 2001 = some (2001, .iadd, 1) := by decide +kernel
theorem fl_2002 : fe 329 2002 = some (2002, .iaload, 1) := by decide +kernel
theorem fl_2003 : fe 329 2003 = some (2003, .invokevirtual 191, 3) := by decide +kernel
theorem fl_2006 : fe 329 2006 = some (2006, .aload 2, 1) := by decide +kernel
theorem fl_2007 : fe 329 2007 = some (2007, .aload 0, 1) := by decide +kernel
theorem fl_2008 : fe 329 2008 = some (2008, .iload 3, 1) := by decide +kernel
theorem fl_2009 : fe 329 2009 = some (2009, .iconst 1, 1) := by decide +kernel
theorem fl_2010 : fe 329 2010 = some (2010, .iadd, 1) := by decide +kernel
theorem fl_2011 : fe 329 2011 = some (2011, .iaload, 1) := by decide +kernel
theorem fl_2012 : fe 329 2012 = some (2012, .invokevirtual 328, 3) := by decide +kernel
theorem fl_2015 : fe 329 2015 = some (2015, .if_icmp .eq 2199, 3) := by decide +kernel
theorem fl_2018 : fe 329 2018 = some (2018, .iconst 0, 1) := by decide +kernel
theorem fl_2019 : fe 329 2019 = some (2019, .ireturn, 1) := by decide +kernel
theorem fl_2020 : fe 329 2020 = some (2020, .aload 1, 1) := by decide +kernel
theorem fl_2021 : fe 329 2021 = some (2021, .aload 0, 1) := by decide +kernel
theorem fl_2022 : fe 329 2022 = some (2022, .iload 3, 1) := by decide +kernel
theorem fl_2023 : fe 329 2023 = some (2023, .iconst 1, 1) := by decide +kernel
theorem fl_2024 : fe 329 2024 = some (2024, .iadd, 1) := by decide +kernel
theorem fl_2025 : fe 329 2025 = some (2025, .iaload, 1) := by decide +kernel
theorem fl_2026 : fe 329 2026 = some (2026, .aload 0, 1) := by decide +kernel
theorem fl_2027 : fe 329 2027 = some (2027, .iload 3, 1) := by decide +kernel
theorem fl_2028 : fe 329 2028 = some (2028, .iconst 2, 1) := by decide +kernel
theorem fl_2029 : fe 329 2029 = some (2029, .iadd, 1) := by decide +kernel
theorem fl_2030 : fe 329 2030 = some (2030, .iaload, 1) := by decide +kernel
theorem fl_2031 : fe 329 2031 = some (2031, .aload 0, 1) := by decide +kernel
theorem fl_2032 : fe 329 2032 = some (2032, .iload 3, 1) := by decide +kernel
theorem fl_2033 : fe 329 2033 = some (2033, .iconst 3, 1) := by decide +kernel
theorem fl_2034 : fe 329 2034 = some (2034, .iadd, 1) := by decide +kernel
theorem fl_2035 : fe 329 2035 = some (2035, .iaload, 1) := by decide +kernel
theorem fl_2036 : fe 329 2036 = some (2036, .invokevirtual 192, 3) := by decide +kernel
theorem fl_2039 : fe 329 2039 = some (2039, .aload 2, 1) := by decide +kernel
theorem fl_2040 : fe 329 2040 = some (2040, .aload 0, 1) := by decide +kernel
theorem fl_2041 : fe 329 2041 = some (2041, .iload 3, 1) := by decide +kernel
theorem fl_2042 : fe 329 2042 = some (2042, .iconst 1, 1) := by decide +kernel
theorem fl_2043 : fe 329 2043 = some (2043, .iadd, 1) := by decide +kernel
theorem fl_2044 : fe 329 2044 = some (2044, .iaload, 1) := by decide +kernel
theorem fl_2045 : fe 329 2045 = some (2045, .aload 0, 1) := by decide +kernel
theorem fl_2046 : fe 329 2046 = some (2046, .iload 3, 1) := by decide +kernel
theorem fl_2047 : fe 329 2047 = some (2047, .iconst 2, 1) := by decide +kernel
theorem fl_2048 : fe 329 2048 = some (2048, .iadd, 1) := by decide +kernel
theorem fl_2049 : fe 329 2049 = some (2049, .iaload, 1) := by decide +kernel
theorem fl_2050 : fe 329 2050 = some (2050, .aload 0, 1) := by decide +kernel
theorem fl_2051 : fe 329 2051 = some (2051, .iload 3, 1) := by decide +kernel
theorem fl_2052 : fe 329 2052 = some (2052, .iconst 3, 1) := by decide +kernel
theorem fl_2053 : fe 329 2053 = some (2053, .iadd, 1) := by decide +kernel
theorem fl_2054 : fe 329 2054 = some (2054, .iaload, 1) := by decide +kernel
theorem fl_2055 : fe 329 2055 = some (2055, .invokevirtual 200, 3) := by decide +kernel
theorem fl_2058 : fe 329 2058 = some (2058, .if_icmp .eq 2199, 3) := by decide +kernel
theorem fl_2061 : fe 329 2061 = some (2061, .iconst 0, 1) := by decide +kernel
theorem fl_2062 : fe 329 2062 = some (2062, .ireturn, 1) := by decide +kernel
theorem fl_2063 : fe 329 2063 = some (2063, .aload 1, 1) := by decide +kernel
theorem fl_2064 : fe 329 2064 = some (2064, .aload 0, 1) := by decide +kernel
theorem fl_2065 : fe 329 2065 = some (2065, .iload 3, 1) := by decide +kernel
theorem fl_2066 : fe 329 2066 = some (2066, .iconst 1, 1) := by decide +kernel
theorem fl_2067 : fe 329 2067 = some (2067, .iadd, 1) := by decide +kernel
theorem fl_2068 : fe 329 2068 = some (2068, .iaload, 1) := by decide +kernel
theorem fl_2069 : fe 329 2069 = some (2069, .aload 0, 1) := by decide +kernel
theorem fl_2070 : fe 329 2070 = some (2070, .iload 3, 1) := by decide +kernel
theorem fl_2071 : fe 329 2071 = some (2071, .iconst 2, 1) := by decide +kernel
theorem fl_2072 : fe 329 2072 = some (2072, .iadd, 1) := by decide +kernel
theorem fl_2073 : fe 329 2073 = some (2073, .iaload, 1) := by decide +kernel
theorem fl_2074 : fe 329 2074 = some (2074, .aload 0, 1) := by decide +kernel
theorem fl_2075 : fe 329 2075 = some (2075, .iload 3, 1) := by decide +kernel
theorem fl_2076 : fe 329 2076 = some (2076, .iconst 3, 1) := by decide +kernel
theorem fl_2077 : fe 329 2077 = some (2077, .iadd, 1) := by decide +kernel
theorem fl_2078 : fe 329 2078 = some (2078, .iaload, 1) := by decide +kernel
theorem fl_2079 : fe 329 2079 = some (2079, .i2l, 1) := by decide +kernel
theorem fl_2080 : fe 329 2080 = some (2080, .iconst 32, 2) := by decide +kernel
theorem fl_2082 : fe 329 2082 = some (2082, .lshl, 1) := by decide +kernel
theorem fl_2083 : fe 329 2083 = some (2083, .aload 0, 1) := by decide +kernel
theorem fl_2084 : fe 329 2084 = some (2084, .iload 3, 1) := by decide +kernel
theorem fl_2085 : fe 329 2085 = some (2085, .iconst 4, 1) := by decide +kernel
theorem fl_2086 : fe 329 2086 = some (2086, .iadd, 1) := by decide +kernel
theorem fl_2087 : fe 329 2087 = some (2087, .iaload, 1) := by decide +kernel
theorem fl_2088 : fe 329 2088 = some (2088, .i2l, 1) := by decide +kernel
theorem fl_2089 : fe 329 2089 = some (2089, .jsr_w 4294967295, 3) := by decide +kernel
theorem fl_2092 : fe 329 2092 = some (2092, .land, 1) := by decide +kernel
theorem fl_2093 : fe 329 2093 = some (2093, .lor, 1) := by decide +kernel
theorem fl_2094 : fe 329 2094 = some (2094, .invokevirtual 195, 3) := by decide +kernel
theorem fl_2097 : fe 329 2097 = some (2097, .aload 2, 1) := by decide +kernel
theorem fl_2098 : fe 329 2098 = some (2098, .aload 0, 1) := by decide +kernel
theorem fl_2099 : fe 329 2099 = some (2099, .iload 3, 1) := by decide +kernel
theorem fl_2100 : fe 329 2100 = some (2100, .iconst 1, 1) := by decide +kernel
theorem fl_2101 : fe 329 2101 = some (2101, .iadd, 1) := by decide +kernel
theorem fl_2102 : fe 329 2102 = some (2102, .iaload, 1) := by decide +kernel
theorem fl_2103 : fe 329 2103 = some (2103, .aload 0, 1) := by decide +kernel
theorem fl_2104 : fe 329 2104 = some (2104, .iload 3, 1) := by decide +kernel
theorem fl_2105 : fe 329 2105 = some (2105, .iconst 2, 1) := by decide +kernel
theorem fl_2106 : fe 329 2106 = some (2106, .iadd, 1) := by decide +kernel
theorem fl_2107 : fe 329 2107 = some (2107, .iaload, 1) := by decide +kernel
theorem fl_2108 : fe 329 2108 = some (2108, .aload 0, 1) := by decide +kernel
theorem fl_2109 : fe 329 2109 = some (2109, .iload 3, 1) := by decide +kernel
theorem fl_2110 : fe 329 2110 = some (2110, .iconst 3, 1) := by decide +kernel
theorem fl_2111 : fe 329 2111 = some (2111, .iadd, 1) := by decide +kernel
theorem fl_2112 : fe 329 2112 = some (2112, .iaload, 1) := by decide +kernel
theorem fl_2113 : fe 329 2113 = some (2113, .i2l, 1) := by decide +kernel
theorem fl_2114 : fe 329 2114 = some (2114, .iconst 32, 2) := by decide +kernel
theorem fl_2116 : fe 329 2116 = some (2116, .lshl, 1) := by decide +kernel
theorem fl_2117 : fe 329 2117 = some (2117, .aload 0, 1) := by decide +kernel
theorem fl_2118 : fe 329 2118 = some (2118, .iload 3, 1) := by decide +kernel
theorem fl_2119 : fe 329 2119 = some (2119, .iconst 4, 1) := by decide +kernel
theorem fl_2120 : fe 329 2120 = some (2120, .iadd, 1) := by decide +kernel
theorem fl_2121 : fe 329 2121 = some (2121, .iaload, 1) := by decide +kernel
theorem fl_2122 : fe 329 2122 = some (2122, .i2l, 1) := by decide +kernel
theorem fl_2123 : fe 329 2123 = some (2123, .jsr_w 4294967295, 3) := by decide +kernel
theorem fl_2126 : fe 329 2126 = some (2126, .land, 1) := by decide +kernel
theorem fl_2127 : fe 329 2127 = some (2127, .lor, 1) := by decide +kernel
theorem fl_2128 : fe 329 2128 = some (2128, .invokevirtual 203, 3) := by decide +kernel
theorem fl_2131 : fe 329 2131 = some (2131, .if_icmp .eq 2199, 3) := by decide +kernel
theorem fl_2134 : fe 329 2134 = some (2134, .iconst 0, 1) := by decide +kernel
theorem fl_2135 : fe 329 2135 = some (2135, .ireturn, 1) := by decide +kernel
theorem fl_2136 : fe 329 2136 = some (2136, .aload 1, 1) := by decide +kernel
theorem fl_2137 : fe 329 2137 = some (2137, .aload 0, 1) := by decide +kernel
theorem fl_2138 : fe 329 2138 = some (2138, .iload 3, 1) := by decide +kernel
theorem fl_2139 : fe 329 2139 = some (2139, .iconst 1, 1) := by decide +kernel
theorem fl_2140 : fe 329 2140 = some (2140, .iadd, 1) := by decide +kernel
theorem fl_2141 : fe 329 2141 = some (2141, .iaload, 1) := by decide +kernel
theorem fl_2142 : fe 329 2142 = some (2142, .aload 0, 1) := by decide +kernel
theorem fl_2143 : fe 329 2143 = some (2143, .iload 3, 1) := by decide +kernel
theorem fl_2144 : fe 329 2144 = some (2144, .iconst 2, 1) := by decide +kernel
theorem fl_2145 : fe 329 2145 = some (2145, .iadd, 1) := by decide +kernel
theorem fl_2146 : fe 329 2146 = some (2146, .iaload, 1) := by decide +kernel
theorem fl_2147 : fe 329 2147 = some (2147, .aload 0, 1) := by decide +kernel
theorem fl_2148 : fe 329 2148 = some (2148, .iload 3, 1) := by decide +kernel
theorem fl_2149 : fe 329 2149 = some (2149, .iconst 3, 1) := by decide +kernel
theorem fl_2150 : fe 329 2150 = some (2150, .iadd, 1) := by decide +kernel
theorem fl_2151 : fe 329 2151 = some (2151, .iaload, 1) := by decide +kernel
theorem fl_2152 : fe 329 2152 = some (2152, .aload 0, 1) := by decide +kernel
theorem fl_2153 : fe 329 2153 = some (2153, .iload 3, 1) := by decide +kernel
theorem fl_2154 : fe 329 2154 = some (2154, .iconst 4, 1) := by decide +kernel
theorem fl_2155 : fe 329 2155 = some (2155, .iadd, 1) := by decide +kernel
theorem fl_2156 : fe 329 2156 = some (2156, .iaload, 1) := by decide +kernel
theorem fl_2157 : fe 329 2157 = some (2157, .aload 0, 1) := by decide +kernel
theorem fl_2158 : fe 329 2158 = some (2158, .iload 3, 1) := by decide +kernel
theorem fl_2159 : fe 329 2159 = some (2159, .iconst 5, 1) := by decide +kernel
theorem fl_2160 : fe 329 2160 = some (2160, .iadd, 1) := by decide +kernel
theorem fl_2161 : fe 329 2161 = some (2161, .iaload, 1) := by decide +kernel
theorem fl_2162 : fe 329 2162 = some (2162, .invokevirtual 197, 3) := by decide +kernel
theorem fl_2165 : fe 329 2165 = some (2165, .aload 2, 1) := by decide +kernel
theorem fl_2166 : fe 329 2166 = some (2166, .aload 0, 1) := by decide +kernel
theorem fl_2167 : fe 329 2167 = some (2167, .iload 3, 1) := by decide +kernel
theorem fl_2168 : fe 329 2168 = some (2168, .iconst 1, 1) := by decide +kernel
theorem fl_2169 : fe 329 2169 = some (2169, .iadd, 1) := by decide +kernel
theorem fl_2170 : fe 329 2170 = some (2170, .iaload, 1) := by decide +kernel
theorem fl_2171 : fe 329 2171 = some (2171, .aload 0, 1) := by decide +kernel
theorem fl_2172 : fe 329 2172 = some (2172, .iload 3, 1) := by decide +kernel
theorem fl_2173 : fe 329 2173 = some (2173, .iconst 2, 1) := by decide +kernel
theorem fl_2174 : fe 329 2174 = some (2174, .iadd, 1) := by decide +kernel
theorem fl_2175 : fe 329 2175 = some (2175, .iaload, 1) := by decide +kernel
theorem fl_2176 : fe 329 2176 = some (2176, .aload 0, 1) := by decide +kernel
theorem fl_2177 : fe 329 2177 = some (2177, .iload 3, 1) := by decide +kernel
theorem fl_2178 : fe 329 2178 = some (2178, .iconst 3, 1) := by decide +kernel
theorem fl_2179 : fe 329 2179 = some (2179, .iadd, 1) := by decide +kernel
theorem fl_2180 : fe 329 2180 = some (2180, .iaload, 1) := by decide +kernel
theorem fl_2181 : fe 329 2181 = some (2181, .aload 0, 1) := by decide +kernel
theorem fl_2182 : fe 329 2182 = some (2182, .iload 3, 1) := by decide +kernel
theorem fl_2183 : fe 329 2183 = some (2183, .iconst 4, 1) := by decide +kernel
theorem fl_2184 : fe 329 2184 = some (2184, .iadd, 1) := by decide +kernel
theorem fl_2185 : fe 329 2185 = some (2185, .iaload, 1) := by decide +kernel
theorem fl_2186 : fe 329 2186 = some (2186, .aload 0, 1) := by decide +kernel
theorem fl_2187 : fe 329 2187 = some (2187, .iload 3, 1) := by decide +kernel
theorem fl_2188 : fe 329 2188 = some (2188, .iconst 5, 1) := by decide +kernel
theorem fl_2189 : fe 329 2189 = some (2189, .iadd, 1) := by decide +kernel
theorem fl_2190 : fe 329 2190 = some (2190, .iaload, 1) := by decide +kernel
theorem fl_2191 : fe 329 2191 = some (2191, .invokevirtual 205, 3) := by decide +kernel
theorem fl_2194 : fe 329 2194 = some (2194, .if_icmp .eq 2199, 3) := by decide +kernel
theorem fl_2197 : fe 329 2197 = some (2197, .iconst 0, 1) := by decide +kernel
theorem fl_2198 : fe 329 2198 = some (2198, .ireturn, 1) := by decide +kernel
theorem fl_2199 : fe 329 2199 = some (2199, .iinc 3 6, 3) := by decide +kernel
theorem fl_2202 : fe 329 2202 = some (2202, .goto 18, 3) := by decide +kernel
theorem fl_2205 : fe 329 2205 = some (2205, .iconst 1, 1) := by decide +kernel
theorem fl_2206 : fe 329 2206 = some (2206, .ireturn, 1) := by decide +kernel
