/-! THE LAW: decode rows -/
theorem dL_1250 : decode code 1250 = .ok (.iadd, 1) := by decide +kernel
theorem dL_1251 : decode code 1251 = .ok (.iaload, 1) := by decide +kernel
theorem dL_1252 : decode code 1252 = .ok (.invokevirtual 115, 3) := by decide +kernel
theorem dL_1255 : decode code 1255 = .ok (.aload_n 2, 1) := by decide +kernel
theorem dL_1256 : decode code 1256 = .ok (.aload_n 0, 1) := by decide +kernel
theorem dL_1257 : decode code 1257 = .ok (.iload_n 3, 1) := by decide +kernel
theorem dL_1258 : decode code 1258 = .ok (.iconst 1, 1) := by decide +kernel
theorem dL_1259 : decode code 1259 = .ok (.iadd, 1) := by decide +kernel
theorem dL_1260 : decode code 1260 = .ok (.iaload, 1) := by decide +kernel
theorem dL_1261 : decode code 1261 = .ok (.invokevirtual 118, 3) := by decide +kernel
theorem dL_1264 : decode code 1264 = .ok (.if_icmp .eq 1035, 3) := by decide +kernel
theorem dL_1267 : decode code 1267 = .ok (.iconst 0, 1) := by decide +kernel
theorem dL_1268 : decode code 1268 = .ok (.ireturn, 1) := by decide +kernel
theorem dL_1269 : decode code 1269 = .ok (.aload_n 1, 1) := by decide +kernel
theorem dL_1270 : decode code 1270 = .ok (.aload_n 0, 1) := by decide +kernel
theorem dL_1271 : decode code 1271 = .ok (.iload_n 3, 1) := by decide +kernel
theorem dL_1272 : decode code 1272 = .ok (.iconst 1, 1) := by decide +kernel
theorem dL_1273 : decode code 1273 = .ok (.iadd, 1) := by decide +kernel
theorem dL_1274 : decode code 1274 = .ok (.iaload, 1) := by decide +kernel
theorem dL_1275 : decode code 1275 = .ok (.invokevirtual 119, 3) := by decide +kernel
theorem dL_1278 : decode code 1278 = .ok (.aload_n 2, 1) := by decide +kernel
theorem dL_1279 : decode code 1279 = .ok (.aload_n 0, 1) := by decide +kernel
theorem dL_1280 : decode code 1280 = .ok (.iload_n 3, 1) := by decide +kernel
theorem dL_1281 : decode code 1281 = .ok (.iconst 1, 1) := by decide +kernel
theorem dL_1282 : decode code 1282 = .ok (.iadd, 1) := by decide +kernel
theorem dL_1283 : decode code 1283 = .ok (.iaload, 1) := by decide +kernel
theorem dL_1284 : decode code 1284 = .ok (.invokevirtual 122, 3) := by decide +kernel
theorem dL_1287 : decode code 1287 = .ok (.if_icmp .eq 1012, 3) := by decide +kernel
theorem dL_1290 : decode code 1290 = .ok (.iconst 0, 1) := by decide +kernel
theorem dL_1291 : decode code 1291 = .ok (.ireturn, 1) := by decide +kernel
theorem dL_1292 : decode code 1292 = .ok (.aload_n 1, 1) := by decide +kernel
theorem dL_1293 : decode code 1293 = .ok (.aload_n 0, 1) := by decide +kernel
theorem dL_1294 : decode code 1294 = .ok (.iload_n 3, 1) := by decide +kernel
theorem dL_1295 : decode code 1295 = .ok (.iconst 1, 1) := by decide +kernel
theorem dL_1296 : decode code 1296 = .ok (.iadd, 1) := by decide +kernel
theorem dL_1297 : decode code 1297 = .ok (.iaload, 1) := by decide +kernel
theorem dL_1298 : decode code 1298 = .ok (.aload_n 0, 1) := by decide +kernel
theorem dL_1299 : decode code 1299 = .ok (.iload_n 3, 1) := by decide +kernel
theorem dL_1300 : decode code 1300 = .ok (.iconst 2, 1) := by decide +kernel
theorem dL_1301 : decode code 1301 = .ok (.iadd, 1) := by decide +kernel
theorem dL_1302 : decode code 1302 = .ok (.iaload, 1) := by decide +kernel
theorem dL_1303 : decode code 1303 = .ok (.invokevirtual 123, 3) := by decide +kernel
theorem dL_1306 : decode code 1306 = .ok (.aload_n 2, 1) := by decide +kernel
theorem dL_1307 : decode code 1307 = .ok (.aload_n 0, 1) := by decide +kernel
theorem dL_1308 : decode code 1308 = .ok (.iload_n 3, 1) := by decide +kernel
theorem dL_1309 : decode code 1309 = .ok (.iconst 1, 1) := by decide +kernel
theorem dL_1310 : decode code 1310 = .ok (.iadd, 1) := by decide +kernel
theorem dL_1311 : decode code 1311 = .ok (.iaload, 1) := by decide +kernel
theorem dL_1312 : decode code 1312 = .ok (.aload_n 0, 1) := by decide +kernel
theorem dL_1313 : decode code 1313 = .ok (.iload_n 3, 1) := by decide +kernel
theorem dL_1314 : decode code 1314 = .ok (.iconst 2, 1) := by decide +kernel
theorem dL_1315 : decode code 1315 = .ok (.iadd, 1) := by decide +kernel
theorem dL_1316 : decode code 1316 = .ok (.iaload, 1) := by decide +kernel
theorem dL_1317 : decode code 1317 = .ok (.invokevirtual 126, 3) := by decide +kernel
theorem dL_1320 : decode code 1320 = .ok (.if_icmp .eq 979, 3) := by decide +kernel
theorem dL_1323 : decode code 1323 = .ok (.iconst 0, 1) := by decide +kernel
theorem dL_1324 : decode code 1324 = .ok (.ireturn, 1) := by decide +kernel
theorem dL_1325 : decode code 1325 = .ok (.aload_n 1, 1) := by decide +kernel
theorem dL_1326 : decode code 1326 = .ok (.aload_n 0, 1) := by decide +kernel
theorem dL_1327 : decode code 1327 = .ok (.iload_n 3, 1) := by decide +kernel
theorem dL_1328 : decode code 1328 = .ok (.iconst 1, 1) := by decide +kernel
theorem dL_1329 : decode code 1329 = .ok (.iadd, 1) := by decide +kernel
theorem dL_1330 : decode code 1330 = .ok (.iaload, 1) := by decide +kernel
theorem dL_1331 : decode code 1331 = .ok (.invokevirtual 127, 3) := by decide +kernel
theorem dL_1334 : decode code 1334 = .ok (.aload_n 2, 1) := by decide +kernel
theorem dL_1335 : decode code 1335 = .ok (.aload_n 0, 1) := by decide +kernel
theorem dL_1336 : decode code 1336 = .ok (.iload_n 3, 1) := by decide +kernel
theorem dL_1337 : decode code 1337 = .ok (.iconst 1, 1) := by decide +kernel
theorem dL_1338 : decode code 1338 = .ok (.iadd, 1) := by decide +kernel
theorem dL_1339 : decode code 1339 = .ok (.iaload, 1) := by decide +kernel
theorem dL_1340 : decode code 1340 = .ok (.invokevirtual 130, 3) := by decide +kernel
theorem dL_1343 : decode code 1343 = .ok (.if_icmp .eq 956, 3) := by decide +kernel
theorem dL_1346 : decode code 1346 = .ok (.iconst 0, 1) := by decide +kernel
theorem dL_1347 : decode code 1347 = .ok (.ireturn, 1) := by decide +kernel
theorem dL_1348 : decode code 1348 = .ok (.aload_n 1, 1) := by decide +kernel
theorem dL_1349 : decode code 1349 = .ok (.aload_n 0, 1) := by decide +kernel
theorem dL_1350 : decode code 1350 = .ok (.iload_n 3, 1) := by decide +kernel
theorem dL_1351 : decode code 1351 = .ok (.iconst 1, 1) := by decide +kernel
theorem dL_1352 : decode code 1352 = .ok (.iadd, 1) := by decide +kernel
theorem dL_1353 : decode code 1353 = .ok (.iaload, 1) := by decide +kernel
theorem dL_1354 : decode code 1354 = .ok (.aload_n 0, 1) := by decide +kernel
theorem dL_1355 : decode code 1355 = .ok (.iload_n 3, 1) := by decide +kernel
theorem dL_1356 : decode code 1356 = .ok (.iconst 2, 1) := by decide +kernel
theorem dL_1357 : decode code 1357 = .ok (.iadd, 1) := by decide +kernel
theorem dL_1358 : decode code 1358 = .ok (.iaload, 1) := by decide +kernel
theorem dL_1359 : decode code 1359 = .ok (.invokevirtual 131, 3) := by decide +kernel
theorem dL_1362 : decode code 1362 = .ok (.aload_n 2, 1) := by decide +kernel
theorem dL_1363 : decode code 1363 = .ok (.aload_n 0, 1) := by decide +kernel
theorem dL_1364 : decode code 1364 = .ok (.iload_n 3, 1) := by decide +kernel
theorem dL_1365 : decode code 1365 = .ok (.iconst 1, 1) := by decide +kernel
theorem dL_1366 : decode code 1366 = .ok (.iadd, 1) := by decide +kernel
theorem dL_1367 : decode code 1367 = .ok (.iaload, 1) := by decide +kernel
theorem dL_1368 : decode code 1368 = .ok (.aload_n 0, 1) := by decide +kernel
theorem dL_1369 : decode code 1369 = .ok (.iload_n 3, 1) := by decide +kernel
theorem dL_1370 : decode code 1370 = .ok (.iconst 2, 1) := by decide +kernel
theorem dL_1371 : decode code 1371 = .ok (.iadd, 1) := by decide +kernel
theorem dL_1372 : decode code 1372 = .ok (.iaload, 1) := by decide +kernel
theorem dL_1373 : decode code 1373 = .ok (.invokevirtual 134, 3) := by decide +kernel
theorem dL_1376 : decode code 1376 = .ok (.if_icmp .eq 923, 3) := by decide +kernel
theorem dL_1379 : decode code 1379 = .ok (.iconst 0, 1) := by decide +kernel
theorem dL_1380 : decode code 1380 = .ok (.ireturn, 1) := by decide +kernel
theorem dL_1381 : decode code 1381 = .ok (.aload_n 1, 1) := by decide +kernel
theorem dL_1382 : decode code 1382 = .ok (.aload_n 0, 1) := by decide +kernel
theorem dL_1383 : decode code 1383 = .ok (.iload_n 3, 1) := by decide +kernel
theorem dL_1384 : decode code 1384 = .ok (.iconst 1, 1) := by decide +kernel
theorem dL_1385 : decode code 1385 = .ok (.iadd, 1) := by decide +kernel
theorem dL_1386 : decode code 1386 = .ok (.iaload, 1) := by decide +kernel
theorem dL_1387 : decode code 1387 = .ok (.aload_n 0, 1) := by decide +kernel
theorem dL_1388 : decode code 1388 = .ok (.iload_n 3, 1) := by decide +kernel
theorem dL_1389 : decode code 1389 = .ok (.iconst 2, 1) := by decide +kernel
theorem dL_1390 : decode code 1390 = .ok (.iadd, 1) := by decide +kernel
theorem dL_1391 : decode code 1391 = .ok (.iaload, 1) := by decide +kernel
theorem dL_1392 : decode code 1392 = .ok (.invokevirtual 135, 3) := by decide +kernel
theorem dL_1395 : decode code 1395 = .ok (.aload_n 2, 1) := by decide +kernel
theorem dL_1396 : decode code 1396 = .ok (.aload_n 0, 1) := by decide +kernel
theorem dL_1397 : decode code 1397 = .ok (.iload_n 3, 1) := by decide +kernel
theorem dL_1398 : decode code 1398 = .ok (.iconst 1, 1) := by decide +kernel
theorem dL_1399 : decode code 1399 = .ok (.iadd, 1) := by decide +kernel
theorem dL_1400 : decode code 1400 = .ok (.iaload, 1) := by decide +kernel
theorem dL_1401 : decode code 1401 = .ok (.aload_n 0, 1) := by decide +kernel
theorem dL_1402 : decode code 1402 = .ok (.iload_n 3, 1) := by decide +kernel
theorem dL_1403 : decode code 1403 = .ok (.iconst 2, 1) := by decide +kernel
theorem dL_1404 : decode code 1404 = .ok (.iadd, 1) := by decide +kernel
theorem dL_1405 : decode code 1405 = .ok (.iaload, 1) := by decide +kernel
theorem dL_1406 : decode code 1406 = .ok (.invokevirtual 138, 3) := by decide +kernel
theorem dL_1409 : decode code 1409 = .ok (.if_icmp .eq 890, 3) := by decide +kernel
theorem dL_1412 : decode code 1412 = .ok (.iconst 0, 1) := by decide +kernel
theorem dL_1413 : decode code 1413 = .ok (.ireturn, 1) := by decide +kernel
theorem dL_1414 : decode code 1414 = .ok (.aload_n 1, 1) := by decide +kernel
theorem dL_1415 : decode code 1415 = .ok (.aload_n 0, 1) := by decide +kernel
theorem dL_1416 : decode code 1416 = .ok (.iload_n 3, 1) := by decide +kernel
theorem dL_1417 : decode code 1417 = .ok (.iconst 1, 1) := by decide +kernel
theorem dL_1418 : decode code 1418 = .ok (.iadd, 1) := by decide +kernel
theorem dL_1419 : decode code 1419 = .ok (.iaload, 1) := by decide +kernel
theorem dL_1420 : decode code 1420 = .ok (.aload_n 0, 1) := by decide +kernel
theorem dL_1421 : decode code 1421 = .ok (.iload_n 3, 1) := by decide +kernel
theorem dL_1422 : decode code 1422 = .ok (.iconst 2, 1) := by decide +kernel
theorem dL_1423 : decode code 1423 = .ok (.iadd, 1) := by decide +kernel
theorem dL_1424 : decode code 1424 = .ok (.iaload, 1) := by decide +kernel
theorem dL_1425 : decode code 1425 = .ok (.invokevirtual 139, 3) := by decide +kernel
theorem dL_1428 : decode code 1428 = .ok (.aload_n 2, 1) := by decide +kernel
theorem dL_1429 : decode code 1429 = .ok (.aload_n 0, 1) := by decide +kernel
theorem dL_1430 : decode code 1430 = .ok (.iload_n 3, 1) := by decide +kernel
theorem dL_1431 : decode code 1431 = .ok (.iconst 1, 1) := by decide +kernel
theorem dL_1432 : decode code 1432 = .ok (.iadd, 1) := by decide +kernel
theorem dL_1433 : decode code 1433 = .ok (.iaload, 1) := by decide +kernel
theorem dL_1434 : decode code 1434 = .ok (.aload_n 0, 1) := by decide +kernel
theorem dL_1435 : decode code 1435 = .ok (.iload_n 3, 1) := by decide +kernel
theorem dL_1436 : decode code 1436 = .ok (.iconst 2, 1) := by decide +kernel
theorem dL_1437 : decode code 1437 = .ok (.iadd, 1) := by decide +kernel
theorem dL_1438 : decode code 1438 = .ok (.iaload, 1) := by decide +kernel
theorem dL_1439 : decode code 1439 = .ok (.invokevirtual 142, 3) := by decide +kernel
theorem dL_1442 : decode code 1442 = .ok (.if_icmp .eq 857, 3) := by decide +kernel
theorem dL_1445 : decode code 1445 = .ok (.iconst 0, 1) := by decide +kernel
theorem dL_1446 : decode code 1446 = .ok (.ireturn, 1) := by decide +kernel
theorem dL_1447 : decode code 1447 = .ok (.aload_n 1, 1) := by decide +kernel
theorem dL_1448 : decode code 1448 = .ok (.aload_n 0, 1) := by decide +kernel
theorem dL_1449 : decode code 1449 = .ok (.iload_n 3, 1) := by decide +kernel
theorem dL_1450 : decode code 1450 = .ok (.iconst 1, 1) := by decide +kernel
theorem dL_1451 : decode code 1451 = .ok (.iadd, 1) := by decide +kernel
theorem dL_1452 : decode code 1452 = .ok (.iaload, 1) := by decide +kernel
theorem dL_1453 : decode code 1453 = .ok (.aload_n 0, 1) := by decide +kernel
theorem dL_1454 : decode code 1454 = .ok (.iload_n 3, 1) := by decide +kernel
theorem dL_1455 : decode code 1455 = .ok (.iconst 2, 1) := by decide +kernel
theorem dL_1456 : decode code 1456 = .ok (.iadd, 1) := by decide +kernel
theorem dL_1457 : decode code 1457 = .ok (.iaload, 1) := by decide +kernel
theorem dL_1458 : decode code 1458 = .ok (.invokevirtual 143, 3) := by decide +kernel
theorem dL_1461 : decode code 1461 = .ok (.aload_n 2, 1) := by decide +kernel
theorem dL_1462 : decode code 1462 = .ok (.aload_n 0, 1) := by decide +kernel
theorem dL_1463 : decode code 1463 = .ok (.iload_n 3, 1) := by decide +kernel
theorem dL_1464 : decode code 1464 = .ok (.iconst 1, 1) := by decide +kernel
theorem dL_1465 : decode code 1465 = .ok (.iadd, 1) := by decide +kernel
theorem dL_1466 : decode code 1466 = .ok (.iaload, 1) := by decide +kernel
theorem dL_1467 : decode code 1467 = .ok (.aload_n 0, 1) := by decide +kernel
theorem dL_1468 : decode code 1468 = .ok (.iload_n 3, 1) := by decide +kernel
theorem dL_1469 : decode code 1469 = .ok (.iconst 2, 1) := by decide +kernel
theorem dL_1470 : decode code 1470 = .ok (.iadd, 1) := by decide +kernel
theorem dL_1471 : decode code 1471 = .ok (.iaload, 1) := by decide +kernel
theorem dL_1472 : decode code 1472 = .ok (.invokevirtual 146, 3) := by decide +kernel
theorem dL_1475 : decode code 1475 = .ok (.if_icmp .eq 824, 3) := by decide +kernel
theorem dL_1478 : decode code 1478 = .ok (.iconst 0, 1) := by decide +kernel
theorem dL_1479 : decode code 1479 = .ok (.ireturn, 1) := by decide +kernel
theorem dL_1480 : decode code 1480 = .ok (.aload_n 1, 1) := by decide +kernel
theorem dL_1481 : decode code 1481 = .ok (.aload_n 0, 1) := by decide +kernel
theorem dL_1482 : decode code 1482 = .ok (.iload_n 3, 1) := by decide +kernel
theorem dL_1483 : decode code 1483 = .ok (.iconst 1, 1) := by decide +kernel
theorem dL_1484 : decode code 1484 = .ok (.iadd, 1) := by decide +kernel
theorem dL_1485 : decode code 1485 = .ok (.iaload, 1) := by decide +kernel
theorem dL_1486 : decode code 1486 = .ok (.invokevirtual 147, 3) := by decide +kernel
theorem dL_1489 : decode code 1489 = .ok (.aload_n 2, 1) := by decide +kernel
theorem dL_1490 : decode code 1490 = .ok (.aload_n 0, 1) := by decide +kernel
theorem dL_1491 : decode code 1491 = .ok (.iload_n 3, 1) := by decide +kernel
theorem dL_1492 : decode code 1492 = .ok (.iconst 1, 1) := by decide +kernel
theorem dL_1493 : decode code 1493 = .ok (.iadd, 1) := by decide +kernel
theorem dL_1494 : decode code 1494 = .ok (.iaload, 1) := by decide +kernel
theorem dL_1495 : decode code 1495 = .ok (.invokevirtual 150, 3) := by decide +kernel
theorem dL_1498 : decode code 1498 = .ok (.if_icmp .eq 801, 3) := by decide +kernel
theorem dL_1501 : decode code 1501 = .ok (.iconst 0, 1) := by decide +kernel
theorem dL_1502 : decode code 1502 = .ok (.ireturn, 1) := by decide +kernel
theorem dL_1503 : decode code 1503 = .ok (.aload_n 1, 1) := by decide +kernel
theorem dL_1504 : decode code 1504 = .ok (.aload_n 0, 1) := by decide +kernel
theorem dL_1505 : decode code 1505 = .ok (.iload_n 3, 1) := by decide +kernel
theorem dL_1506 : decode code 1506 = .ok (.iconst 1, 1) := by decide +kernel
theorem dL_1507 : decode code 1507 = .ok (.iadd, 1) := by decide +kernel
theorem dL_1508 : decode code 1508 = .ok (.iaload, 1) := by decide +kernel
theorem dL_1509 : decode code 1509 = .ok (.invokevirtual 151, 3) := by decide +kernel
theorem dL_1512 : decode code 1512 = .ok (.aload_n 2, 1) := by decide +kernel
theorem dL_1513 : decode code 1513 = .ok (.aload_n 0, 1) := by decide +kernel
theorem dL_1514 : decode code 1514 = .ok (.iload_n 3, 1) := by decide +kernel
theorem dL_1515 : decode code 1515 = .ok (.iconst 1, 1) := by decide +kernel
theorem dL_1516 : decode code 1516 = .ok (.iadd, 1) := by decide +kernel
theorem dL_1517 : decode code 1517 = .ok (.iaload, 1) := by decide +kernel
theorem dL_1518 : decode code 1518 = .ok (.invokevirtual 154, 3) := by decide +kernel
theorem dL_1521 : decode code 1521 = .ok (.if_icmp .eq 778, 3) := by decide +kernel
theorem dL_1524 : decode code 1524 = .ok (.iconst 0, 1) := by decide +kernel
theorem dL_1525 : decode code 1525 = .ok (.ireturn, 1) := by decide +kernel
theorem dL_1526 : decode code 1526 = .ok (.aload_n 1, 1) := by decide +kernel
theorem dL_1527 : decode code 1527 = .ok (.aload_n 0, 1) := by decide +kernel
theorem dL_1528 : decode code 1528 = .ok (.iload_n 3, 1) := by decide +kernel
theorem dL_1529 : decode code 1529 = .ok (.iconst 1, 1) := by decide +kernel
theorem dL_1530 : decode code 1530 = .ok (.iadd, 1) := by decide +kernel
theorem dL_1531 : decode code 1531 = .ok (.iaload, 1) := by decide +kernel
theorem dL_1532 : decode code 1532 = .ok (.aload_n 0, 1) := by decide +kernel
theorem dL_1533 : decode code 1533 = .ok (.iload_n 3, 1) := by decide +kernel
theorem dL_1534 : decode code 1534 = .ok (.iconst 2, 1) := by decide +kernel
theorem dL_1535 : decode code 1535 = .ok (.iadd, 1) := by decide +kernel
theorem dL_1536 : decode code 1536 = .ok (.iaload, 1) := by decide +kernel
theorem dL_1537 : decode code 1537 = .ok (.ifCond .eq 7, 3) := by decide +kernel
theorem dL_1540 : decode code 1540 = .ok (.iconst 1, 1) := by decide +kernel
theorem dL_1541 : decode code 1541 = .ok (.goto 4, 3) := by decide +kernel
theorem dL_1544 : decode code 1544 = .ok (.iconst 0, 1) := by decide +kernel
theorem dL_1545 : decode code 1545 = .ok (.invokevirtual 155, 3) := by decide +kernel
theorem dL_1548 : decode code 1548 = .ok (.aload_n 2, 1) := by decide +kernel
theorem dL_1549 : decode code 1549 = .ok (.aload_n 0, 1) := by decide +kernel
theorem dL_1550 : decode code 1550 = .ok (.iload_n 3, 1) := by decide +kernel
theorem dL_1551 : decode code 1551 = .ok (.iconst 1, 1) := by decide +kernel
theorem dL_1552 : decode code 1552 = .ok (.iadd, 1) := by decide +kernel
theorem dL_1553 : decode code 1553 = .ok (.iaload, 1) := by decide +kernel
theorem dL_1554 : decode code 1554 = .ok (.aload_n 0, 1) := by decide +kernel
theorem dL_1555 : decode code 1555 = .ok (.iload_n 3, 1) := by decide +kernel
theorem dL_1556 : decode code 1556 = .ok (.iconst 2, 1) := by decide +kernel
theorem dL_1557 : decode code 1557 = .ok (.iadd, 1) := by decide +kernel
theorem dL_1558 : decode code 1558 = .ok (.iaload, 1) := by decide +kernel
theorem dL_1559 : decode code 1559 = .ok (.ifCond .eq 7, 3) := by decide +kernel
theorem dL_1562 : decode code 1562 = .ok (.iconst 1, 1) := by decide +kernel
theorem dL_1563 : decode code 1563 = .ok (.goto 4, 3) := by decide +kernel
theorem dL_1566 : decode code 1566 = .ok (.iconst 0, 1) := by decide +kernel
theorem dL_1567 : decode code 1567 = .ok (.invokevirtual 159, 3) := by decide +kernel
theorem dL_1570 : decode code 1570 = .ok (.if_icmp .eq 729, 3) := by decide +kernel
theorem dL_1573 : decode code 1573 = .ok (.iconst 0, 1) := by decide +kernel
theorem dL_1574 : decode code 1574 = .ok (.ireturn, 1) := by decide +kernel
theorem dL_1575 : decode code 1575 = .ok (.aload_n 1, 1) := by decide +kernel
theorem dL_1576 : decode code 1576 = .ok (.aload_n 0, 1) := by decide +kernel
theorem dL_1577 : decode code 1577 = .ok (.iload_n 3, 1) := by decide +kernel
theorem dL_1578 : decode code 1578 = .ok (.iconst 1, 1) := by decide +kernel
theorem dL_1579 : decode code 1579 = .ok (.iadd, 1) := by decide +kernel
theorem dL_1580 : decode code 1580 = .ok (.iaload, 1) := by decide +kernel
theorem dL_1581 : decode code 1581 = .ok (.aload_n 0, 1) := by decide +kernel
theorem dL_1582 : decode code 1582 = .ok (.iload_n 3, 1) := by decide +kernel
theorem dL_1583 : decode code 1583 = .ok (.iconst 2, 1) := by decide +kernel
theorem dL_1584 : decode code 1584 = .ok (.iadd, 1) := by decide +kernel
theorem dL_1585 : decode code 1585 = .ok (.iaload, 1) := by decide +kernel
theorem dL_1586 : decode code 1586 = .ok (.aload_n 0, 1) := by decide +kernel
theorem dL_1587 : decode code 1587 = .ok (.iload_n 3, 1) := by decide +kernel
theorem dL_1588 : decode code 1588 = .ok (.iconst 3, 1) := by decide +kernel
theorem dL_1589 : decode code 1589 = .ok (.iadd, 1) := by decide +kernel
theorem dL_1590 : decode code 1590 = .ok (.iaload, 1) := by decide +kernel
theorem dL_1591 : decode code 1591 = .ok (.aload_n 0, 1) := by decide +kernel
theorem dL_1592 : decode code 1592 = .ok (.iload_n 3, 1) := by decide +kernel
theorem dL_1593 : decode code 1593 = .ok (.iconst 4, 1) := by decide +kernel
theorem dL_1594 : decode code 1594 = .ok (.iadd, 1) := by decide +kernel
theorem dL_1595 : decode code 1595 = .ok (.iaload, 1) := by decide +kernel
theorem dL_1596 : decode code 1596 = .ok (.aload_n 0, 1) := by decide +kernel
theorem dL_1597 : decode code 1597 = .ok (.iload_n 3, 1) := by decide +kernel
theorem dL_1598 : decode code 1598 = .ok (.iconst 5, 1) := by decide +kernel
theorem dL_1599 : decode code 1599 = .ok (.iadd, 1) := by decide +kernel
theorem dL_1600 : decode code 1600 = .ok (.iaload, 1) := by decide +kernel
theorem dL_1601 : decode code 1601 = .ok (.aload_n 0, 1) := by decide +kernel
theorem dL_1602 : decode code 1602 = .ok (.iload_n 3, 1) := by decide +kernel
theorem dL_1603 : decode code 1603 = .ok (.bipush 6, 2) := by decide +kernel
theorem dL_1605 : decode code 1605 = .ok (.iadd, 1) := by decide +kernel
theorem dL_1606 : decode code 1606 = .ok (.iaload, 1) := by decide +kernel
theorem dL_1607 : decode code 1607 = .ok (.invokevirtual 160, 3) := by decide +kernel
theorem dL_1610 : decode code 1610 = .ok (.aload_n 2, 1) := by decide +kernel
theorem dL_1611 : decode code 1611 = .ok (.aload_n 0, 1) := by decide +kernel
theorem dL_1612 : decode code 1612 = .ok (.iload_n 3, 1) := by decide +kernel
theorem dL_1613 : decode code 1613 = .ok (.iconst 1, 1) := by decide +kernel
theorem dL_1614 : decode code 1614 = .ok (.iadd, 1) := by decide +kernel
theorem dL_1615 : decode code 1615 = .ok (.iaload, 1) := by decide +kernel
theorem dL_1616 : decode code 1616 = .ok (.aload_n 0, 1) := by decide +kernel
theorem dL_1617 : decode code 1617 = .ok (.iload_n 3, 1) := by decide +kernel
theorem dL_1618 : decode code 1618 = .ok (.iconst 2, 1) := by decide +kernel
theorem dL_1619 : decode code 1619 = .ok (.iadd, 1) := by decide +kernel
theorem dL_1620 : decode code 1620 = .ok (.iaload, 1) := by decide +kernel
theorem dL_1621 : decode code 1621 = .ok (.aload_n 0, 1) := by decide +kernel
theorem dL_1622 : decode code 1622 = .ok (.iload_n 3, 1) := by decide +kernel
theorem dL_1623 : decode code 1623 = .ok (.iconst 3, 1) := by decide +kernel
theorem dL_1624 : decode code 1624 = .ok (.iadd, 1) := by decide +kernel
theorem dL_1625 : decode code 1625 = .ok (.iaload, 1) := by decide +kernel
theorem dL_1626 : decode code 1626 = .ok (.aload_n 0, 1) := by decide +kernel
theorem dL_1627 : decode code 1627 = .ok (.iload_n 3, 1) := by decide +kernel
theorem dL_1628 : decode code 1628 = .ok (.iconst 4, 1) := by decide +kernel
theorem dL_1629 : decode code 1629 = .ok (.iadd, 1) := by decide +kernel
theorem dL_1630 : decode code 1630 = .ok (.iaload, 1) := by decide +kernel
theorem dL_1631 : decode code 1631 = .ok (.aload_n 0, 1) := by decide +kernel
theorem dL_1632 : decode code 1632 = .ok (.iload_n 3, 1) := by decide +kernel
theorem dL_1633 : decode code 1633 = .ok (.iconst 5, 1) := by decide +kernel
theorem dL_1634 : decode code 1634 = .ok (.iadd, 1) := by decide +kernel
theorem dL_1635 : decode code 1635 = .ok (.iaload, 1) := by decide +kernel
theorem dL_1636 : decode code 1636 = .ok (.aload_n 0, 1) := by decide +kernel
theorem dL_1637 : decode code 1637 = .ok (.iload_n 3, 1) := by decide +kernel
theorem dL_1638 : decode code 1638 = .ok (.bipush 6, 2) := by decide +kernel
theorem dL_1640 : decode code 1640 = .ok (.iadd, 1) := by decide +kernel
theorem dL_1641 : decode code 1641 = .ok (.iaload, 1) := by decide +kernel
theorem dL_1642 : decode code 1642 = .ok (.invokevirtual 164, 3) := by decide +kernel
theorem dL_1645 : decode code 1645 = .ok (.if_icmp .eq 654, 3) := by decide +kernel
theorem dL_1648 : decode code 1648 = .ok (.iconst 0, 1) := by decide +kernel
theorem dL_1649 : decode code 1649 = .ok (.ireturn, 1) := by decide +kernel
theorem dL_1650 : decode code 1650 = .ok (.aload_n 1, 1) := by decide +kernel
theorem dL_1651 : decode code 1651 = .ok (.aload_n 0, 1) := by decide +kernel
theorem dL_1652 : decode code 1652 = .ok (.iload_n 3, 1) := by decide +kernel
theorem dL_1653 : decode code 1653 = .ok (.iconst 1, 1) := by decide +kernel
theorem dL_1654 : decode code 1654 = .ok (.iadd, 1) := by decide +kernel
theorem dL_1655 : decode code 1655 = .ok (.iaload, 1) := by decide +kernel
theorem dL_1656 : decode code 1656 = .ok (.aload_n 0, 1) := by decide +kernel
theorem dL_1657 : decode code 1657 = .ok (.iload_n 3, 1) := by decide +kernel
theorem dL_1658 : decode code 1658 = .ok (.iconst 2, 1) := by decide +kernel
theorem dL_1659 : decode code 1659 = .ok (.iadd, 1) := by decide +kernel
theorem dL_1660 : decode code 1660 = .ok (.iaload, 1) := by decide +kernel
theorem dL_1661 : decode code 1661 = .ok (.aload_n 0, 1) := by decide +kernel
theorem dL_1662 : decode code 1662 = .ok (.iload_n 3, 1) := by decide +kernel
theorem dL_1663 : decode code 1663 = .ok (.iconst 3, 1) := by decide +kernel
theorem dL_1664 : decode code 1664 = .ok (.iadd, 1) := by decide +kernel
theorem dL_1665 : decode code 1665 = .ok (.iaload, 1) := by decide +kernel
theorem dL_1666 : decode code 1666 = .ok (.aload_n 0, 1) := by decide +kernel
theorem dL_1667 : decode code 1667 = .ok (.iload_n 3, 1) := by decide +kernel
theorem dL_1668 : decode code 1668 = .ok (.iconst 4, 1) := by decide +kernel
theorem dL_1669 : decode code 1669 = .ok (.iadd, 1) := by decide +kernel
theorem dL_1670 : decode code 1670 = .ok (.iaload, 1) := by decide +kernel
theorem dL_1671 : decode code 1671 = .ok (.aload_n 0, 1) := by decide +kernel
theorem dL_1672 : decode code 1672 = .ok (.iload_n 3, 1) := by decide +kernel
theorem dL_1673 : decode code 1673 = .ok (.iconst 5, 1) := by decide +kernel
theorem dL_1674 : decode code 1674 = .ok (.iadd, 1) := by decide +kernel
theorem dL_1675 : decode code 1675 = .ok (.iaload, 1) := by decide +kernel
theorem dL_1676 : decode code 1676 = .ok (.invokevirtual 165, 3) := by decide +kernel
theorem dL_1679 : decode code 1679 = .ok (.aload_n 2, 1) := by decide +kernel
theorem dL_1680 : decode code 1680 = .ok (.aload_n 0, 1) := by decide +kernel
theorem dL_1681 : decode code 1681 = .ok (.iload_n 3, 1) := by decide +kernel
theorem dL_1682 : decode code 1682 = .ok (.iconst 1, 1) := by decide +kernel
theorem dL_1683 : decode code 1683 = .ok (.iadd, 1) := by decide +kernel
theorem dL_1684 : decode code 1684 = .ok (.iaload, 1) := by decide +kernel
theorem dL_1685 : decode code 1685 = .ok (.aload_n 0, 1) := by decide +kernel
theorem dL_1686 : decode code 1686 = .ok (.iload_n 3, 1) := by decide +kernel
theorem dL_1687 : decode code 1687 = .ok (.iconst 2, 1) := by decide +kernel
theorem dL_1688 : decode code 1688 = .ok (.iadd, 1) := by decide +kernel
theorem dL_1689 : decode code 1689 = .ok (.iaload, 1) := by decide +kernel
theorem dL_1690 : decode code 1690 = .ok (.aload_n 0, 1) := by decide +kernel
theorem dL_1691 : decode code 1691 = .ok (.iload_n 3, 1) := by decide +kernel
theorem dL_1692 : decode code 1692 = .ok (.iconst 3, 1) := by decide +kernel
theorem dL_1693 : decode code 1693 = .ok (.iadd, 1) := by decide +kernel
theorem dL_1694 : decode code 1694 = .ok (.iaload, 1) := by decide +kernel
theorem dL_1695 : decode code 1695 = .ok (.aload_n 0, 1) := by decide +kernel
theorem dL_1696 : decode code 1696 = .ok (.iload_n 3, 1) := by decide +kernel
theorem dL_1697 : decode code 1697 = .ok (.iconst 4, 1) := by decide +kernel
theorem dL_1698 : decode code 1698 = .ok (.iadd, 1) := by decide +kernel
theorem dL_1699 : decode code 1699 = .ok (.iaload, 1) := by decide +kernel
theorem dL_1700 : decode code 1700 = .ok (.aload_n 0, 1) := by decide +kernel
theorem dL_1701 : decode code 1701 = .ok (.iload_n 3, 1) := by decide +kernel
theorem dL_1702 : decode code 1702 = .ok (.iconst 5, 1) := by decide +kernel
theorem dL_1703 : decode code 1703 = .ok (.iadd, 1) := by decide +kernel
theorem dL_1704 : decode code 1704 = .ok (.iaload, 1) := by decide +kernel
theorem dL_1705 : decode code 1705 = .ok (.invokevirtual 168, 3) := by decide +kernel
theorem dL_1708 : decode code 1708 = .ok (.if_icmp .eq 591, 3) := by decide +kernel
theorem dL_1711 : decode code 1711 = .ok (.iconst 0, 1) := by decide +kernel
theorem dL_1712 : decode code 1712 = .ok (.ireturn, 1) := by decide +kernel
theorem dL_1713 : decode code 1713 = .ok (.aload_n 1, 1) := by decide +kernel
theorem dL_1714 : decode code 1714 = .ok (.aload_n 0, 1) := by decide +kernel
theorem dL_1715 : decode code 1715 = .ok (.iload_n 3, 1) := by decide +kernel
theorem dL_1716 : decode code 1716 = .ok (.iconst 1, 1) := by decide +kernel
theorem dL_1717 : decode code 1717 = .ok (.iadd, 1) := by decide +kernel
theorem dL_1718 : decode code 1718 = .ok (.iaload, 1) := by decide +kernel
theorem dL_1719 : decode code 1719 = .ok (.aload_n 0, 1) := by decide +kernel
theorem dL_1720 : decode code 1720 = .ok (.iload_n 3, 1) := by decide +kernel
theorem dL_1721 : decode code 1721 = .ok (.iconst 2, 1) := by decide +kernel
theorem dL_1722 : decode code 1722 = .ok (.iadd, 1) := by decide +kernel
theorem dL_1723 : decode code 1723 = .ok (.iaload, 1) := by decide +kernel
theorem dL_1724 : decode code 1724 = .ok (.aload_n 0, 1) := by decide +kernel
theorem dL_1725 : decode code 1725 = .ok (.iload_n 3, 1) := by decide +kernel
theorem dL_1726 : decode code 1726 = .ok (.iconst 3, 1) := by decide +kernel
theorem dL_1727 : decode code 1727 = .ok (.iadd, 1) := by decide +kernel
theorem dL_1728 : decode code 1728 = .ok (.iaload, 1) := by decide +kernel
theorem dL_1729 : decode code 1729 = .ok (.invokevirtual 169, 3) := by decide +kernel
theorem dL_1732 : decode code 1732 = .ok (.aload_n 2, 1) := by decide +kernel
theorem dL_1733 : decode code 1733 = .ok (.aload_n 0, 1) := by decide +kernel
theorem dL_1734 : decode code 1734 = .ok (.iload_n 3, 1) := by decide +kernel
theorem dL_1735 : decode code 1735 = .ok (.iconst 1, 1) := by decide +kernel
theorem dL_1736 : decode code 1736 = .ok (.iadd, 1) := by decide +kernel
theorem dL_1737 : decode code 1737 = .ok (.iaload, 1) := by decide +kernel
theorem dL_1738 : decode code 1738 = .ok (.aload_n 0, 1) := by decide +kernel
theorem dL_1739 : decode code 1739 = .ok (.iload_n 3, 1) := by decide +kernel
theorem dL_1740 : decode code 1740 = .ok (.iconst 2, 1) := by decide +kernel
theorem dL_1741 : decode code 1741 = .ok (.iadd, 1) := by decide +kernel
theorem dL_1742 : decode code 1742 = .ok (.iaload, 1) := by decide +kernel
theorem dL_1743 : decode code 1743 = .ok (.aload_n 0, 1) := by decide +kernel
theorem dL_1744 : decode code 1744 = .ok (.iload_n 3, 1) := by decide +kernel
theorem dL_1745 : decode code 1745 = .ok (.iconst 3, 1) := by decide +kernel
theorem dL_1746 : decode code 1746 = .ok (.iadd, 1) := by decide +kernel
theorem dL_1747 : decode code 1747 = .ok (.iaload, 1) := by decide +kernel
theorem dL_1748 : decode code 1748 = .ok (.invokevirtual 172, 3) := by decide +kernel
theorem dL_1751 : decode code 1751 = .ok (.if_icmp .eq 548, 3) := by decide +kernel
theorem dL_1754 : decode code 1754 = .ok (.iconst 0, 1) := by decide +kernel
theorem dL_1755 : decode code 1755 = .ok (.ireturn, 1) := by decide +kernel
theorem dL_1756 : decode code 1756 = .ok (.aload_n 1, 1) := by decide +kernel
theorem dL_1757 : decode code 1757 = .ok (.aload_n 0, 1) := by decide +kernel
theorem dL_1758 : decode code 1758 = .ok (.iload_n 3, 1) := by decide +kernel
theorem dL_1759 : decode code 1759 = .ok (.iconst 1, 1) := by decide +kernel
theorem dL_1760 : decode code 1760 = .ok (.iadd, 1) := by decide +kernel
theorem dL_1761 : decode code 1761 = .ok (.iaload, 1) := by decide +kernel
theorem dL_1762 : decode code 1762 = .ok (.invokevirtual 173, 3) := by decide +kernel
theorem dL_1765 : decode code 1765 = .ok (.aload_n 2, 1) := by decide +kernel
