set_option maxRecDepth 512
theorem dL_law_1283 : decode cL_law 1283 = .ok (.aload_n 1, 1) := by decide +kernel
theorem dL_law_1284 : decode cL_law 1284 = .ok (.aload_n 0, 1) := by decide +kernel
theorem dL_law_1285 : decode cL_law 1285 = .ok (.iload 5, 2) := by decide +kernel
theorem dL_law_1287 : decode cL_law 1287 = .ok (.iconst 1, 1) := by decide +kernel
theorem dL_law_1288 : decode cL_law 1288 = .ok (.iadd, 1) := by decide +kernel
theorem dL_law_1289 : decode cL_law 1289 = .ok (.iaload, 1) := by decide +kernel
theorem dL_law_1290 : decode cL_law 1290 = .ok (.aload_n 3, 1) := by decide +kernel
theorem dL_law_1291 : decode cL_law 1291 = .ok (.invokestatic 214, 3) := by decide +kernel
theorem dL_law_1294 : decode cL_law 1294 = .ok (.istore 6, 2) := by decide +kernel
theorem dL_law_1296 : decode cL_law 1296 = .ok (.aload_n 2, 1) := by decide +kernel
theorem dL_law_1297 : decode cL_law 1297 = .ok (.aload_n 0, 1) := by decide +kernel
theorem dL_law_1298 : decode cL_law 1298 = .ok (.iload 5, 2) := by decide +kernel
theorem dL_law_1300 : decode cL_law 1300 = .ok (.iconst 1, 1) := by decide +kernel
theorem dL_law_1301 : decode cL_law 1301 = .ok (.iadd, 1) := by decide +kernel
theorem dL_law_1302 : decode cL_law 1302 = .ok (.iaload, 1) := by decide +kernel
theorem dL_law_1303 : decode cL_law 1303 = .ok (.invokevirtual 216, 3) := by decide +kernel
theorem dL_law_1306 : decode cL_law 1306 = .ok (.istore 7, 2) := by decide +kernel
theorem dL_law_1308 : decode cL_law 1308 = .ok (.aload_n 2, 1) := by decide +kernel
theorem dL_law_1309 : decode cL_law 1309 = .ok (.invokevirtual 145, 3) := by decide +kernel
theorem dL_law_1312 : decode cL_law 1312 = .ok (.iload 6, 2) := by decide +kernel
theorem dL_law_1314 : decode cL_law 1314 = .ok (.if_icmp .eq 5, 3) := by decide +kernel
theorem dL_law_1319 : decode cL_law 1319 = .ok (.iload 6, 2) := by decide +kernel
theorem dL_law_1321 : decode cL_law 1321 = .ok (.ifCond .ne 15, 3) := by decide +kernel
theorem dL_law_1324 : decode cL_law 1324 = .ok (.aload_n 3, 1) := by decide +kernel
theorem dL_law_1325 : decode cL_law 1325 = .ok (.iconst 0, 1) := by decide +kernel
theorem dL_law_1326 : decode cL_law 1326 = .ok (.laload, 1) := by decide +kernel
theorem dL_law_1327 : decode cL_law 1327 = .ok (.iload 7, 2) := by decide +kernel
theorem dL_law_1329 : decode cL_law 1329 = .ok (.i2l, 1) := by decide +kernel
theorem dL_law_1330 : decode cL_law 1330 = .ok (.lcmp, 1) := by decide +kernel
theorem dL_law_1331 : decode cL_law 1331 = .ok (.ifCond .eq 5, 3) := by decide +kernel
theorem dL_law_1336 : decode cL_law 1336 = .ok (.goto 1454, 3) := by decide +kernel
theorem dL_law_1339 : decode cL_law 1339 = .ok (.aload_n 1, 1) := by decide +kernel
theorem dL_law_1340 : decode cL_law 1340 = .ok (.invokevirtual 217, 3) := by decide +kernel
theorem dL_law_1343 : decode cL_law 1343 = .ok (.aload_n 2, 1) := by decide +kernel
theorem dL_law_1344 : decode cL_law 1344 = .ok (.invokevirtual 220, 3) := by decide +kernel
theorem dL_law_1347 : decode cL_law 1347 = .ok (.if_icmp .eq 1443, 3) := by decide +kernel
theorem dL_law_1352 : decode cL_law 1352 = .ok (.aload_n 1, 1) := by decide +kernel
theorem dL_law_1353 : decode cL_law 1353 = .ok (.aload_n 0, 1) := by decide +kernel
theorem dL_law_1354 : decode cL_law 1354 = .ok (.iload 5, 2) := by decide +kernel
theorem dL_law_1356 : decode cL_law 1356 = .ok (.iconst 1, 1) := by decide +kernel
theorem dL_law_1357 : decode cL_law 1357 = .ok (.iadd, 1) := by decide +kernel
theorem dL_law_1358 : decode cL_law 1358 = .ok (.iaload, 1) := by decide +kernel
theorem dL_law_1359 : decode cL_law 1359 = .ok (.aload_n 3, 1) := by decide +kernel
theorem dL_law_1360 : decode cL_law 1360 = .ok (.invokestatic 221, 3) := by decide +kernel
theorem dL_law_1363 : decode cL_law 1363 = .ok (.istore 6, 2) := by decide +kernel
theorem dL_law_1365 : decode cL_law 1365 = .ok (.aload_n 2, 1) := by decide +kernel
theorem dL_law_1366 : decode cL_law 1366 = .ok (.aload_n 0, 1) := by decide +kernel
theorem dL_law_1367 : decode cL_law 1367 = .ok (.iload 5, 2) := by decide +kernel
theorem dL_law_1369 : decode cL_law 1369 = .ok (.iconst 1, 1) := by decide +kernel
theorem dL_law_1370 : decode cL_law 1370 = .ok (.iadd, 1) := by decide +kernel
theorem dL_law_1371 : decode cL_law 1371 = .ok (.iaload, 1) := by decide +kernel
theorem dL_law_1372 : decode cL_law 1372 = .ok (.invokevirtual 223, 3) := by decide +kernel
theorem dL_law_1375 : decode cL_law 1375 = .ok (.istore 7, 2) := by decide +kernel
theorem dL_law_1377 : decode cL_law 1377 = .ok (.aload_n 2, 1) := by decide +kernel
theorem dL_law_1378 : decode cL_law 1378 = .ok (.invokevirtual 145, 3) := by decide +kernel
theorem dL_law_1381 : decode cL_law 1381 = .ok (.iload 6, 2) := by decide +kernel
theorem dL_law_1383 : decode cL_law 1383 = .ok (.if_icmp .eq 5, 3) := by decide +kernel
theorem dL_law_1388 : decode cL_law 1388 = .ok (.iload 6, 2) := by decide +kernel
theorem dL_law_1390 : decode cL_law 1390 = .ok (.ifCond .ne 15, 3) := by decide +kernel
theorem dL_law_1393 : decode cL_law 1393 = .ok (.aload_n 3, 1) := by decide +kernel
theorem dL_law_1394 : decode cL_law 1394 = .ok (.iconst 0, 1) := by decide +kernel
theorem dL_law_1395 : decode cL_law 1395 = .ok (.laload, 1) := by decide +kernel
theorem dL_law_1396 : decode cL_law 1396 = .ok (.iload 7, 2) := by decide +kernel
theorem dL_law_1398 : decode cL_law 1398 = .ok (.i2l, 1) := by decide +kernel
theorem dL_law_1399 : decode cL_law 1399 = .ok (.lcmp, 1) := by decide +kernel
theorem dL_law_1400 : decode cL_law 1400 = .ok (.ifCond .eq 5, 3) := by decide +kernel
theorem dL_law_1405 : decode cL_law 1405 = .ok (.goto 1385, 3) := by decide +kernel
theorem dL_law_1408 : decode cL_law 1408 = .ok (.aload_n 1, 1) := by decide +kernel
theorem dL_law_1409 : decode cL_law 1409 = .ok (.aload_n 0, 1) := by decide +kernel
theorem dL_law_1410 : decode cL_law 1410 = .ok (.iload 5, 2) := by decide +kernel
theorem dL_law_1412 : decode cL_law 1412 = .ok (.iconst 1, 1) := by decide +kernel
theorem dL_law_1413 : decode cL_law 1413 = .ok (.iadd, 1) := by decide +kernel
theorem dL_law_1414 : decode cL_law 1414 = .ok (.iaload, 1) := by decide +kernel
theorem dL_law_1415 : decode cL_law 1415 = .ok (.aload_n 3, 1) := by decide +kernel
theorem dL_law_1416 : decode cL_law 1416 = .ok (.invokestatic 224, 3) := by decide +kernel
theorem dL_law_1419 : decode cL_law 1419 = .ok (.istore 6, 2) := by decide +kernel
theorem dL_law_1421 : decode cL_law 1421 = .ok (.aload_n 2, 1) := by decide +kernel
theorem dL_law_1422 : decode cL_law 1422 = .ok (.aload_n 0, 1) := by decide +kernel
theorem dL_law_1423 : decode cL_law 1423 = .ok (.iload 5, 2) := by decide +kernel
theorem dL_law_1425 : decode cL_law 1425 = .ok (.iconst 1, 1) := by decide +kernel
theorem dL_law_1426 : decode cL_law 1426 = .ok (.iadd, 1) := by decide +kernel
theorem dL_law_1427 : decode cL_law 1427 = .ok (.iaload, 1) := by decide +kernel
theorem dL_law_1428 : decode cL_law 1428 = .ok (.invokevirtual 226, 3) := by decide +kernel
theorem dL_law_1431 : decode cL_law 1431 = .ok (.istore 7, 2) := by decide +kernel
theorem dL_law_1433 : decode cL_law 1433 = .ok (.aload_n 2, 1) := by decide +kernel
theorem dL_law_1434 : decode cL_law 1434 = .ok (.invokevirtual 145, 3) := by decide +kernel
theorem dL_law_1437 : decode cL_law 1437 = .ok (.iload 6, 2) := by decide +kernel
theorem dL_law_1439 : decode cL_law 1439 = .ok (.if_icmp .eq 5, 3) := by decide +kernel
theorem dL_law_1444 : decode cL_law 1444 = .ok (.iload 6, 2) := by decide +kernel
theorem dL_law_1446 : decode cL_law 1446 = .ok (.ifCond .ne 15, 3) := by decide +kernel
theorem dL_law_1449 : decode cL_law 1449 = .ok (.aload_n 3, 1) := by decide +kernel
theorem dL_law_1450 : decode cL_law 1450 = .ok (.iconst 0, 1) := by decide +kernel
theorem dL_law_1451 : decode cL_law 1451 = .ok (.laload, 1) := by decide +kernel
theorem dL_law_1452 : decode cL_law 1452 = .ok (.iload 7, 2) := by decide +kernel
theorem dL_law_1454 : decode cL_law 1454 = .ok (.i2l, 1) := by decide +kernel
theorem dL_law_1455 : decode cL_law 1455 = .ok (.lcmp, 1) := by decide +kernel
theorem dL_law_1456 : decode cL_law 1456 = .ok (.ifCond .eq 5, 3) := by decide +kernel
theorem dL_law_1461 : decode cL_law 1461 = .ok (.goto 1329, 3) := by decide +kernel
theorem dL_law_1464 : decode cL_law 1464 = .ok (.aload_n 1, 1) := by decide +kernel
theorem dL_law_1465 : decode cL_law 1465 = .ok (.aload_n 0, 1) := by decide +kernel
theorem dL_law_1466 : decode cL_law 1466 = .ok (.iload 5, 2) := by decide +kernel
theorem dL_law_1468 : decode cL_law 1468 = .ok (.iconst 1, 1) := by decide +kernel
theorem dL_law_1469 : decode cL_law 1469 = .ok (.iadd, 1) := by decide +kernel
theorem dL_law_1470 : decode cL_law 1470 = .ok (.iaload, 1) := by decide +kernel
theorem dL_law_1471 : decode cL_law 1471 = .ok (.aload_n 3, 1) := by decide +kernel
theorem dL_law_1472 : decode cL_law 1472 = .ok (.invokestatic 227, 3) := by decide +kernel
theorem dL_law_1475 : decode cL_law 1475 = .ok (.istore 6, 2) := by decide +kernel
theorem dL_law_1477 : decode cL_law 1477 = .ok (.aload_n 2, 1) := by decide +kernel
theorem dL_law_1478 : decode cL_law 1478 = .ok (.aload_n 0, 1) := by decide +kernel
theorem dL_law_1479 : decode cL_law 1479 = .ok (.iload 5, 2) := by decide +kernel
theorem dL_law_1481 : decode cL_law 1481 = .ok (.iconst 1, 1) := by decide +kernel
theorem dL_law_1482 : decode cL_law 1482 = .ok (.iadd, 1) := by decide +kernel
theorem dL_law_1483 : decode cL_law 1483 = .ok (.iaload, 1) := by decide +kernel
theorem dL_law_1484 : decode cL_law 1484 = .ok (.invokevirtual 229, 3) := by decide +kernel
theorem dL_law_1487 : decode cL_law 1487 = .ok (.istore 7, 2) := by decide +kernel
theorem dL_law_1489 : decode cL_law 1489 = .ok (.aload_n 2, 1) := by decide +kernel
theorem dL_law_1490 : decode cL_law 1490 = .ok (.invokevirtual 145, 3) := by decide +kernel
theorem dL_law_1493 : decode cL_law 1493 = .ok (.iload 6, 2) := by decide +kernel
theorem dL_law_1495 : decode cL_law 1495 = .ok (.if_icmp .eq 5, 3) := by decide +kernel
theorem dL_law_1500 : decode cL_law 1500 = .ok (.iload 6, 2) := by decide +kernel
theorem dL_law_1502 : decode cL_law 1502 = .ok (.ifCond .ne 15, 3) := by decide +kernel
theorem dL_law_1505 : decode cL_law 1505 = .ok (.aload_n 3, 1) := by decide +kernel
theorem dL_law_1506 : decode cL_law 1506 = .ok (.iconst 0, 1) := by decide +kernel
theorem dL_law_1507 : decode cL_law 1507 = .ok (.laload, 1) := by decide +kernel
theorem dL_law_1508 : decode cL_law 1508 = .ok (.iload 7, 2) := by decide +kernel
theorem dL_law_1510 : decode cL_law 1510 = .ok (.i2l, 1) := by decide +kernel
theorem dL_law_1511 : decode cL_law 1511 = .ok (.lcmp, 1) := by decide +kernel
theorem dL_law_1512 : decode cL_law 1512 = .ok (.ifCond .eq 5, 3) := by decide +kernel
theorem dL_law_1517 : decode cL_law 1517 = .ok (.goto 1273, 3) := by decide +kernel
theorem dL_law_1520 : decode cL_law 1520 = .ok (.aload_n 1, 1) := by decide +kernel
theorem dL_law_1521 : decode cL_law 1521 = .ok (.aload_n 0, 1) := by decide +kernel
theorem dL_law_1522 : decode cL_law 1522 = .ok (.iload 5, 2) := by decide +kernel
theorem dL_law_1524 : decode cL_law 1524 = .ok (.iconst 1, 1) := by decide +kernel
theorem dL_law_1525 : decode cL_law 1525 = .ok (.iadd, 1) := by decide +kernel
theorem dL_law_1526 : decode cL_law 1526 = .ok (.iaload, 1) := by decide +kernel
theorem dL_law_1527 : decode cL_law 1527 = .ok (.aload_n 3, 1) := by decide +kernel
theorem dL_law_1528 : decode cL_law 1528 = .ok (.invokestatic 230, 3) := by decide +kernel
theorem dL_law_1531 : decode cL_law 1531 = .ok (.istore 6, 2) := by decide +kernel
theorem dL_law_1533 : decode cL_law 1533 = .ok (.aload_n 2, 1) := by decide +kernel
theorem dL_law_1534 : decode cL_law 1534 = .ok (.aload_n 0, 1) := by decide +kernel
theorem dL_law_1535 : decode cL_law 1535 = .ok (.iload 5, 2) := by decide +kernel
theorem dL_law_1537 : decode cL_law 1537 = .ok (.iconst 1, 1) := by decide +kernel
theorem dL_law_1538 : decode cL_law 1538 = .ok (.iadd, 1) := by decide +kernel
theorem dL_law_1539 : decode cL_law 1539 = .ok (.iaload, 1) := by decide +kernel
theorem dL_law_1540 : decode cL_law 1540 = .ok (.invokevirtual 232, 3) := by decide +kernel
theorem dL_law_1543 : decode cL_law 1543 = .ok (.istore 7, 2) := by decide +kernel
theorem dL_law_1545 : decode cL_law 1545 = .ok (.aload_n 2, 1) := by decide +kernel
theorem dL_law_1546 : decode cL_law 1546 = .ok (.invokevirtual 145, 3) := by decide +kernel
theorem dL_law_1549 : decode cL_law 1549 = .ok (.iload 6, 2) := by decide +kernel
theorem dL_law_1551 : decode cL_law 1551 = .ok (.if_icmp .eq 5, 3) := by decide +kernel
theorem dL_law_1556 : decode cL_law 1556 = .ok (.iload 6, 2) := by decide +kernel
theorem dL_law_1558 : decode cL_law 1558 = .ok (.ifCond .ne 15, 3) := by decide +kernel
theorem dL_law_1561 : decode cL_law 1561 = .ok (.aload_n 3, 1) := by decide +kernel
theorem dL_law_1562 : decode cL_law 1562 = .ok (.iconst 0, 1) := by decide +kernel
theorem dL_law_1563 : decode cL_law 1563 = .ok (.laload, 1) := by decide +kernel
theorem dL_law_1564 : decode cL_law 1564 = .ok (.iload 7, 2) := by decide +kernel
theorem dL_law_1566 : decode cL_law 1566 = .ok (.i2l, 1) := by decide +kernel
theorem dL_law_1567 : decode cL_law 1567 = .ok (.lcmp, 1) := by decide +kernel
theorem dL_law_1568 : decode cL_law 1568 = .ok (.ifCond .eq 5, 3) := by decide +kernel
theorem dL_law_1573 : decode cL_law 1573 = .ok (.goto 1217, 3) := by decide +kernel
theorem dL_law_1576 : decode cL_law 1576 = .ok (.aload_n 1, 1) := by decide +kernel
theorem dL_law_1577 : decode cL_law 1577 = .ok (.aload_n 0, 1) := by decide +kernel
theorem dL_law_1578 : decode cL_law 1578 = .ok (.iload 5, 2) := by decide +kernel
theorem dL_law_1580 : decode cL_law 1580 = .ok (.iconst 1, 1) := by decide +kernel
theorem dL_law_1581 : decode cL_law 1581 = .ok (.iadd, 1) := by decide +kernel
theorem dL_law_1582 : decode cL_law 1582 = .ok (.iaload, 1) := by decide +kernel
theorem dL_law_1583 : decode cL_law 1583 = .ok (.aload_n 3, 1) := by decide +kernel
theorem dL_law_1584 : decode cL_law 1584 = .ok (.invokestatic 233, 3) := by decide +kernel
theorem dL_law_1587 : decode cL_law 1587 = .ok (.istore 6, 2) := by decide +kernel
theorem dL_law_1589 : decode cL_law 1589 = .ok (.aload_n 2, 1) := by decide +kernel
theorem dL_law_1590 : decode cL_law 1590 = .ok (.aload_n 0, 1) := by decide +kernel
theorem dL_law_1591 : decode cL_law 1591 = .ok (.iload 5, 2) := by decide +kernel
theorem dL_law_1593 : decode cL_law 1593 = .ok (.iconst 1, 1) := by decide +kernel
theorem dL_law_1594 : decode cL_law 1594 = .ok (.iadd, 1) := by decide +kernel
theorem dL_law_1595 : decode cL_law 1595 = .ok (.iaload, 1) := by decide +kernel
theorem dL_law_1596 : decode cL_law 1596 = .ok (.invokevirtual 235, 3) := by decide +kernel
theorem dL_law_1599 : decode cL_law 1599 = .ok (.istore 7, 2) := by decide +kernel
theorem dL_law_1601 : decode cL_law 1601 = .ok (.aload_n 2, 1) := by decide +kernel
theorem dL_law_1602 : decode cL_law 1602 = .ok (.invokevirtual 145, 3) := by decide +kernel
theorem dL_law_1605 : decode cL_law 1605 = .ok (.iload 6, 2) := by decide +kernel
theorem dL_law_1607 : decode cL_law 1607 = .ok (.if_icmp .eq 5, 3) := by decide +kernel
theorem dL_law_1612 : decode cL_law 1612 = .ok (.iload 6, 2) := by decide +kernel
theorem dL_law_1614 : decode cL_law 1614 = .ok (.ifCond .ne 15, 3) := by decide +kernel
theorem dL_law_1617 : decode cL_law 1617 = .ok (.aload_n 3, 1) := by decide +kernel
theorem dL_law_1618 : decode cL_law 1618 = .ok (.iconst 0, 1) := by decide +kernel
theorem dL_law_1619 : decode cL_law 1619 = .ok (.laload, 1) := by decide +kernel
theorem dL_law_1620 : decode cL_law 1620 = .ok (.iload 7, 2) := by decide +kernel
theorem dL_law_1622 : decode cL_law 1622 = .ok (.i2l, 1) := by decide +kernel
theorem dL_law_1623 : decode cL_law 1623 = .ok (.lcmp, 1) := by decide +kernel
theorem dL_law_1624 : decode cL_law 1624 = .ok (.ifCond .eq 5, 3) := by decide +kernel
theorem dL_law_1629 : decode cL_law 1629 = .ok (.goto 1161, 3) := by decide +kernel
theorem dL_law_1632 : decode cL_law 1632 = .ok (.aload_n 1, 1) := by decide +kernel
theorem dL_law_1633 : decode cL_law 1633 = .ok (.invokevirtual 236, 3) := by decide +kernel
theorem dL_law_1636 : decode cL_law 1636 = .ok (.aload_n 2, 1) := by decide +kernel
theorem dL_law_1637 : decode cL_law 1637 = .ok (.invokevirtual 239, 3) := by decide +kernel
theorem dL_law_1640 : decode cL_law 1640 = .ok (.if_icmp .eq 1150, 3) := by decide +kernel
theorem dL_law_1645 : decode cL_law 1645 = .ok (.aload_n 1, 1) := by decide +kernel
theorem dL_law_1646 : decode cL_law 1646 = .ok (.aload_n 0, 1) := by decide +kernel
theorem dL_law_1647 : decode cL_law 1647 = .ok (.iload 5, 2) := by decide +kernel
theorem dL_law_1649 : decode cL_law 1649 = .ok (.iconst 1, 1) := by decide +kernel
theorem dL_law_1650 : decode cL_law 1650 = .ok (.iadd, 1) := by decide +kernel
theorem dL_law_1651 : decode cL_law 1651 = .ok (.iaload, 1) := by decide +kernel
theorem dL_law_1652 : decode cL_law 1652 = .ok (.ifCond .eq 7, 3) := by decide +kernel
theorem dL_law_1655 : decode cL_law 1655 = .ok (.iconst 1, 1) := by decide +kernel
theorem dL_law_1656 : decode cL_law 1656 = .ok (.goto 4, 3) := by decide +kernel
theorem dL_law_1659 : decode cL_law 1659 = .ok (.iconst 0, 1) := by decide +kernel
theorem dL_law_1660 : decode cL_law 1660 = .ok (.invokevirtual 240, 3) := by decide +kernel
theorem dL_law_1663 : decode cL_law 1663 = .ok (.aload_n 2, 1) := by decide +kernel
theorem dL_law_1664 : decode cL_law 1664 = .ok (.aload_n 0, 1) := by decide +kernel
theorem dL_law_1665 : decode cL_law 1665 = .ok (.iload 5, 2) := by decide +kernel
theorem dL_law_1667 : decode cL_law 1667 = .ok (.iconst 1, 1) := by decide +kernel
theorem dL_law_1668 : decode cL_law 1668 = .ok (.iadd, 1) := by decide +kernel
theorem dL_law_1669 : decode cL_law 1669 = .ok (.iaload, 1) := by decide +kernel
theorem dL_law_1670 : decode cL_law 1670 = .ok (.ifCond .eq 7, 3) := by decide +kernel
theorem dL_law_1673 : decode cL_law 1673 = .ok (.iconst 1, 1) := by decide +kernel
theorem dL_law_1674 : decode cL_law 1674 = .ok (.goto 4, 3) := by decide +kernel
theorem dL_law_1677 : decode cL_law 1677 = .ok (.iconst 0, 1) := by decide +kernel
theorem dL_law_1678 : decode cL_law 1678 = .ok (.invokevirtual 244, 3) := by decide +kernel
theorem dL_law_1681 : decode cL_law 1681 = .ok (.if_icmp .eq 1109, 3) := by decide +kernel
theorem dL_law_1686 : decode cL_law 1686 = .ok (.aload_n 1, 1) := by decide +kernel
theorem dL_law_1687 : decode cL_law 1687 = .ok (.invokevirtual 245, 3) := by decide +kernel
theorem dL_law_1690 : decode cL_law 1690 = .ok (.aload_n 2, 1) := by decide +kernel
theorem dL_law_1691 : decode cL_law 1691 = .ok (.invokevirtual 248, 3) := by decide +kernel
theorem dL_law_1694 : decode cL_law 1694 = .ok (.if_icmp .eq 1096, 3) := by decide +kernel
theorem tl_L_214 : Cond.methodLink RL 214 yL_remove ∈ TMW := tm_in 1071 (by decide +kernel) (by decide +kernel)
theorem tst_L_remove : Cond.static yL_remove ∈ TMW := tm_in 1072 (by decide +kernel) (by decide +kernel)
theorem tc_L_remove : Cond.codeWith yL_remove cL_remove 4 (some .int) [(0, 9, 12, 28)] ∈ TMW := tm_in 1073 (by decide +kernel) (by decide +kernel)
theorem tl_L_216 : Cond.methodLink RL 216 yX8_remove ∈ TMW := tm_in 1840 (by decide +kernel) (by decide +kernel)
theorem ti_X8_remove : Cond.instanceMethod yX8_remove ∈ TMW := tm_in 1841 (by decide +kernel) (by decide +kernel)
theorem ts_X8_remove : Cond.selects RX8 yX8_remove yX8_remove ∈ TMW := tm_in 1842 (by decide +kernel) (by decide +kernel)
theorem tc_X8_remove : Cond.code yX8_remove cX8_remove 2 (some .int) ∈ TMW := tm_in 1843 (by decide +kernel) (by decide +kernel)
theorem tl_L_217 : Cond.methodLink RL 217 yX7_begin ∈ TMW := tm_in 762 (by decide +kernel) (by decide +kernel)
theorem ti_X7_begin : Cond.instanceMethod yX7_begin ∈ TMW := tm_in 763 (by decide +kernel) (by decide +kernel)
theorem ts_X7_begin : Cond.selects RX7 yX7_begin yX7_begin ∈ TMW := tm_in 764 (by decide +kernel) (by decide +kernel)
theorem tc_X7_begin : Cond.code yX7_begin cX7_begin 1 (some .int) ∈ TMW := tm_in 765 (by decide +kernel) (by decide +kernel)
theorem tl_L_220 : Cond.methodLink RL 220 yX8_begin ∈ TMW := tm_in 1848 (by decide +kernel) (by decide +kernel)
theorem tl_L_221 : Cond.methodLink RL 221 yL_copy ∈ TMW := tm_in 1078 (by decide +kernel) (by decide +kernel)
theorem tst_L_copy : Cond.static yL_copy ∈ TMW := tm_in 1079 (by decide +kernel) (by decide +kernel)
theorem tc_L_copy : Cond.codeWith yL_copy cL_copy 4 (some .int) [(0, 9, 12, 18)] ∈ TMW := tm_in 1080 (by decide +kernel) (by decide +kernel)
theorem tl_L_223 : Cond.methodLink RL 223 yX8_copy ∈ TMW := tm_in 1868 (by decide +kernel) (by decide +kernel)
theorem ti_X8_copy : Cond.instanceMethod yX8_copy ∈ TMW := tm_in 1869 (by decide +kernel) (by decide +kernel)
theorem ts_X8_copy : Cond.selects RX8 yX8_copy yX8_copy ∈ TMW := tm_in 1870 (by decide +kernel) (by decide +kernel)
theorem tc_X8_copy : Cond.code yX8_copy cX8_copy 2 (some .int) ∈ TMW := tm_in 1871 (by decide +kernel) (by decide +kernel)
theorem tl_L_224 : Cond.methodLink RL 224 yL_repair ∈ TMW := tm_in 1085 (by decide +kernel) (by decide +kernel)
theorem tst_L_repair : Cond.static yL_repair ∈ TMW := tm_in 1086 (by decide +kernel) (by decide +kernel)
theorem tc_L_repair : Cond.codeWith yL_repair cL_repair 4 (some .int) [(0, 9, 12, 18)] ∈ TMW := tm_in 1087 (by decide +kernel) (by decide +kernel)
theorem tl_L_226 : Cond.methodLink RL 226 yX8_repair ∈ TMW := tm_in 1883 (by decide +kernel) (by decide +kernel)
theorem ti_X8_repair : Cond.instanceMethod yX8_repair ∈ TMW := tm_in 1884 (by decide +kernel) (by decide +kernel)
theorem ts_X8_repair : Cond.selects RX8 yX8_repair yX8_repair ∈ TMW := tm_in 1885 (by decide +kernel) (by decide +kernel)
theorem tc_X8_repair : Cond.code yX8_repair cX8_repair 2 (some .int) ∈ TMW := tm_in 1886 (by decide +kernel) (by decide +kernel)
theorem tl_L_227 : Cond.methodLink RL 227 yL_check ∈ TMW := tm_in 1092 (by decide +kernel) (by decide +kernel)
theorem tst_L_check : Cond.static yL_check ∈ TMW := tm_in 1093 (by decide +kernel) (by decide +kernel)
theorem tc_L_check : Cond.codeWith yL_check cL_check 4 (some .int) [(0, 9, 12, 28)] ∈ TMW := tm_in 1094 (by decide +kernel) (by decide +kernel)
theorem tl_L_229 : Cond.methodLink RL 229 yX8_check ∈ TMW := tm_in 1895 (by decide +kernel) (by decide +kernel)
theorem ti_X8_check : Cond.instanceMethod yX8_check ∈ TMW := tm_in 1896 (by decide +kernel) (by decide +kernel)
theorem ts_X8_check : Cond.selects RX8 yX8_check yX8_check ∈ TMW := tm_in 1897 (by decide +kernel) (by decide +kernel)
theorem tc_X8_check : Cond.code yX8_check cX8_check 2 (some .int) ∈ TMW := tm_in 1898 (by decide +kernel) (by decide +kernel)
theorem tl_L_230 : Cond.methodLink RL 230 yL_switchOver ∈ TMW := tm_in 1099 (by decide +kernel) (by decide +kernel)
theorem tst_L_switchOver : Cond.static yL_switchOver ∈ TMW := tm_in 1100 (by decide +kernel) (by decide +kernel)
theorem tc_L_switchOver : Cond.codeWith yL_switchOver cL_switchOver 4 (some .int) [(0, 9, 12, 28)] ∈ TMW := tm_in 1101 (by decide +kernel) (by decide +kernel)
theorem tl_L_232 : Cond.methodLink RL 232 yX8_switchOver ∈ TMW := tm_in 1907 (by decide +kernel) (by decide +kernel)
theorem ti_X8_switchOver : Cond.instanceMethod yX8_switchOver ∈ TMW := tm_in 1908 (by decide +kernel) (by decide +kernel)
theorem ts_X8_switchOver : Cond.selects RX8 yX8_switchOver yX8_switchOver ∈ TMW := tm_in 1909 (by decide +kernel) (by decide +kernel)
theorem tc_X8_switchOver : Cond.code yX8_switchOver cX8_switchOver 2 (some .int) ∈ TMW := tm_in 1910 (by decide +kernel) (by decide +kernel)
theorem tl_L_233 : Cond.methodLink RL 233 yL_switchBack ∈ TMW := tm_in 1106 (by decide +kernel) (by decide +kernel)
theorem tst_L_switchBack : Cond.static yL_switchBack ∈ TMW := tm_in 1107 (by decide +kernel) (by decide +kernel)
theorem tc_L_switchBack : Cond.codeWith yL_switchBack cL_switchBack 4 (some .int) [(0, 9, 12, 28)] ∈ TMW := tm_in 1108 (by decide +kernel) (by decide +kernel)
theorem tl_L_235 : Cond.methodLink RL 235 yX8_switchBack ∈ TMW := tm_in 1919 (by decide +kernel) (by decide +kernel)
theorem ti_X8_switchBack : Cond.instanceMethod yX8_switchBack ∈ TMW := tm_in 1920 (by decide +kernel) (by decide +kernel)
theorem ts_X8_switchBack : Cond.selects RX8 yX8_switchBack yX8_switchBack ∈ TMW := tm_in 1921 (by decide +kernel) (by decide +kernel)
theorem tc_X8_switchBack : Cond.code yX8_switchBack cX8_switchBack 2 (some .int) ∈ TMW := tm_in 1922 (by decide +kernel) (by decide +kernel)
theorem tl_L_236 : Cond.methodLink RL 236 yX7_lead ∈ TMW := tm_in 766 (by decide +kernel) (by decide +kernel)
theorem ti_X7_lead : Cond.instanceMethod yX7_lead ∈ TMW := tm_in 767 (by decide +kernel) (by decide +kernel)
theorem ts_X7_lead : Cond.selects RX7 yX7_lead yX7_lead ∈ TMW := tm_in 768 (by decide +kernel) (by decide +kernel)
theorem tc_X7_lead : Cond.code yX7_lead cX7_lead 1 (some .int) ∈ TMW := tm_in 769 (by decide +kernel) (by decide +kernel)
theorem tl_L_239 : Cond.methodLink RL 239 yX8_lead ∈ TMW := tm_in 1931 (by decide +kernel) (by decide +kernel)
theorem tl_L_240 : Cond.methodLink RL 240 yX7_goBack ∈ TMW := tm_in 770 (by decide +kernel) (by decide +kernel)
theorem ti_X7_goBack : Cond.instanceMethod yX7_goBack ∈ TMW := tm_in 771 (by decide +kernel) (by decide +kernel)
theorem ts_X7_goBack : Cond.selects RX7 yX7_goBack yX7_goBack ∈ TMW := tm_in 772 (by decide +kernel) (by decide +kernel)
theorem tc_X7_goBack : Cond.code yX7_goBack cX7_goBack 2 (some .int) ∈ TMW := tm_in 773 (by decide +kernel) (by decide +kernel)
theorem tl_L_244 : Cond.methodLink RL 244 yX8_goBack ∈ TMW := tm_in 1943 (by decide +kernel) (by decide +kernel)
theorem ti_X8_goBack : Cond.instanceMethod yX8_goBack ∈ TMW := tm_in 1944 (by decide +kernel) (by decide +kernel)
theorem ts_X8_goBack : Cond.selects RX8 yX8_goBack yX8_goBack ∈ TMW := tm_in 1945 (by decide +kernel) (by decide +kernel)
theorem tc_X8_goBack : Cond.code yX8_goBack cX8_goBack 2 (some .int) ∈ TMW := tm_in 1946 (by decide +kernel) (by decide +kernel)
theorem tl_L_245 : Cond.methodLink RL 245 yX7_stop ∈ TMW := tm_in 774 (by decide +kernel) (by decide +kernel)
theorem ti_X7_stop : Cond.instanceMethod yX7_stop ∈ TMW := tm_in 775 (by decide +kernel) (by decide +kernel)
theorem ts_X7_stop : Cond.selects RX7 yX7_stop yX7_stop ∈ TMW := tm_in 776 (by decide +kernel) (by decide +kernel)
theorem tc_X7_stop : Cond.code yX7_stop cX7_stop 1 (some .int) ∈ TMW := tm_in 777 (by decide +kernel) (by decide +kernel)
theorem tl_L_248 : Cond.methodLink RL 248 yX8_stop ∈ TMW := tm_in 1955 (by decide +kernel) (by decide +kernel)
-- ----- case 20: remove
set_option maxRecDepth 100000 in
theorem law_case_20 {p : Program} {l : Launch} {e : Env} {s : State} {m : MethodId} {args : Array Value} {below : List Frame} {meth : Method} {c : Code} {A : Nat → Prop} {D : va_G} {cy : Nat → ClassId} {ad ar : Nat → Nat} {o1 o2 : Nat} {cL cD : ClassId} {adK adV adE : Nat → Nat} {tC : Nat} {Q : State → Prop} {rt : Option FieldType} {cells slots b i L : Nat} {xs : Nat → Int32} {Rel Rel2 : tmM → List Int32 → tmM → Prop} (hl : l.stackTraces = false) (hp : tP_remove Rel Rel2) (hX : va_X b L xs s s.heap) (hbl : b < s.heap.size) (hbA : ¬ A b) (hi : i + 5 ≤ L ∧ L ≤ 2560) (hE : tmSc adK adV adE tC A s s.heap) (hTh : tmTh A s s.heap) (hF : tlF D cy cL cD s) (hcs : cells + 64 ≤ 601024 ∧ slots + 8000 ≤ 7293034) {κ b0 : Nat} {u v w : tmM} {bs : List Int32} {xo : Int64} {xd : UInt64} (C0 : tmC p s m args meth c cL_law 10 rt RL TMW tm_NWC D cy tm_s0 tm_a0 0 (tlW cy ad ar o1 o2 cL cD κ b0 u v w xo xd) A) (hT : tmTx κ u bs) (hR : Rel v bs w) (cont : ∀ (κ b0 : Nat) (u v w : tmM) (bs : List Int32) (xo : Int64) (xd : UInt64), tmC p s m args meth c cL_law 10 rt RL TMW tm_NWC D cy tm_s0 tm_a0 0 (tlW cy ad ar o1 o2 cL cD κ b0 u v w xo xd) A → tmTx κ u bs → Rel2 v bs w → tmG p l e room_1 s m args below meth c (cells + 64) (slots + 8000) Q 10 D cy tm_s0 tm_a0 0 (tlW cy ad ar o1 o2 cL cD κ b0 u v w xo xd) A () 2790 [(0, .ref b), (1, .ref (ad 247)), (2, .ref (ar 0)), (3, .ref o1), (4, .ref o2), (5, .int (nI i))] [] tm_v0 (some ())) : tmG p l e room_1 s m args below meth c (cells) (slots) Q 10 D cy tm_s0 tm_a0 0 (tlW cy ad ar o1 o2 cL cD κ b0 u v w xo xd) A () 1283 [(0, .ref b), (1, .ref (ad 247)), (2, .ref (ar 0)), (3, .ref o1), (4, .ref o2), (5, .int (nI i))] [] tm_v0 (some ()) := by
  obtain ⟨k, xo', xd', v', bs', r, w1, w2, ho, hr, ht, heq, hR'⟩ := hp (xs (i + 1)) v bs w xo xd hR
  refine tg_aload_n 1 C0 dL_law_1283 rfl rfl ?_
  refine tg_aload_n 0 C0 dL_law_1284 rfl rfl ?_
  refine tg_iload 5 C0 dL_law_1285 rfl ?_
  refine tg_iconst (x := nI 1) C0 dL_law_1287 (by decide) ?_
  refine tg_iadd C0 dL_law_1288 ?_
  rw [tl_add i 1]
  refine tl_sld C0 hX hbl hbA (tl_idx (by omega) hi.2) dL_law_1289 ?_
  rw [nI_clamp (show i + 1 < 2147483648 by omega)]
  refine tg_aload_n 3 C0 dL_law_1290 rfl rfl ?_
  refine tl_callS (st := []) (st0 := _) (xo' := xo') (xd' := xd') (v' := v') (bs' := bs') 3 C0 hE hTh hF hT dL_law_1291 (cL_c_remove l hl (xs (i + 1)) v bs) ho rfl (tl_gS2 tl_L_214 tst_L_remove tn_L tc_L_remove) rfl rfl rfl rfl (by decide +kernel) ⟨Nat.le_of_ble_eq_true rfl, Nat.le_of_ble_eq_true rfl⟩ (Nat.le_of_ble_eq_true rfl) ⟨by show _ ≤ 601024; omega, by show _ ≤ 7293034; omega⟩ (fun κ b0 u hT C0 => ?_)
  refine tg_istore [(6, .int k), (0, .ref b), (1, .ref (ad 247)), (2, .ref (ar 0)), (3, .ref o1), (4, .ref o2), (5, .int (nI i))] C0 dL_law_1294 (by decide) rfl ?_
  refine tg_aload_n 3 C0 dL_law_1296 rfl rfl ?_
  refine tg_aload_n 1 C0 dL_law_1297 rfl rfl ?_
  refine tg_iload 6 C0 dL_law_1298 rfl ?_
  refine tg_iconst (x := nI 1) C0 dL_law_1300 (by decide) ?_
  refine tg_iadd C0 dL_law_1301 ?_
  rw [tl_add i 1]
  refine tl_sld C0 hX hbl hbA (tl_idx (by omega) hi.2) dL_law_1302 ?_
  rw [nI_clamp (show i + 1 < 2147483648 by omega)]
  refine tl_mi (X' := tlW cy ad ar o1 o2 cL cD κ b0 u v' w1 xo' xd') (NW1 := tm_NWR) (pre := (tm_w cy tm_shC ad 256 v' ++ tmXB cy (ad 256) κ b0 u)) (suf := tlO o1 o2 cL cD xo' xd') (sh := tm_shR) (n := 13) (ad := ar) (As := [.int (xs (i + 1))]) (fs := [none, some 1, some 2, none, some 3, some 4, some 5, none, none, none, none, none, some 6, none, some 7, some 8, none, none, none, none, none, none, none, some 9, none, some 10, some 11, some 12]) 0 1 C0 rfl rfl (fun _ _ _ h => by cases h) rfl dL_law_1303 (c_X8_remove l (xs (i + 1)) _) hr rfl rfl (by decide) rfl rfl (tm_gV tl_L_216 ti_X8_remove ts_X8_remove tn_X8 tc_X8_remove) rfl rfl rfl rfl (by decide +kernel) ⟨Nat.le_of_ble_eq_true rfl, Nat.le_of_ble_eq_true rfl⟩ (Nat.le_of_ble_eq_true rfl) ⟨by show _ ≤ 601024; omega, by show _ ≤ 7293034; omega⟩ (fun C0 => ?_)
  refine tg_istore [(7, .int r), (6, .int k), (0, .ref b), (1, .ref (ad 247)), (2, .ref (ar 0)), (3, .ref o1), (4, .ref o2), (5, .int (nI i))] C0 dL_law_1306 (by decide) rfl ?_
  refine tg_aload_n 4 C0 dL_law_1308 rfl rfl ?_
  refine tl_mi (X' := tlW cy ad ar o1 o2 cL cD κ b0 u v' w2 xo' xd') (NW1 := tm_NWR) (pre := (tm_w cy tm_shC ad 256 v' ++ tmXB cy (ad 256) κ b0 u)) (suf := tlO o1 o2 cL cD xo' xd') (sh := tm_shR) (n := 13) (ad := ar) (As := []) (fs := [none, some 1, some 2, none, some 3, some 4, some 5, none, none, none, none, none, some 6, none, some 7, some 8, none, none, none, none, none, none, none, some 9, none, some 10, some 11, some 12]) 0 0 C0 rfl rfl (fun _ _ _ h => by cases h) rfl dL_law_1309 (c_X8_thrown l _) ht rfl rfl (by decide) rfl rfl (tm_gV tl_L_145 ti_X8_thrown ts_X8_thrown tn_X8 tc_X8_thrown) rfl rfl rfl rfl (by decide +kernel) ⟨Nat.le_of_ble_eq_true rfl, Nat.le_of_ble_eq_true rfl⟩ (Nat.le_of_ble_eq_true rfl) ⟨by show _ ≤ 601024; omega, by show _ ≤ 7293034; omega⟩ (fun C0 => ?_)
  refine tg_iload 1 C0 dL_law_1312 rfl ?_
  refine tg_eq (r := if k = k then some () else none) (by rw [if_pos rfl]) ?_
  refine tg_icmp_eq 1319 C0 dL_law_1314 (by decide) (fun _ => ?_) (fun q => absurd rfl q)
  refine tg_iload 1 C0 dL_law_1319 rfl ?_
  refine tg_eq (r := if k = 0 then some () else some ()) (by split <;> rfl) ?_
  refine tg_if_ne 1336 C0 dL_law_1321 (by decide) (fun _ => ?_) (fun hk => ?_)
  · refine tg_goto 2790 C0 dL_law_1336 (by decide) ?_
    refine tg_sub (lv' := [(0, .ref b), (1, .ref (ad 247)), (2, .ref (ar 0)), (3, .ref o1), (4, .ref o2), (5, .int (nI i))]) [2, 3, 4, 5, 6, 7] rfl ?_
    exact tl_widen (by omega) (by omega) (cont _ _ _ _ _ _ _ _ C0 hT hR')
  refine tg_aload_n 5 C0 dL_law_1324 rfl rfl ?_
  refine tg_iconst (x := 0) C0 dL_law_1325 (by decide) ?_
  refine tl_lald C0 hF dL_law_1326 ?_
  refine tg_iload 0 C0 dL_law_1327 rfl ?_
  refine tl_i2l C0 dL_law_1329 ?_
  refine tl_lcmp (heq hk) C0 dL_law_1330 ?_
  refine tg_eq (r := if (0 : Int32) = 0 then some () else none) (by rw [if_pos rfl]) ?_
  refine tg_if_eq 1336 C0 dL_law_1331 (by decide) (fun _ => ?_) (fun q => absurd rfl q)
  refine tg_goto 2790 C0 dL_law_1336 (by decide) ?_
  refine tg_sub (lv' := [(0, .ref b), (1, .ref (ad 247)), (2, .ref (ar 0)), (3, .ref o1), (4, .ref o2), (5, .int (nI i))]) [2, 3, 4, 5, 6, 7] rfl ?_
  exact tl_widen (by omega) (by omega) (cont _ _ _ _ _ _ _ _ C0 hT hR')
-- ----- case 21: begin
set_option maxRecDepth 100000 in
theorem law_case_21 {p : Program} {l : Launch} {e : Env} {s : State} {m : MethodId} {args : Array Value} {below : List Frame} {meth : Method} {c : Code} {A : Nat → Prop} {D : va_G} {cy : Nat → ClassId} {ad ar : Nat → Nat} {o1 o2 : Nat} {cL cD : ClassId} {adK adV adE : Nat → Nat} {tC : Nat} {Q : State → Prop} {rt : Option FieldType} {cells slots b i L : Nat} {xs : Nat → Int32} {Rel Rel2 : tmM → List Int32 → tmM → Prop} (hl : l.stackTraces = false) (hp : tP_begin Rel Rel2) (hX : va_X b L xs s s.heap) (hbl : b < s.heap.size) (hbA : ¬ A b) (hi : i + 5 ≤ L ∧ L ≤ 2560) (hE : tmSc adK adV adE tC A s s.heap) (hTh : tmTh A s s.heap) (hF : tlF D cy cL cD s) (hcs : cells + 64 ≤ 601024 ∧ slots + 8000 ≤ 7293034) {κ b0 : Nat} {u v w : tmM} {bs : List Int32} {xo : Int64} {xd : UInt64} (C0 : tmC p s m args meth c cL_law 10 rt RL TMW tm_NWC D cy tm_s0 tm_a0 0 (tlW cy ad ar o1 o2 cL cD κ b0 u v w xo xd) A) (hT : tmTx κ u bs) (hR : Rel v bs w) (cont : ∀ (κ b0 : Nat) (u v w : tmM) (bs : List Int32) (xo : Int64) (xd : UInt64), tmC p s m args meth c cL_law 10 rt RL TMW tm_NWC D cy tm_s0 tm_a0 0 (tlW cy ad ar o1 o2 cL cD κ b0 u v w xo xd) A → tmTx κ u bs → Rel2 v bs w → tmG p l e room_1 s m args below meth c (cells + 64) (slots + 8000) Q 10 D cy tm_s0 tm_a0 0 (tlW cy ad ar o1 o2 cL cD κ b0 u v w xo xd) A () 2790 [(0, .ref b), (1, .ref (ad 247)), (2, .ref (ar 0)), (3, .ref o1), (4, .ref o2), (5, .int (nI i))] [] tm_v0 (some ())) : tmG p l e room_1 s m args below meth c (cells) (slots) Q 10 D cy tm_s0 tm_a0 0 (tlW cy ad ar o1 o2 cL cD κ b0 u v w xo xd) A () 1339 [(0, .ref b), (1, .ref (ad 247)), (2, .ref (ar 0)), (3, .ref o1), (4, .ref o2), (5, .int (nI i))] [] tm_v0 (some ()) := by
  obtain ⟨r, v', w', ho, hr, hR'⟩ := hp v bs w hR
  refine tg_aload_n 1 C0 dL_law_1339 rfl rfl ?_
  refine tl_mi (X' := tlW cy ad ar o1 o2 cL cD κ b0 u v' w xo xd) (NW1 := tm_NWC) (pre := []) (suf := (tmXB cy (ad 256) κ b0 u ++ (tm_w cy tm_shR ar 13 w ++ tlO o1 o2 cL cD xo xd))) (sh := tm_shC) (n := 256) (ad := ad) (As := []) (fs := [some 0, some 248, none, none, some 249, none, some 250, some 251, some 256]) 247 0 C0 (List.append_assoc _ _ _) (List.append_assoc _ _ _) (fun _ h => h) tm_NWC_ok dL_law_1340 (c_X7_begin l _) ho rfl rfl (by decide) rfl rfl (tm_gV tl_L_217 ti_X7_begin ts_X7_begin tn_X7 tc_X7_begin) rfl rfl rfl rfl (by decide +kernel) ⟨Nat.le_of_ble_eq_true rfl, Nat.le_of_ble_eq_true rfl⟩ (Nat.le_of_ble_eq_true rfl) ⟨by show _ ≤ 601024; omega, by show _ ≤ 7293034; omega⟩ (fun C0 => ?_)
  refine tg_aload_n 2 C0 dL_law_1343 rfl rfl ?_
  refine tl_mi (X' := tlW cy ad ar o1 o2 cL cD κ b0 u v' w' xo xd) (NW1 := tm_NWR) (pre := (tm_w cy tm_shC ad 256 v' ++ tmXB cy (ad 256) κ b0 u)) (suf := tlO o1 o2 cL cD xo xd) (sh := tm_shR) (n := 13) (ad := ar) (As := []) (fs := [none, some 1, some 2, none, some 3, some 4, some 5, none, none, none, none, none, some 6, none, some 7, some 8, none, none, none, none, none, none, none, some 9, none, some 10, some 11, some 12]) 0 0 C0 rfl rfl (fun _ _ _ h => by cases h) rfl dL_law_1344 (c_X8_begin l _) hr rfl rfl (by decide) rfl rfl (tm_gV tl_L_220 ti_X8_begin ts_X8_begin tn_X8 tc_X8_begin) rfl rfl rfl rfl (by decide +kernel) ⟨Nat.le_of_ble_eq_true rfl, Nat.le_of_ble_eq_true rfl⟩ (Nat.le_of_ble_eq_true rfl) ⟨by show _ ≤ 601024; omega, by show _ ≤ 7293034; omega⟩ (fun C0 => ?_)
  refine tg_eq (r := if r = r then some () else none) (by rw [if_pos rfl]) ?_
  refine tg_icmp_eq 2790 C0 dL_law_1347 (by decide) (fun _ => ?_) (fun q => absurd rfl q)
  exact tl_widen (by omega) (by omega) (cont _ _ _ _ _ _ _ _ C0 hT hR')
-- ----- case 22: copy
set_option maxRecDepth 100000 in
theorem law_case_22 {p : Program} {l : Launch} {e : Env} {s : State} {m : MethodId} {args : Array Value} {below : List Frame} {meth : Method} {c : Code} {A : Nat → Prop} {D : va_G} {cy : Nat → ClassId} {ad ar : Nat → Nat} {o1 o2 : Nat} {cL cD : ClassId} {adK adV adE : Nat → Nat} {tC : Nat} {Q : State → Prop} {rt : Option FieldType} {cells slots b i L : Nat} {xs : Nat → Int32} {Rel Rel2 : tmM → List Int32 → tmM → Prop} (hl : l.stackTraces = false) (hp : tP_copy Rel Rel2) (hX : va_X b L xs s s.heap) (hbl : b < s.heap.size) (hbA : ¬ A b) (hi : i + 5 ≤ L ∧ L ≤ 2560) (hE : tmSc adK adV adE tC A s s.heap) (hTh : tmTh A s s.heap) (hF : tlF D cy cL cD s) (hcs : cells + 64 ≤ 601024 ∧ slots + 8000 ≤ 7293034) {κ b0 : Nat} {u v w : tmM} {bs : List Int32} {xo : Int64} {xd : UInt64} (C0 : tmC p s m args meth c cL_law 10 rt RL TMW tm_NWC D cy tm_s0 tm_a0 0 (tlW cy ad ar o1 o2 cL cD κ b0 u v w xo xd) A) (hT : tmTx κ u bs) (hR : Rel v bs w) (cont : ∀ (κ b0 : Nat) (u v w : tmM) (bs : List Int32) (xo : Int64) (xd : UInt64), tmC p s m args meth c cL_law 10 rt RL TMW tm_NWC D cy tm_s0 tm_a0 0 (tlW cy ad ar o1 o2 cL cD κ b0 u v w xo xd) A → tmTx κ u bs → Rel2 v bs w → tmG p l e room_1 s m args below meth c (cells + 64) (slots + 8000) Q 10 D cy tm_s0 tm_a0 0 (tlW cy ad ar o1 o2 cL cD κ b0 u v w xo xd) A () 2790 [(0, .ref b), (1, .ref (ad 247)), (2, .ref (ar 0)), (3, .ref o1), (4, .ref o2), (5, .int (nI i))] [] tm_v0 (some ())) : tmG p l e room_1 s m args below meth c (cells) (slots) Q 10 D cy tm_s0 tm_a0 0 (tlW cy ad ar o1 o2 cL cD κ b0 u v w xo xd) A () 1352 [(0, .ref b), (1, .ref (ad 247)), (2, .ref (ar 0)), (3, .ref o1), (4, .ref o2), (5, .int (nI i))] [] tm_v0 (some ()) := by
  obtain ⟨k, xo', xd', v', bs', r, w1, w2, ho, hr, ht, heq, hR'⟩ := hp (xs (i + 1)) v bs w xo xd hR
  refine tg_aload_n 1 C0 dL_law_1352 rfl rfl ?_
  refine tg_aload_n 0 C0 dL_law_1353 rfl rfl ?_
  refine tg_iload 5 C0 dL_law_1354 rfl ?_
  refine tg_iconst (x := nI 1) C0 dL_law_1356 (by decide) ?_
  refine tg_iadd C0 dL_law_1357 ?_
  rw [tl_add i 1]
  refine tl_sld C0 hX hbl hbA (tl_idx (by omega) hi.2) dL_law_1358 ?_
  rw [nI_clamp (show i + 1 < 2147483648 by omega)]
  refine tg_aload_n 3 C0 dL_law_1359 rfl rfl ?_
  refine tl_callS (st := []) (st0 := _) (xo' := xo') (xd' := xd') (v' := v') (bs' := bs') 3 C0 hE hTh hF hT dL_law_1360 (cL_c_copy l hl (xs (i + 1)) v bs) ho rfl (tl_gS2 tl_L_221 tst_L_copy tn_L tc_L_copy) rfl rfl rfl rfl (by decide +kernel) ⟨Nat.le_of_ble_eq_true rfl, Nat.le_of_ble_eq_true rfl⟩ (Nat.le_of_ble_eq_true rfl) ⟨by show _ ≤ 601024; omega, by show _ ≤ 7293034; omega⟩ (fun κ b0 u hT C0 => ?_)
  refine tg_istore [(6, .int k), (0, .ref b), (1, .ref (ad 247)), (2, .ref (ar 0)), (3, .ref o1), (4, .ref o2), (5, .int (nI i))] C0 dL_law_1363 (by decide) rfl ?_
  refine tg_aload_n 3 C0 dL_law_1365 rfl rfl ?_
  refine tg_aload_n 1 C0 dL_law_1366 rfl rfl ?_
  refine tg_iload 6 C0 dL_law_1367 rfl ?_
  refine tg_iconst (x := nI 1) C0 dL_law_1369 (by decide) ?_
  refine tg_iadd C0 dL_law_1370 ?_
  rw [tl_add i 1]
  refine tl_sld C0 hX hbl hbA (tl_idx (by omega) hi.2) dL_law_1371 ?_
  rw [nI_clamp (show i + 1 < 2147483648 by omega)]
  refine tl_mi (X' := tlW cy ad ar o1 o2 cL cD κ b0 u v' w1 xo' xd') (NW1 := tm_NWR) (pre := (tm_w cy tm_shC ad 256 v' ++ tmXB cy (ad 256) κ b0 u)) (suf := tlO o1 o2 cL cD xo' xd') (sh := tm_shR) (n := 13) (ad := ar) (As := [.int (xs (i + 1))]) (fs := [none, some 1, some 2, none, some 3, some 4, some 5, none, none, none, none, none, some 6, none, some 7, some 8, none, none, none, none, none, none, none, some 9, none, some 10, some 11, some 12]) 0 1 C0 rfl rfl (fun _ _ _ h => by cases h) rfl dL_law_1372 (c_X8_copy l (xs (i + 1)) _) hr rfl rfl (by decide) rfl rfl (tm_gV tl_L_223 ti_X8_copy ts_X8_copy tn_X8 tc_X8_copy) rfl rfl rfl rfl (by decide +kernel) ⟨Nat.le_of_ble_eq_true rfl, Nat.le_of_ble_eq_true rfl⟩ (Nat.le_of_ble_eq_true rfl) ⟨by show _ ≤ 601024; omega, by show _ ≤ 7293034; omega⟩ (fun C0 => ?_)
  refine tg_istore [(7, .int r), (6, .int k), (0, .ref b), (1, .ref (ad 247)), (2, .ref (ar 0)), (3, .ref o1), (4, .ref o2), (5, .int (nI i))] C0 dL_law_1375 (by decide) rfl ?_
  refine tg_aload_n 4 C0 dL_law_1377 rfl rfl ?_
  refine tl_mi (X' := tlW cy ad ar o1 o2 cL cD κ b0 u v' w2 xo' xd') (NW1 := tm_NWR) (pre := (tm_w cy tm_shC ad 256 v' ++ tmXB cy (ad 256) κ b0 u)) (suf := tlO o1 o2 cL cD xo' xd') (sh := tm_shR) (n := 13) (ad := ar) (As := []) (fs := [none, some 1, some 2, none, some 3, some 4, some 5, none, none, none, none, none, some 6, none, some 7, some 8, none, none, none, none, none, none, none, some 9, none, some 10, some 11, some 12]) 0 0 C0 rfl rfl (fun _ _ _ h => by cases h) rfl dL_law_1378 (c_X8_thrown l _) ht rfl rfl (by decide) rfl rfl (tm_gV tl_L_145 ti_X8_thrown ts_X8_thrown tn_X8 tc_X8_thrown) rfl rfl rfl rfl (by decide +kernel) ⟨Nat.le_of_ble_eq_true rfl, Nat.le_of_ble_eq_true rfl⟩ (Nat.le_of_ble_eq_true rfl) ⟨by show _ ≤ 601024; omega, by show _ ≤ 7293034; omega⟩ (fun C0 => ?_)
  refine tg_iload 1 C0 dL_law_1381 rfl ?_
  refine tg_eq (r := if k = k then some () else none) (by rw [if_pos rfl]) ?_
  refine tg_icmp_eq 1388 C0 dL_law_1383 (by decide) (fun _ => ?_) (fun q => absurd rfl q)
  refine tg_iload 1 C0 dL_law_1388 rfl ?_
  refine tg_eq (r := if k = 0 then some () else some ()) (by split <;> rfl) ?_
  refine tg_if_ne 1405 C0 dL_law_1390 (by decide) (fun _ => ?_) (fun hk => ?_)
  · refine tg_goto 2790 C0 dL_law_1405 (by decide) ?_
    refine tg_sub (lv' := [(0, .ref b), (1, .ref (ad 247)), (2, .ref (ar 0)), (3, .ref o1), (4, .ref o2), (5, .int (nI i))]) [2, 3, 4, 5, 6, 7] rfl ?_
    exact tl_widen (by omega) (by omega) (cont _ _ _ _ _ _ _ _ C0 hT hR')
  refine tg_aload_n 5 C0 dL_law_1393 rfl rfl ?_
  refine tg_iconst (x := 0) C0 dL_law_1394 (by decide) ?_
  refine tl_lald C0 hF dL_law_1395 ?_
  refine tg_iload 0 C0 dL_law_1396 rfl ?_
  refine tl_i2l C0 dL_law_1398 ?_
  refine tl_lcmp (heq hk) C0 dL_law_1399 ?_
  refine tg_eq (r := if (0 : Int32) = 0 then some () else none) (by rw [if_pos rfl]) ?_
  refine tg_if_eq 1405 C0 dL_law_1400 (by decide) (fun _ => ?_) (fun q => absurd rfl q)
  refine tg_goto 2790 C0 dL_law_1405 (by decide) ?_
  refine tg_sub (lv' := [(0, .ref b), (1, .ref (ad 247)), (2, .ref (ar 0)), (3, .ref o1), (4, .ref o2), (5, .int (nI i))]) [2, 3, 4, 5, 6, 7] rfl ?_
  exact tl_widen (by omega) (by omega) (cont _ _ _ _ _ _ _ _ C0 hT hR')
-- ----- case 23: repair
set_option maxRecDepth 100000 in
theorem law_case_23 {p : Program} {l : Launch} {e : Env} {s : State} {m : MethodId} {args : Array Value} {below : List Frame} {meth : Method} {c : Code} {A : Nat → Prop} {D : va_G} {cy : Nat → ClassId} {ad ar : Nat → Nat} {o1 o2 : Nat} {cL cD : ClassId} {adK adV adE : Nat → Nat} {tC : Nat} {Q : State → Prop} {rt : Option FieldType} {cells slots b i L : Nat} {xs : Nat → Int32} {Rel Rel2 : tmM → List Int32 → tmM → Prop} (hl : l.stackTraces = false) (hp : tP_repair Rel Rel2) (hX : va_X b L xs s s.heap) (hbl : b < s.heap.size) (hbA : ¬ A b) (hi : i + 5 ≤ L ∧ L ≤ 2560) (hE : tmSc adK adV adE tC A s s.heap) (hTh : tmTh A s s.heap) (hF : tlF D cy cL cD s) (hcs : cells + 64 ≤ 601024 ∧ slots + 8000 ≤ 7293034) {κ b0 : Nat} {u v w : tmM} {bs : List Int32} {xo : Int64} {xd : UInt64} (C0 : tmC p s m args meth c cL_law 10 rt RL TMW tm_NWC D cy tm_s0 tm_a0 0 (tlW cy ad ar o1 o2 cL cD κ b0 u v w xo xd) A) (hT : tmTx κ u bs) (hR : Rel v bs w) (cont : ∀ (κ b0 : Nat) (u v w : tmM) (bs : List Int32) (xo : Int64) (xd : UInt64), tmC p s m args meth c cL_law 10 rt RL TMW tm_NWC D cy tm_s0 tm_a0 0 (tlW cy ad ar o1 o2 cL cD κ b0 u v w xo xd) A → tmTx κ u bs → Rel2 v bs w → tmG p l e room_1 s m args below meth c (cells + 64) (slots + 8000) Q 10 D cy tm_s0 tm_a0 0 (tlW cy ad ar o1 o2 cL cD κ b0 u v w xo xd) A () 2790 [(0, .ref b), (1, .ref (ad 247)), (2, .ref (ar 0)), (3, .ref o1), (4, .ref o2), (5, .int (nI i))] [] tm_v0 (some ())) : tmG p l e room_1 s m args below meth c (cells) (slots) Q 10 D cy tm_s0 tm_a0 0 (tlW cy ad ar o1 o2 cL cD κ b0 u v w xo xd) A () 1408 [(0, .ref b), (1, .ref (ad 247)), (2, .ref (ar 0)), (3, .ref o1), (4, .ref o2), (5, .int (nI i))] [] tm_v0 (some ()) := by
  obtain ⟨k, xo', xd', v', bs', r, w1, w2, ho, hr, ht, heq, hR'⟩ := hp (xs (i + 1)) v bs w xo xd hR
  refine tg_aload_n 1 C0 dL_law_1408 rfl rfl ?_
  refine tg_aload_n 0 C0 dL_law_1409 rfl rfl ?_
  refine tg_iload 5 C0 dL_law_1410 rfl ?_
  refine tg_iconst (x := nI 1) C0 dL_law_1412 (by decide) ?_
  refine tg_iadd C0 dL_law_1413 ?_
  rw [tl_add i 1]
  refine tl_sld C0 hX hbl hbA (tl_idx (by omega) hi.2) dL_law_1414 ?_
  rw [nI_clamp (show i + 1 < 2147483648 by omega)]
  refine tg_aload_n 3 C0 dL_law_1415 rfl rfl ?_
  refine tl_callS (st := []) (st0 := _) (xo' := xo') (xd' := xd') (v' := v') (bs' := bs') 3 C0 hE hTh hF hT dL_law_1416 (cL_c_repair l hl (xs (i + 1)) v bs) ho rfl (tl_gS2 tl_L_224 tst_L_repair tn_L tc_L_repair) rfl rfl rfl rfl (by decide +kernel) ⟨Nat.le_of_ble_eq_true rfl, Nat.le_of_ble_eq_true rfl⟩ (Nat.le_of_ble_eq_true rfl) ⟨by show _ ≤ 601024; omega, by show _ ≤ 7293034; omega⟩ (fun κ b0 u hT C0 => ?_)
  refine tg_istore [(6, .int k), (0, .ref b), (1, .ref (ad 247)), (2, .ref (ar 0)), (3, .ref o1), (4, .ref o2), (5, .int (nI i))] C0 dL_law_1419 (by decide) rfl ?_
  refine tg_aload_n 3 C0 dL_law_1421 rfl rfl ?_
  refine tg_aload_n 1 C0 dL_law_1422 rfl rfl ?_
  refine tg_iload 6 C0 dL_law_1423 rfl ?_
  refine tg_iconst (x := nI 1) C0 dL_law_1425 (by decide) ?_
  refine tg_iadd C0 dL_law_1426 ?_
  rw [tl_add i 1]
  refine tl_sld C0 hX hbl hbA (tl_idx (by omega) hi.2) dL_law_1427 ?_
  rw [nI_clamp (show i + 1 < 2147483648 by omega)]
  refine tl_mi (X' := tlW cy ad ar o1 o2 cL cD κ b0 u v' w1 xo' xd') (NW1 := tm_NWR) (pre := (tm_w cy tm_shC ad 256 v' ++ tmXB cy (ad 256) κ b0 u)) (suf := tlO o1 o2 cL cD xo' xd') (sh := tm_shR) (n := 13) (ad := ar) (As := [.int (xs (i + 1))]) (fs := [none, some 1, some 2, none, some 3, some 4, some 5, none, none, none, none, none, some 6, none, some 7, some 8, none, none, none, none, none, none, none, some 9, none, some 10, some 11, some 12]) 0 1 C0 rfl rfl (fun _ _ _ h => by cases h) rfl dL_law_1428 (c_X8_repair l (xs (i + 1)) _) hr rfl rfl (by decide) rfl rfl (tm_gV tl_L_226 ti_X8_repair ts_X8_repair tn_X8 tc_X8_repair) rfl rfl rfl rfl (by decide +kernel) ⟨Nat.le_of_ble_eq_true rfl, Nat.le_of_ble_eq_true rfl⟩ (Nat.le_of_ble_eq_true rfl) ⟨by show _ ≤ 601024; omega, by show _ ≤ 7293034; omega⟩ (fun C0 => ?_)
  refine tg_istore [(7, .int r), (6, .int k), (0, .ref b), (1, .ref (ad 247)), (2, .ref (ar 0)), (3, .ref o1), (4, .ref o2), (5, .int (nI i))] C0 dL_law_1431 (by decide) rfl ?_
  refine tg_aload_n 4 C0 dL_law_1433 rfl rfl ?_
  refine tl_mi (X' := tlW cy ad ar o1 o2 cL cD κ b0 u v' w2 xo' xd') (NW1 := tm_NWR) (pre := (tm_w cy tm_shC ad 256 v' ++ tmXB cy (ad 256) κ b0 u)) (suf := tlO o1 o2 cL cD xo' xd') (sh := tm_shR) (n := 13) (ad := ar) (As := []) (fs := [none, some 1, some 2, none, some 3, some 4, some 5, none, none, none, none, none, some 6, none, some 7, some 8, none, none, none, none, none, none, none, some 9, none, some 10, some 11, some 12]) 0 0 C0 rfl rfl (fun _ _ _ h => by cases h) rfl dL_law_1434 (c_X8_thrown l _) ht rfl rfl (by decide) rfl rfl (tm_gV tl_L_145 ti_X8_thrown ts_X8_thrown tn_X8 tc_X8_thrown) rfl rfl rfl rfl (by decide +kernel) ⟨Nat.le_of_ble_eq_true rfl, Nat.le_of_ble_eq_true rfl⟩ (Nat.le_of_ble_eq_true rfl) ⟨by show _ ≤ 601024; omega, by show _ ≤ 7293034; omega⟩ (fun C0 => ?_)
  refine tg_iload 1 C0 dL_law_1437 rfl ?_
  refine tg_eq (r := if k = k then some () else none) (by rw [if_pos rfl]) ?_
  refine tg_icmp_eq 1444 C0 dL_law_1439 (by decide) (fun _ => ?_) (fun q => absurd rfl q)
  refine tg_iload 1 C0 dL_law_1444 rfl ?_
  refine tg_eq (r := if k = 0 then some () else some ()) (by split <;> rfl) ?_
  refine tg_if_ne 1461 C0 dL_law_1446 (by decide) (fun _ => ?_) (fun hk => ?_)
  · refine tg_goto 2790 C0 dL_law_1461 (by decide) ?_
    refine tg_sub (lv' := [(0, .ref b), (1, .ref (ad 247)), (2, .ref (ar 0)), (3, .ref o1), (4, .ref o2), (5, .int (nI i))]) [2, 3, 4, 5, 6, 7] rfl ?_
    exact tl_widen (by omega) (by omega) (cont _ _ _ _ _ _ _ _ C0 hT hR')
  refine tg_aload_n 5 C0 dL_law_1449 rfl rfl ?_
  refine tg_iconst (x := 0) C0 dL_law_1450 (by decide) ?_
  refine tl_lald C0 hF dL_law_1451 ?_
  refine tg_iload 0 C0 dL_law_1452 rfl ?_
  refine tl_i2l C0 dL_law_1454 ?_
  refine tl_lcmp (heq hk) C0 dL_law_1455 ?_
  refine tg_eq (r := if (0 : Int32) = 0 then some () else none) (by rw [if_pos rfl]) ?_
  refine tg_if_eq 1461 C0 dL_law_1456 (by decide) (fun _ => ?_) (fun q => absurd rfl q)
  refine tg_goto 2790 C0 dL_law_1461 (by decide) ?_
  refine tg_sub (lv' := [(0, .ref b), (1, .ref (ad 247)), (2, .ref (ar 0)), (3, .ref o1), (4, .ref o2), (5, .int (nI i))]) [2, 3, 4, 5, 6, 7] rfl ?_
  exact tl_widen (by omega) (by omega) (cont _ _ _ _ _ _ _ _ C0 hT hR')
-- ----- case 24: check
set_option maxRecDepth 100000 in
theorem law_case_24 {p : Program} {l : Launch} {e : Env} {s : State} {m : MethodId} {args : Array Value} {below : List Frame} {meth : Method} {c : Code} {A : Nat → Prop} {D : va_G} {cy : Nat → ClassId} {ad ar : Nat → Nat} {o1 o2 : Nat} {cL cD : ClassId} {adK adV adE : Nat → Nat} {tC : Nat} {Q : State → Prop} {rt : Option FieldType} {cells slots b i L : Nat} {xs : Nat → Int32} {Rel Rel2 : tmM → List Int32 → tmM → Prop} (hl : l.stackTraces = false) (hp : tP_check Rel Rel2) (hX : va_X b L xs s s.heap) (hbl : b < s.heap.size) (hbA : ¬ A b) (hi : i + 5 ≤ L ∧ L ≤ 2560) (hE : tmSc adK adV adE tC A s s.heap) (hTh : tmTh A s s.heap) (hF : tlF D cy cL cD s) (hcs : cells + 64 ≤ 601024 ∧ slots + 8000 ≤ 7293034) {κ b0 : Nat} {u v w : tmM} {bs : List Int32} {xo : Int64} {xd : UInt64} (C0 : tmC p s m args meth c cL_law 10 rt RL TMW tm_NWC D cy tm_s0 tm_a0 0 (tlW cy ad ar o1 o2 cL cD κ b0 u v w xo xd) A) (hT : tmTx κ u bs) (hR : Rel v bs w) (cont : ∀ (κ b0 : Nat) (u v w : tmM) (bs : List Int32) (xo : Int64) (xd : UInt64), tmC p s m args meth c cL_law 10 rt RL TMW tm_NWC D cy tm_s0 tm_a0 0 (tlW cy ad ar o1 o2 cL cD κ b0 u v w xo xd) A → tmTx κ u bs → Rel2 v bs w → tmG p l e room_1 s m args below meth c (cells + 64) (slots + 8000) Q 10 D cy tm_s0 tm_a0 0 (tlW cy ad ar o1 o2 cL cD κ b0 u v w xo xd) A () 2790 [(0, .ref b), (1, .ref (ad 247)), (2, .ref (ar 0)), (3, .ref o1), (4, .ref o2), (5, .int (nI i))] [] tm_v0 (some ())) : tmG p l e room_1 s m args below meth c (cells) (slots) Q 10 D cy tm_s0 tm_a0 0 (tlW cy ad ar o1 o2 cL cD κ b0 u v w xo xd) A () 1464 [(0, .ref b), (1, .ref (ad 247)), (2, .ref (ar 0)), (3, .ref o1), (4, .ref o2), (5, .int (nI i))] [] tm_v0 (some ()) := by
  obtain ⟨k, xo', xd', v', bs', r, w1, w2, ho, hr, ht, heq, hR'⟩ := hp (xs (i + 1)) v bs w xo xd hR
  refine tg_aload_n 1 C0 dL_law_1464 rfl rfl ?_
  refine tg_aload_n 0 C0 dL_law_1465 rfl rfl ?_
  refine tg_iload 5 C0 dL_law_1466 rfl ?_
  refine tg_iconst (x := nI 1) C0 dL_law_1468 (by decide) ?_
  refine tg_iadd C0 dL_law_1469 ?_
  rw [tl_add i 1]
  refine tl_sld C0 hX hbl hbA (tl_idx (by omega) hi.2) dL_law_1470 ?_
  rw [nI_clamp (show i + 1 < 2147483648 by omega)]
  refine tg_aload_n 3 C0 dL_law_1471 rfl rfl ?_
  refine tl_callS (st := []) (st0 := _) (xo' := xo') (xd' := xd') (v' := v') (bs' := bs') 3 C0 hE hTh hF hT dL_law_1472 (cL_c_check l hl (xs (i + 1)) v bs) ho rfl (tl_gS2 tl_L_227 tst_L_check tn_L tc_L_check) rfl rfl rfl rfl (by decide +kernel) ⟨Nat.le_of_ble_eq_true rfl, Nat.le_of_ble_eq_true rfl⟩ (Nat.le_of_ble_eq_true rfl) ⟨by show _ ≤ 601024; omega, by show _ ≤ 7293034; omega⟩ (fun κ b0 u hT C0 => ?_)
  refine tg_istore [(6, .int k), (0, .ref b), (1, .ref (ad 247)), (2, .ref (ar 0)), (3, .ref o1), (4, .ref o2), (5, .int (nI i))] C0 dL_law_1475 (by decide) rfl ?_
  refine tg_aload_n 3 C0 dL_law_1477 rfl rfl ?_
  refine tg_aload_n 1 C0 dL_law_1478 rfl rfl ?_
  refine tg_iload 6 C0 dL_law_1479 rfl ?_
  refine tg_iconst (x := nI 1) C0 dL_law_1481 (by decide) ?_
  refine tg_iadd C0 dL_law_1482 ?_
  rw [tl_add i 1]
  refine tl_sld C0 hX hbl hbA (tl_idx (by omega) hi.2) dL_law_1483 ?_
  rw [nI_clamp (show i + 1 < 2147483648 by omega)]
  refine tl_mi (X' := tlW cy ad ar o1 o2 cL cD κ b0 u v' w1 xo' xd') (NW1 := tm_NWR) (pre := (tm_w cy tm_shC ad 256 v' ++ tmXB cy (ad 256) κ b0 u)) (suf := tlO o1 o2 cL cD xo' xd') (sh := tm_shR) (n := 13) (ad := ar) (As := [.int (xs (i + 1))]) (fs := [none, some 1, some 2, none, some 3, some 4, some 5, none, none, none, none, none, some 6, none, some 7, some 8, none, none, none, none, none, none, none, some 9, none, some 10, some 11, some 12]) 0 1 C0 rfl rfl (fun _ _ _ h => by cases h) rfl dL_law_1484 (c_X8_check l (xs (i + 1)) _) hr rfl rfl (by decide) rfl rfl (tm_gV tl_L_229 ti_X8_check ts_X8_check tn_X8 tc_X8_check) rfl rfl rfl rfl (by decide +kernel) ⟨Nat.le_of_ble_eq_true rfl, Nat.le_of_ble_eq_true rfl⟩ (Nat.le_of_ble_eq_true rfl) ⟨by show _ ≤ 601024; omega, by show _ ≤ 7293034; omega⟩ (fun C0 => ?_)
  refine tg_istore [(7, .int r), (6, .int k), (0, .ref b), (1, .ref (ad 247)), (2, .ref (ar 0)), (3, .ref o1), (4, .ref o2), (5, .int (nI i))] C0 dL_law_1487 (by decide) rfl ?_
  refine tg_aload_n 4 C0 dL_law_1489 rfl rfl ?_
  refine tl_mi (X' := tlW cy ad ar o1 o2 cL cD κ b0 u v' w2 xo' xd') (NW1 := tm_NWR) (pre := (tm_w cy tm_shC ad 256 v' ++ tmXB cy (ad 256) κ b0 u)) (suf := tlO o1 o2 cL cD xo' xd') (sh := tm_shR) (n := 13) (ad := ar) (As := []) (fs := [none, some 1, some 2, none, some 3, some 4, some 5, none, none, none, none, none, some 6, none, some 7, some 8, none, none, none, none, none, none, none, some 9, none, some 10, some 11, some 12]) 0 0 C0 rfl rfl (fun _ _ _ h => by cases h) rfl dL_law_1490 (c_X8_thrown l _) ht rfl rfl (by decide) rfl rfl (tm_gV tl_L_145 ti_X8_thrown ts_X8_thrown tn_X8 tc_X8_thrown) rfl rfl rfl rfl (by decide +kernel) ⟨Nat.le_of_ble_eq_true rfl, Nat.le_of_ble_eq_true rfl⟩ (Nat.le_of_ble_eq_true rfl) ⟨by show _ ≤ 601024; omega, by show _ ≤ 7293034; omega⟩ (fun C0 => ?_)
  refine tg_iload 1 C0 dL_law_1493 rfl ?_
  refine tg_eq (r := if k = k then some () else none) (by rw [if_pos rfl]) ?_
  refine tg_icmp_eq 1500 C0 dL_law_1495 (by decide) (fun _ => ?_) (fun q => absurd rfl q)
  refine tg_iload 1 C0 dL_law_1500 rfl ?_
  refine tg_eq (r := if k = 0 then some () else some ()) (by split <;> rfl) ?_
  refine tg_if_ne 1517 C0 dL_law_1502 (by decide) (fun _ => ?_) (fun hk => ?_)
  · refine tg_goto 2790 C0 dL_law_1517 (by decide) ?_
    refine tg_sub (lv' := [(0, .ref b), (1, .ref (ad 247)), (2, .ref (ar 0)), (3, .ref o1), (4, .ref o2), (5, .int (nI i))]) [2, 3, 4, 5, 6, 7] rfl ?_
    exact tl_widen (by omega) (by omega) (cont _ _ _ _ _ _ _ _ C0 hT hR')
  refine tg_aload_n 5 C0 dL_law_1505 rfl rfl ?_
  refine tg_iconst (x := 0) C0 dL_law_1506 (by decide) ?_
  refine tl_lald C0 hF dL_law_1507 ?_
  refine tg_iload 0 C0 dL_law_1508 rfl ?_
  refine tl_i2l C0 dL_law_1510 ?_
  refine tl_lcmp (heq hk) C0 dL_law_1511 ?_
  refine tg_eq (r := if (0 : Int32) = 0 then some () else none) (by rw [if_pos rfl]) ?_
  refine tg_if_eq 1517 C0 dL_law_1512 (by decide) (fun _ => ?_) (fun q => absurd rfl q)
  refine tg_goto 2790 C0 dL_law_1517 (by decide) ?_
  refine tg_sub (lv' := [(0, .ref b), (1, .ref (ad 247)), (2, .ref (ar 0)), (3, .ref o1), (4, .ref o2), (5, .int (nI i))]) [2, 3, 4, 5, 6, 7] rfl ?_
  exact tl_widen (by omega) (by omega) (cont _ _ _ _ _ _ _ _ C0 hT hR')
-- ----- case 25: switchOver
set_option maxRecDepth 100000 in
theorem law_case_25 {p : Program} {l : Launch} {e : Env} {s : State} {m : MethodId} {args : Array Value} {below : List Frame} {meth : Method} {c : Code} {A : Nat → Prop} {D : va_G} {cy : Nat → ClassId} {ad ar : Nat → Nat} {o1 o2 : Nat} {cL cD : ClassId} {adK adV adE : Nat → Nat} {tC : Nat} {Q : State → Prop} {rt : Option FieldType} {cells slots b i L : Nat} {xs : Nat → Int32} {Rel Rel2 : tmM → List Int32 → tmM → Prop} (hl : l.stackTraces = false) (hp : tP_switchOver Rel Rel2) (hX : va_X b L xs s s.heap) (hbl : b < s.heap.size) (hbA : ¬ A b) (hi : i + 5 ≤ L ∧ L ≤ 2560) (hE : tmSc adK adV adE tC A s s.heap) (hTh : tmTh A s s.heap) (hF : tlF D cy cL cD s) (hcs : cells + 64 ≤ 601024 ∧ slots + 8000 ≤ 7293034) {κ b0 : Nat} {u v w : tmM} {bs : List Int32} {xo : Int64} {xd : UInt64} (C0 : tmC p s m args meth c cL_law 10 rt RL TMW tm_NWC D cy tm_s0 tm_a0 0 (tlW cy ad ar o1 o2 cL cD κ b0 u v w xo xd) A) (hT : tmTx κ u bs) (hR : Rel v bs w) (cont : ∀ (κ b0 : Nat) (u v w : tmM) (bs : List Int32) (xo : Int64) (xd : UInt64), tmC p s m args meth c cL_law 10 rt RL TMW tm_NWC D cy tm_s0 tm_a0 0 (tlW cy ad ar o1 o2 cL cD κ b0 u v w xo xd) A → tmTx κ u bs → Rel2 v bs w → tmG p l e room_1 s m args below meth c (cells + 64) (slots + 8000) Q 10 D cy tm_s0 tm_a0 0 (tlW cy ad ar o1 o2 cL cD κ b0 u v w xo xd) A () 2790 [(0, .ref b), (1, .ref (ad 247)), (2, .ref (ar 0)), (3, .ref o1), (4, .ref o2), (5, .int (nI i))] [] tm_v0 (some ())) : tmG p l e room_1 s m args below meth c (cells) (slots) Q 10 D cy tm_s0 tm_a0 0 (tlW cy ad ar o1 o2 cL cD κ b0 u v w xo xd) A () 1520 [(0, .ref b), (1, .ref (ad 247)), (2, .ref (ar 0)), (3, .ref o1), (4, .ref o2), (5, .int (nI i))] [] tm_v0 (some ()) := by
  obtain ⟨k, xo', xd', v', bs', r, w1, w2, ho, hr, ht, heq, hR'⟩ := hp (xs (i + 1)) v bs w xo xd hR
  refine tg_aload_n 1 C0 dL_law_1520 rfl rfl ?_
  refine tg_aload_n 0 C0 dL_law_1521 rfl rfl ?_
  refine tg_iload 5 C0 dL_law_1522 rfl ?_
  refine tg_iconst (x := nI 1) C0 dL_law_1524 (by decide) ?_
  refine tg_iadd C0 dL_law_1525 ?_
  rw [tl_add i 1]
  refine tl_sld C0 hX hbl hbA (tl_idx (by omega) hi.2) dL_law_1526 ?_
  rw [nI_clamp (show i + 1 < 2147483648 by omega)]
  refine tg_aload_n 3 C0 dL_law_1527 rfl rfl ?_
  refine tl_callS (st := []) (st0 := _) (xo' := xo') (xd' := xd') (v' := v') (bs' := bs') 3 C0 hE hTh hF hT dL_law_1528 (cL_c_switchOver l hl (xs (i + 1)) v bs) ho rfl (tl_gS2 tl_L_230 tst_L_switchOver tn_L tc_L_switchOver) rfl rfl rfl rfl (by decide +kernel) ⟨Nat.le_of_ble_eq_true rfl, Nat.le_of_ble_eq_true rfl⟩ (Nat.le_of_ble_eq_true rfl) ⟨by show _ ≤ 601024; omega, by show _ ≤ 7293034; omega⟩ (fun κ b0 u hT C0 => ?_)
  refine tg_istore [(6, .int k), (0, .ref b), (1, .ref (ad 247)), (2, .ref (ar 0)), (3, .ref o1), (4, .ref o2), (5, .int (nI i))] C0 dL_law_1531 (by decide) rfl ?_
  refine tg_aload_n 3 C0 dL_law_1533 rfl rfl ?_
  refine tg_aload_n 1 C0 dL_law_1534 rfl rfl ?_
  refine tg_iload 6 C0 dL_law_1535 rfl ?_
  refine tg_iconst (x := nI 1) C0 dL_law_1537 (by decide) ?_
  refine tg_iadd C0 dL_law_1538 ?_
  rw [tl_add i 1]
  refine tl_sld C0 hX hbl hbA (tl_idx (by omega) hi.2) dL_law_1539 ?_
  rw [nI_clamp (show i + 1 < 2147483648 by omega)]
  refine tl_mi (X' := tlW cy ad ar o1 o2 cL cD κ b0 u v' w1 xo' xd') (NW1 := tm_NWR) (pre := (tm_w cy tm_shC ad 256 v' ++ tmXB cy (ad 256) κ b0 u)) (suf := tlO o1 o2 cL cD xo' xd') (sh := tm_shR) (n := 13) (ad := ar) (As := [.int (xs (i + 1))]) (fs := [none, some 1, some 2, none, some 3, some 4, some 5, none, none, none, none, none, some 6, none, some 7, some 8, none, none, none, none, none, none, none, some 9, none, some 10, some 11, some 12]) 0 1 C0 rfl rfl (fun _ _ _ h => by cases h) rfl dL_law_1540 (c_X8_switchOver l (xs (i + 1)) _) hr rfl rfl (by decide) rfl rfl (tm_gV tl_L_232 ti_X8_switchOver ts_X8_switchOver tn_X8 tc_X8_switchOver) rfl rfl rfl rfl (by decide +kernel) ⟨Nat.le_of_ble_eq_true rfl, Nat.le_of_ble_eq_true rfl⟩ (Nat.le_of_ble_eq_true rfl) ⟨by show _ ≤ 601024; omega, by show _ ≤ 7293034; omega⟩ (fun C0 => ?_)
  refine tg_istore [(7, .int r), (6, .int k), (0, .ref b), (1, .ref (ad 247)), (2, .ref (ar 0)), (3, .ref o1), (4, .ref o2), (5, .int (nI i))] C0 dL_law_1543 (by decide) rfl ?_
  refine tg_aload_n 4 C0 dL_law_1545 rfl rfl ?_
  refine tl_mi (X' := tlW cy ad ar o1 o2 cL cD κ b0 u v' w2 xo' xd') (NW1 := tm_NWR) (pre := (tm_w cy tm_shC ad 256 v' ++ tmXB cy (ad 256) κ b0 u)) (suf := tlO o1 o2 cL cD xo' xd') (sh := tm_shR) (n := 13) (ad := ar) (As := []) (fs := [none, some 1, some 2, none, some 3, some 4, some 5, none, none, none, none, none, some 6, none, some 7, some 8, none, none, none, none, none, none, none, some 9, none, some 10, some 11, some 12]) 0 0 C0 rfl rfl (fun _ _ _ h => by cases h) rfl dL_law_1546 (c_X8_thrown l _) ht rfl rfl (by decide) rfl rfl (tm_gV tl_L_145 ti_X8_thrown ts_X8_thrown tn_X8 tc_X8_thrown) rfl rfl rfl rfl (by decide +kernel) ⟨Nat.le_of_ble_eq_true rfl, Nat.le_of_ble_eq_true rfl⟩ (Nat.le_of_ble_eq_true rfl) ⟨by show _ ≤ 601024; omega, by show _ ≤ 7293034; omega⟩ (fun C0 => ?_)
  refine tg_iload 1 C0 dL_law_1549 rfl ?_
  refine tg_eq (r := if k = k then some () else none) (by rw [if_pos rfl]) ?_
  refine tg_icmp_eq 1556 C0 dL_law_1551 (by decide) (fun _ => ?_) (fun q => absurd rfl q)
  refine tg_iload 1 C0 dL_law_1556 rfl ?_
  refine tg_eq (r := if k = 0 then some () else some ()) (by split <;> rfl) ?_
  refine tg_if_ne 1573 C0 dL_law_1558 (by decide) (fun _ => ?_) (fun hk => ?_)
  · refine tg_goto 2790 C0 dL_law_1573 (by decide) ?_
    refine tg_sub (lv' := [(0, .ref b), (1, .ref (ad 247)), (2, .ref (ar 0)), (3, .ref o1), (4, .ref o2), (5, .int (nI i))]) [2, 3, 4, 5, 6, 7] rfl ?_
    exact tl_widen (by omega) (by omega) (cont _ _ _ _ _ _ _ _ C0 hT hR')
  refine tg_aload_n 5 C0 dL_law_1561 rfl rfl ?_
  refine tg_iconst (x := 0) C0 dL_law_1562 (by decide) ?_
  refine tl_lald C0 hF dL_law_1563 ?_
  refine tg_iload 0 C0 dL_law_1564 rfl ?_
  refine tl_i2l C0 dL_law_1566 ?_
  refine tl_lcmp (heq hk) C0 dL_law_1567 ?_
  refine tg_eq (r := if (0 : Int32) = 0 then some () else none) (by rw [if_pos rfl]) ?_
  refine tg_if_eq 1573 C0 dL_law_1568 (by decide) (fun _ => ?_) (fun q => absurd rfl q)
  refine tg_goto 2790 C0 dL_law_1573 (by decide) ?_
  refine tg_sub (lv' := [(0, .ref b), (1, .ref (ad 247)), (2, .ref (ar 0)), (3, .ref o1), (4, .ref o2), (5, .int (nI i))]) [2, 3, 4, 5, 6, 7] rfl ?_
  exact tl_widen (by omega) (by omega) (cont _ _ _ _ _ _ _ _ C0 hT hR')
-- ----- case 26: switchBack
set_option maxRecDepth 100000 in
theorem law_case_26 {p : Program} {l : Launch} {e : Env} {s : State} {m : MethodId} {args : Array Value} {below : List Frame} {meth : Method} {c : Code} {A : Nat → Prop} {D : va_G} {cy : Nat → ClassId} {ad ar : Nat → Nat} {o1 o2 : Nat} {cL cD : ClassId} {adK adV adE : Nat → Nat} {tC : Nat} {Q : State → Prop} {rt : Option FieldType} {cells slots b i L : Nat} {xs : Nat → Int32} {Rel Rel2 : tmM → List Int32 → tmM → Prop} (hl : l.stackTraces = false) (hp : tP_switchBack Rel Rel2) (hX : va_X b L xs s s.heap) (hbl : b < s.heap.size) (hbA : ¬ A b) (hi : i + 5 ≤ L ∧ L ≤ 2560) (hE : tmSc adK adV adE tC A s s.heap) (hTh : tmTh A s s.heap) (hF : tlF D cy cL cD s) (hcs : cells + 64 ≤ 601024 ∧ slots + 8000 ≤ 7293034) {κ b0 : Nat} {u v w : tmM} {bs : List Int32} {xo : Int64} {xd : UInt64} (C0 : tmC p s m args meth c cL_law 10 rt RL TMW tm_NWC D cy tm_s0 tm_a0 0 (tlW cy ad ar o1 o2 cL cD κ b0 u v w xo xd) A) (hT : tmTx κ u bs) (hR : Rel v bs w) (cont : ∀ (κ b0 : Nat) (u v w : tmM) (bs : List Int32) (xo : Int64) (xd : UInt64), tmC p s m args meth c cL_law 10 rt RL TMW tm_NWC D cy tm_s0 tm_a0 0 (tlW cy ad ar o1 o2 cL cD κ b0 u v w xo xd) A → tmTx κ u bs → Rel2 v bs w → tmG p l e room_1 s m args below meth c (cells + 64) (slots + 8000) Q 10 D cy tm_s0 tm_a0 0 (tlW cy ad ar o1 o2 cL cD κ b0 u v w xo xd) A () 2790 [(0, .ref b), (1, .ref (ad 247)), (2, .ref (ar 0)), (3, .ref o1), (4, .ref o2), (5, .int (nI i))] [] tm_v0 (some ())) : tmG p l e room_1 s m args below meth c (cells) (slots) Q 10 D cy tm_s0 tm_a0 0 (tlW cy ad ar o1 o2 cL cD κ b0 u v w xo xd) A () 1576 [(0, .ref b), (1, .ref (ad 247)), (2, .ref (ar 0)), (3, .ref o1), (4, .ref o2), (5, .int (nI i))] [] tm_v0 (some ()) := by
  obtain ⟨k, xo', xd', v', bs', r, w1, w2, ho, hr, ht, heq, hR'⟩ := hp (xs (i + 1)) v bs w xo xd hR
  refine tg_aload_n 1 C0 dL_law_1576 rfl rfl ?_
  refine tg_aload_n 0 C0 dL_law_1577 rfl rfl ?_
  refine tg_iload 5 C0 dL_law_1578 rfl ?_
  refine tg_iconst (x := nI 1) C0 dL_law_1580 (by decide) ?_
  refine tg_iadd C0 dL_law_1581 ?_
  rw [tl_add i 1]
  refine tl_sld C0 hX hbl hbA (tl_idx (by omega) hi.2) dL_law_1582 ?_
  rw [nI_clamp (show i + 1 < 2147483648 by omega)]
  refine tg_aload_n 3 C0 dL_law_1583 rfl rfl ?_
  refine tl_callS (st := []) (st0 := _) (xo' := xo') (xd' := xd') (v' := v') (bs' := bs') 3 C0 hE hTh hF hT dL_law_1584 (cL_c_switchBack l hl (xs (i + 1)) v bs) ho rfl (tl_gS2 tl_L_233 tst_L_switchBack tn_L tc_L_switchBack) rfl rfl rfl rfl (by decide +kernel) ⟨Nat.le_of_ble_eq_true rfl, Nat.le_of_ble_eq_true rfl⟩ (Nat.le_of_ble_eq_true rfl) ⟨by show _ ≤ 601024; omega, by show _ ≤ 7293034; omega⟩ (fun κ b0 u hT C0 => ?_)
  refine tg_istore [(6, .int k), (0, .ref b), (1, .ref (ad 247)), (2, .ref (ar 0)), (3, .ref o1), (4, .ref o2), (5, .int (nI i))] C0 dL_law_1587 (by decide) rfl ?_
  refine tg_aload_n 3 C0 dL_law_1589 rfl rfl ?_
  refine tg_aload_n 1 C0 dL_law_1590 rfl rfl ?_
  refine tg_iload 6 C0 dL_law_1591 rfl ?_
  refine tg_iconst (x := nI 1) C0 dL_law_1593 (by decide) ?_
  refine tg_iadd C0 dL_law_1594 ?_
  rw [tl_add i 1]
  refine tl_sld C0 hX hbl hbA (tl_idx (by omega) hi.2) dL_law_1595 ?_
  rw [nI_clamp (show i + 1 < 2147483648 by omega)]
  refine tl_mi (X' := tlW cy ad ar o1 o2 cL cD κ b0 u v' w1 xo' xd') (NW1 := tm_NWR) (pre := (tm_w cy tm_shC ad 256 v' ++ tmXB cy (ad 256) κ b0 u)) (suf := tlO o1 o2 cL cD xo' xd') (sh := tm_shR) (n := 13) (ad := ar) (As := [.int (xs (i + 1))]) (fs := [none, some 1, some 2, none, some 3, some 4, some 5, none, none, none, none, none, some 6, none, some 7, some 8, none, none, none, none, none, none, none, some 9, none, some 10, some 11, some 12]) 0 1 C0 rfl rfl (fun _ _ _ h => by cases h) rfl dL_law_1596 (c_X8_switchBack l (xs (i + 1)) _) hr rfl rfl (by decide) rfl rfl (tm_gV tl_L_235 ti_X8_switchBack ts_X8_switchBack tn_X8 tc_X8_switchBack) rfl rfl rfl rfl (by decide +kernel) ⟨Nat.le_of_ble_eq_true rfl, Nat.le_of_ble_eq_true rfl⟩ (Nat.le_of_ble_eq_true rfl) ⟨by show _ ≤ 601024; omega, by show _ ≤ 7293034; omega⟩ (fun C0 => ?_)
  refine tg_istore [(7, .int r), (6, .int k), (0, .ref b), (1, .ref (ad 247)), (2, .ref (ar 0)), (3, .ref o1), (4, .ref o2), (5, .int (nI i))] C0 dL_law_1599 (by decide) rfl ?_
  refine tg_aload_n 4 C0 dL_law_1601 rfl rfl ?_
  refine tl_mi (X' := tlW cy ad ar o1 o2 cL cD κ b0 u v' w2 xo' xd') (NW1 := tm_NWR) (pre := (tm_w cy tm_shC ad 256 v' ++ tmXB cy (ad 256) κ b0 u)) (suf := tlO o1 o2 cL cD xo' xd') (sh := tm_shR) (n := 13) (ad := ar) (As := []) (fs := [none, some 1, some 2, none, some 3, some 4, some 5, none, none, none, none, none, some 6, none, some 7, some 8, none, none, none, none, none, none, none, some 9, none, some 10, some 11, some 12]) 0 0 C0 rfl rfl (fun _ _ _ h => by cases h) rfl dL_law_1602 (c_X8_thrown l _) ht rfl rfl (by decide) rfl rfl (tm_gV tl_L_145 ti_X8_thrown ts_X8_thrown tn_X8 tc_X8_thrown) rfl rfl rfl rfl (by decide +kernel) ⟨Nat.le_of_ble_eq_true rfl, Nat.le_of_ble_eq_true rfl⟩ (Nat.le_of_ble_eq_true rfl) ⟨by show _ ≤ 601024; omega, by show _ ≤ 7293034; omega⟩ (fun C0 => ?_)
  refine tg_iload 1 C0 dL_law_1605 rfl ?_
  refine tg_eq (r := if k = k then some () else none) (by rw [if_pos rfl]) ?_
  refine tg_icmp_eq 1612 C0 dL_law_1607 (by decide) (fun _ => ?_) (fun q => absurd rfl q)
  refine tg_iload 1 C0 dL_law_1612 rfl ?_
  refine tg_eq (r := if k = 0 then some () else some ()) (by split <;> rfl) ?_
  refine tg_if_ne 1629 C0 dL_law_1614 (by decide) (fun _ => ?_) (fun hk => ?_)
  · refine tg_goto 2790 C0 dL_law_1629 (by decide) ?_
    refine tg_sub (lv' := [(0, .ref b), (1, .ref (ad 247)), (2, .ref (ar 0)), (3, .ref o1), (4, .ref o2), (5, .int (nI i))]) [2, 3, 4, 5, 6, 7] rfl ?_
    exact tl_widen (by omega) (by omega) (cont _ _ _ _ _ _ _ _ C0 hT hR')
  refine tg_aload_n 5 C0 dL_law_1617 rfl rfl ?_
  refine tg_iconst (x := 0) C0 dL_law_1618 (by decide) ?_
  refine tl_lald C0 hF dL_law_1619 ?_
  refine tg_iload 0 C0 dL_law_1620 rfl ?_
  refine tl_i2l C0 dL_law_1622 ?_
  refine tl_lcmp (heq hk) C0 dL_law_1623 ?_
  refine tg_eq (r := if (0 : Int32) = 0 then some () else none) (by rw [if_pos rfl]) ?_
  refine tg_if_eq 1629 C0 dL_law_1624 (by decide) (fun _ => ?_) (fun q => absurd rfl q)
  refine tg_goto 2790 C0 dL_law_1629 (by decide) ?_
  refine tg_sub (lv' := [(0, .ref b), (1, .ref (ad 247)), (2, .ref (ar 0)), (3, .ref o1), (4, .ref o2), (5, .int (nI i))]) [2, 3, 4, 5, 6, 7] rfl ?_
  exact tl_widen (by omega) (by omega) (cont _ _ _ _ _ _ _ _ C0 hT hR')
-- ----- case 27: lead
set_option maxRecDepth 100000 in
theorem law_case_27 {p : Program} {l : Launch} {e : Env} {s : State} {m : MethodId} {args : Array Value} {below : List Frame} {meth : Method} {c : Code} {A : Nat → Prop} {D : va_G} {cy : Nat → ClassId} {ad ar : Nat → Nat} {o1 o2 : Nat} {cL cD : ClassId} {adK adV adE : Nat → Nat} {tC : Nat} {Q : State → Prop} {rt : Option FieldType} {cells slots b i L : Nat} {xs : Nat → Int32} {Rel Rel2 : tmM → List Int32 → tmM → Prop} (hl : l.stackTraces = false) (hp : tP_lead Rel Rel2) (hX : va_X b L xs s s.heap) (hbl : b < s.heap.size) (hbA : ¬ A b) (hi : i + 5 ≤ L ∧ L ≤ 2560) (hE : tmSc adK adV adE tC A s s.heap) (hTh : tmTh A s s.heap) (hF : tlF D cy cL cD s) (hcs : cells + 64 ≤ 601024 ∧ slots + 8000 ≤ 7293034) {κ b0 : Nat} {u v w : tmM} {bs : List Int32} {xo : Int64} {xd : UInt64} (C0 : tmC p s m args meth c cL_law 10 rt RL TMW tm_NWC D cy tm_s0 tm_a0 0 (tlW cy ad ar o1 o2 cL cD κ b0 u v w xo xd) A) (hT : tmTx κ u bs) (hR : Rel v bs w) (cont : ∀ (κ b0 : Nat) (u v w : tmM) (bs : List Int32) (xo : Int64) (xd : UInt64), tmC p s m args meth c cL_law 10 rt RL TMW tm_NWC D cy tm_s0 tm_a0 0 (tlW cy ad ar o1 o2 cL cD κ b0 u v w xo xd) A → tmTx κ u bs → Rel2 v bs w → tmG p l e room_1 s m args below meth c (cells + 64) (slots + 8000) Q 10 D cy tm_s0 tm_a0 0 (tlW cy ad ar o1 o2 cL cD κ b0 u v w xo xd) A () 2790 [(0, .ref b), (1, .ref (ad 247)), (2, .ref (ar 0)), (3, .ref o1), (4, .ref o2), (5, .int (nI i))] [] tm_v0 (some ())) : tmG p l e room_1 s m args below meth c (cells) (slots) Q 10 D cy tm_s0 tm_a0 0 (tlW cy ad ar o1 o2 cL cD κ b0 u v w xo xd) A () 1632 [(0, .ref b), (1, .ref (ad 247)), (2, .ref (ar 0)), (3, .ref o1), (4, .ref o2), (5, .int (nI i))] [] tm_v0 (some ()) := by
  obtain ⟨r, v', w', ho, hr, hR'⟩ := hp v bs w hR
  refine tg_aload_n 1 C0 dL_law_1632 rfl rfl ?_
  refine tl_mi (X' := tlW cy ad ar o1 o2 cL cD κ b0 u v' w xo xd) (NW1 := tm_NWC) (pre := []) (suf := (tmXB cy (ad 256) κ b0 u ++ (tm_w cy tm_shR ar 13 w ++ tlO o1 o2 cL cD xo xd))) (sh := tm_shC) (n := 256) (ad := ad) (As := []) (fs := [some 0, some 248, none, none, some 249, none, some 250, some 251, some 256]) 247 0 C0 (List.append_assoc _ _ _) (List.append_assoc _ _ _) (fun _ h => h) tm_NWC_ok dL_law_1633 (c_X7_lead l _) ho rfl rfl (by decide) rfl rfl (tm_gV tl_L_236 ti_X7_lead ts_X7_lead tn_X7 tc_X7_lead) rfl rfl rfl rfl (by decide +kernel) ⟨Nat.le_of_ble_eq_true rfl, Nat.le_of_ble_eq_true rfl⟩ (Nat.le_of_ble_eq_true rfl) ⟨by show _ ≤ 601024; omega, by show _ ≤ 7293034; omega⟩ (fun C0 => ?_)
  refine tg_aload_n 2 C0 dL_law_1636 rfl rfl ?_
  refine tl_mi (X' := tlW cy ad ar o1 o2 cL cD κ b0 u v' w' xo xd) (NW1 := tm_NWR) (pre := (tm_w cy tm_shC ad 256 v' ++ tmXB cy (ad 256) κ b0 u)) (suf := tlO o1 o2 cL cD xo xd) (sh := tm_shR) (n := 13) (ad := ar) (As := []) (fs := [none, some 1, some 2, none, some 3, some 4, some 5, none, none, none, none, none, some 6, none, some 7, some 8, none, none, none, none, none, none, none, some 9, none, some 10, some 11, some 12]) 0 0 C0 rfl rfl (fun _ _ _ h => by cases h) rfl dL_law_1637 (c_X8_lead l _) hr rfl rfl (by decide) rfl rfl (tm_gV tl_L_239 ti_X8_lead ts_X8_lead tn_X8 tc_X8_lead) rfl rfl rfl rfl (by decide +kernel) ⟨Nat.le_of_ble_eq_true rfl, Nat.le_of_ble_eq_true rfl⟩ (Nat.le_of_ble_eq_true rfl) ⟨by show _ ≤ 601024; omega, by show _ ≤ 7293034; omega⟩ (fun C0 => ?_)
  refine tg_eq (r := if r = r then some () else none) (by rw [if_pos rfl]) ?_
  refine tg_icmp_eq 2790 C0 dL_law_1640 (by decide) (fun _ => ?_) (fun q => absurd rfl q)
  exact tl_widen (by omega) (by omega) (cont _ _ _ _ _ _ _ _ C0 hT hR')
-- ----- case 28: goBack
set_option maxRecDepth 100000 in
theorem law_case_28 {p : Program} {l : Launch} {e : Env} {s : State} {m : MethodId} {args : Array Value} {below : List Frame} {meth : Method} {c : Code} {A : Nat → Prop} {D : va_G} {cy : Nat → ClassId} {ad ar : Nat → Nat} {o1 o2 : Nat} {cL cD : ClassId} {adK adV adE : Nat → Nat} {tC : Nat} {Q : State → Prop} {rt : Option FieldType} {cells slots b i L : Nat} {xs : Nat → Int32} {Rel Rel2 : tmM → List Int32 → tmM → Prop} (hl : l.stackTraces = false) (hp : tP_goBack Rel Rel2) (hX : va_X b L xs s s.heap) (hbl : b < s.heap.size) (hbA : ¬ A b) (hi : i + 5 ≤ L ∧ L ≤ 2560) (hE : tmSc adK adV adE tC A s s.heap) (hTh : tmTh A s s.heap) (hF : tlF D cy cL cD s) (hcs : cells + 64 ≤ 601024 ∧ slots + 8000 ≤ 7293034) {κ b0 : Nat} {u v w : tmM} {bs : List Int32} {xo : Int64} {xd : UInt64} (C0 : tmC p s m args meth c cL_law 10 rt RL TMW tm_NWC D cy tm_s0 tm_a0 0 (tlW cy ad ar o1 o2 cL cD κ b0 u v w xo xd) A) (hT : tmTx κ u bs) (hR : Rel v bs w) (cont : ∀ (κ b0 : Nat) (u v w : tmM) (bs : List Int32) (xo : Int64) (xd : UInt64), tmC p s m args meth c cL_law 10 rt RL TMW tm_NWC D cy tm_s0 tm_a0 0 (tlW cy ad ar o1 o2 cL cD κ b0 u v w xo xd) A → tmTx κ u bs → Rel2 v bs w → tmG p l e room_1 s m args below meth c (cells + 64) (slots + 8000) Q 10 D cy tm_s0 tm_a0 0 (tlW cy ad ar o1 o2 cL cD κ b0 u v w xo xd) A () 2790 [(0, .ref b), (1, .ref (ad 247)), (2, .ref (ar 0)), (3, .ref o1), (4, .ref o2), (5, .int (nI i))] [] tm_v0 (some ())) : tmG p l e room_1 s m args below meth c (cells) (slots) Q 10 D cy tm_s0 tm_a0 0 (tlW cy ad ar o1 o2 cL cD κ b0 u v w xo xd) A () 1645 [(0, .ref b), (1, .ref (ad 247)), (2, .ref (ar 0)), (3, .ref o1), (4, .ref o2), (5, .int (nI i))] [] tm_v0 (some ()) := by
  obtain ⟨r, v', w', ho, hr, hR'⟩ := hp (if xs (i + 1) = 0 then 0 else 1) v bs w (by split <;> decide) hR
  refine tg_aload_n 1 C0 dL_law_1645 rfl rfl ?_
  refine tg_aload_n 0 C0 dL_law_1646 rfl rfl ?_
  refine tg_iload 5 C0 dL_law_1647 rfl ?_
  refine tg_iconst (x := nI 1) C0 dL_law_1649 (by decide) ?_
  refine tg_iadd C0 dL_law_1650 ?_
  rw [tl_add i 1]
  refine tl_sld C0 hX hbl hbA (tl_idx (by omega) hi.2) dL_law_1651 ?_
  rw [nI_clamp (show i + 1 < 2147483648 by omega)]
  refine tl_bool 1659 1660 C0 dL_law_1652 dL_law_1655 dL_law_1656 dL_law_1659 (by decide) (by decide) rfl ?_
  refine tl_mi (X' := tlW cy ad ar o1 o2 cL cD κ b0 u v' w xo xd) (NW1 := tm_NWC) (pre := []) (suf := (tmXB cy (ad 256) κ b0 u ++ (tm_w cy tm_shR ar 13 w ++ tlO o1 o2 cL cD xo xd))) (sh := tm_shC) (n := 256) (ad := ad) (As := [.int (if xs (i + 1) = 0 then 0 else 1)]) (fs := [some 0, some 248, none, none, some 249, none, some 250, some 251, some 256]) 247 1 C0 (List.append_assoc _ _ _) (List.append_assoc _ _ _) (fun _ h => h) tm_NWC_ok dL_law_1660 (c_X7_goBack l (if xs (i + 1) = 0 then 0 else 1) _) ho rfl rfl (by decide) rfl rfl (tm_gV tl_L_240 ti_X7_goBack ts_X7_goBack tn_X7 tc_X7_goBack) rfl rfl rfl rfl (by decide +kernel) ⟨Nat.le_of_ble_eq_true rfl, Nat.le_of_ble_eq_true rfl⟩ (Nat.le_of_ble_eq_true rfl) ⟨by show _ ≤ 601024; omega, by show _ ≤ 7293034; omega⟩ (fun C0 => ?_)
  refine tg_aload_n 2 C0 dL_law_1663 rfl rfl ?_
  refine tg_aload_n 0 C0 dL_law_1664 rfl rfl ?_
  refine tg_iload 5 C0 dL_law_1665 rfl ?_
  refine tg_iconst (x := nI 1) C0 dL_law_1667 (by decide) ?_
  refine tg_iadd C0 dL_law_1668 ?_
  rw [tl_add i 1]
  refine tl_sld C0 hX hbl hbA (tl_idx (by omega) hi.2) dL_law_1669 ?_
  rw [nI_clamp (show i + 1 < 2147483648 by omega)]
  refine tl_bool 1677 1678 C0 dL_law_1670 dL_law_1673 dL_law_1674 dL_law_1677 (by decide) (by decide) rfl ?_
  refine tl_mi (X' := tlW cy ad ar o1 o2 cL cD κ b0 u v' w' xo xd) (NW1 := tm_NWR) (pre := (tm_w cy tm_shC ad 256 v' ++ tmXB cy (ad 256) κ b0 u)) (suf := tlO o1 o2 cL cD xo xd) (sh := tm_shR) (n := 13) (ad := ar) (As := [.int (if xs (i + 1) = 0 then 0 else 1)]) (fs := [none, some 1, some 2, none, some 3, some 4, some 5, none, none, none, none, none, some 6, none, some 7, some 8, none, none, none, none, none, none, none, some 9, none, some 10, some 11, some 12]) 0 1 C0 rfl rfl (fun _ _ _ h => by cases h) rfl dL_law_1678 (c_X8_goBack l (if xs (i + 1) = 0 then 0 else 1) _) hr rfl rfl (by decide) rfl rfl (tm_gV tl_L_244 ti_X8_goBack ts_X8_goBack tn_X8 tc_X8_goBack) rfl rfl rfl rfl (by decide +kernel) ⟨Nat.le_of_ble_eq_true rfl, Nat.le_of_ble_eq_true rfl⟩ (Nat.le_of_ble_eq_true rfl) ⟨by show _ ≤ 601024; omega, by show _ ≤ 7293034; omega⟩ (fun C0 => ?_)
  refine tg_eq (r := if r = r then some () else none) (by rw [if_pos rfl]) ?_
  refine tg_icmp_eq 2790 C0 dL_law_1681 (by decide) (fun _ => ?_) (fun q => absurd rfl q)
  exact tl_widen (by omega) (by omega) (cont _ _ _ _ _ _ _ _ C0 hT hR')
-- ----- case 29: stop
set_option maxRecDepth 100000 in
theorem law_case_29 {p : Program} {l : Launch} {e : Env} {s : State} {m : MethodId} {args : Array Value} {below : List Frame} {meth : Method} {c : Code} {A : Nat → Prop} {D : va_G} {cy : Nat → ClassId} {ad ar : Nat → Nat} {o1 o2 : Nat} {cL cD : ClassId} {adK adV adE : Nat → Nat} {tC : Nat} {Q : State → Prop} {rt : Option FieldType} {cells slots b i L : Nat} {xs : Nat → Int32} {Rel Rel2 : tmM → List Int32 → tmM → Prop} (hl : l.stackTraces = false) (hp : tP_stop Rel Rel2) (hX : va_X b L xs s s.heap) (hbl : b < s.heap.size) (hbA : ¬ A b) (hi : i + 5 ≤ L ∧ L ≤ 2560) (hE : tmSc adK adV adE tC A s s.heap) (hTh : tmTh A s s.heap) (hF : tlF D cy cL cD s) (hcs : cells + 64 ≤ 601024 ∧ slots + 8000 ≤ 7293034) {κ b0 : Nat} {u v w : tmM} {bs : List Int32} {xo : Int64} {xd : UInt64} (C0 : tmC p s m args meth c cL_law 10 rt RL TMW tm_NWC D cy tm_s0 tm_a0 0 (tlW cy ad ar o1 o2 cL cD κ b0 u v w xo xd) A) (hT : tmTx κ u bs) (hR : Rel v bs w) (cont : ∀ (κ b0 : Nat) (u v w : tmM) (bs : List Int32) (xo : Int64) (xd : UInt64), tmC p s m args meth c cL_law 10 rt RL TMW tm_NWC D cy tm_s0 tm_a0 0 (tlW cy ad ar o1 o2 cL cD κ b0 u v w xo xd) A → tmTx κ u bs → Rel2 v bs w → tmG p l e room_1 s m args below meth c (cells + 64) (slots + 8000) Q 10 D cy tm_s0 tm_a0 0 (tlW cy ad ar o1 o2 cL cD κ b0 u v w xo xd) A () 2790 [(0, .ref b), (1, .ref (ad 247)), (2, .ref (ar 0)), (3, .ref o1), (4, .ref o2), (5, .int (nI i))] [] tm_v0 (some ())) : tmG p l e room_1 s m args below meth c (cells) (slots) Q 10 D cy tm_s0 tm_a0 0 (tlW cy ad ar o1 o2 cL cD κ b0 u v w xo xd) A () 1686 [(0, .ref b), (1, .ref (ad 247)), (2, .ref (ar 0)), (3, .ref o1), (4, .ref o2), (5, .int (nI i))] [] tm_v0 (some ()) := by
  obtain ⟨r, v', w', ho, hr, hR'⟩ := hp v bs w hR
  refine tg_aload_n 1 C0 dL_law_1686 rfl rfl ?_
  refine tl_mi (X' := tlW cy ad ar o1 o2 cL cD κ b0 u v' w xo xd) (NW1 := tm_NWC) (pre := []) (suf := (tmXB cy (ad 256) κ b0 u ++ (tm_w cy tm_shR ar 13 w ++ tlO o1 o2 cL cD xo xd))) (sh := tm_shC) (n := 256) (ad := ad) (As := []) (fs := [some 0, some 248, none, none, some 249, none, some 250, some 251, some 256]) 247 0 C0 (List.append_assoc _ _ _) (List.append_assoc _ _ _) (fun _ h => h) tm_NWC_ok dL_law_1687 (c_X7_stop l _) ho rfl rfl (by decide) rfl rfl (tm_gV tl_L_245 ti_X7_stop ts_X7_stop tn_X7 tc_X7_stop) rfl rfl rfl rfl (by decide +kernel) ⟨Nat.le_of_ble_eq_true rfl, Nat.le_of_ble_eq_true rfl⟩ (Nat.le_of_ble_eq_true rfl) ⟨by show _ ≤ 601024; omega, by show _ ≤ 7293034; omega⟩ (fun C0 => ?_)
  refine tg_aload_n 2 C0 dL_law_1690 rfl rfl ?_
  refine tl_mi (X' := tlW cy ad ar o1 o2 cL cD κ b0 u v' w' xo xd) (NW1 := tm_NWR) (pre := (tm_w cy tm_shC ad 256 v' ++ tmXB cy (ad 256) κ b0 u)) (suf := tlO o1 o2 cL cD xo xd) (sh := tm_shR) (n := 13) (ad := ar) (As := []) (fs := [none, some 1, some 2, none, some 3, some 4, some 5, none, none, none, none, none, some 6, none, some 7, some 8, none, none, none, none, none, none, none, some 9, none, some 10, some 11, some 12]) 0 0 C0 rfl rfl (fun _ _ _ h => by cases h) rfl dL_law_1691 (c_X8_stop l _) hr rfl rfl (by decide) rfl rfl (tm_gV tl_L_248 ti_X8_stop ts_X8_stop tn_X8 tc_X8_stop) rfl rfl rfl rfl (by decide +kernel) ⟨Nat.le_of_ble_eq_true rfl, Nat.le_of_ble_eq_true rfl⟩ (Nat.le_of_ble_eq_true rfl) ⟨by show _ ≤ 601024; omega, by show _ ≤ 7293034; omega⟩ (fun C0 => ?_)
  refine tg_eq (r := if r = r then some () else none) (by rw [if_pos rfl]) ?_
  refine tg_icmp_eq 2790 C0 dL_law_1694 (by decide) (fun _ => ?_) (fun q => absurd rfl q)
  exact tl_widen (by omega) (by omega) (cont _ _ _ _ _ _ _ _ C0 hT hR')
