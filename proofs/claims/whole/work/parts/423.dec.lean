theorem dd_X12_init_1350 : decode m_X12_init.2.1 1350 = .ok (.bipush 6, 2) := by decide +kernel
theorem dd_X12_init_1352 : decode m_X12_init.2.1 1352 = .ok (.bipush 116, 2) := by decide +kernel
theorem dd_X12_init_1354 : decode m_X12_init.2.1 1354 = .ok (.castore, 1) := by decide +kernel
theorem dd_X12_init_1355 : decode m_X12_init.2.1 1355 = .ok (.putfield 198, 3) := by decide +kernel
theorem dd_X12_init_1358 : decode m_X12_init.2.1 1358 = .ok (.aload_n 0, 1) := by decide +kernel
theorem dd_X12_init_1359 : decode m_X12_init.2.1 1359 = .ok (.bipush 7, 2) := by decide +kernel
theorem dd_X12_init_1361 : decode m_X12_init.2.1 1361 = .ok (.newarray .char, 2) := by decide +kernel
theorem dd_X12_init_1363 : decode m_X12_init.2.1 1363 = .ok (.dup, 1) := by decide +kernel
theorem dd_X12_init_1364 : decode m_X12_init.2.1 1364 = .ok (.iconst 0, 1) := by decide +kernel
theorem dd_X12_init_1365 : decode m_X12_init.2.1 1365 = .ok (.bipush 113, 2) := by decide +kernel
theorem dd_X12_init_1367 : decode m_X12_init.2.1 1367 = .ok (.castore, 1) := by decide +kernel
theorem dd_X12_init_1368 : decode m_X12_init.2.1 1368 = .ok (.dup, 1) := by decide +kernel
theorem dd_X12_init_1369 : decode m_X12_init.2.1 1369 = .ok (.iconst 1, 1) := by decide +kernel
theorem dd_X12_init_1370 : decode m_X12_init.2.1 1370 = .ok (.bipush 117, 2) := by decide +kernel
theorem dd_X12_init_1372 : decode m_X12_init.2.1 1372 = .ok (.castore, 1) := by decide +kernel
theorem dd_X12_init_1373 : decode m_X12_init.2.1 1373 = .ok (.dup, 1) := by decide +kernel
theorem dd_X12_init_1374 : decode m_X12_init.2.1 1374 = .ok (.iconst 2, 1) := by decide +kernel
theorem dd_X12_init_1375 : decode m_X12_init.2.1 1375 = .ok (.bipush 97, 2) := by decide +kernel
theorem dd_X12_init_1377 : decode m_X12_init.2.1 1377 = .ok (.castore, 1) := by decide +kernel
theorem dd_X12_init_1378 : decode m_X12_init.2.1 1378 = .ok (.dup, 1) := by decide +kernel
theorem dd_X12_init_1379 : decode m_X12_init.2.1 1379 = .ok (.iconst 3, 1) := by decide +kernel
theorem dd_X12_init_1380 : decode m_X12_init.2.1 1380 = .ok (.bipush 114, 2) := by decide +kernel
theorem dd_X12_init_1382 : decode m_X12_init.2.1 1382 = .ok (.castore, 1) := by decide +kernel
theorem dd_X12_init_1383 : decode m_X12_init.2.1 1383 = .ok (.dup, 1) := by decide +kernel
theorem dd_X12_init_1384 : decode m_X12_init.2.1 1384 = .ok (.iconst 4, 1) := by decide +kernel
theorem dd_X12_init_1385 : decode m_X12_init.2.1 1385 = .ok (.bipush 114, 2) := by decide +kernel
theorem dd_X12_init_1387 : decode m_X12_init.2.1 1387 = .ok (.castore, 1) := by decide +kernel
theorem dd_X12_init_1388 : decode m_X12_init.2.1 1388 = .ok (.dup, 1) := by decide +kernel
theorem dd_X12_init_1389 : decode m_X12_init.2.1 1389 = .ok (.iconst 5, 1) := by decide +kernel
theorem dd_X12_init_1390 : decode m_X12_init.2.1 1390 = .ok (.bipush 101, 2) := by decide +kernel
theorem dd_X12_init_1392 : decode m_X12_init.2.1 1392 = .ok (.castore, 1) := by decide +kernel
theorem dd_X12_init_1393 : decode m_X12_init.2.1 1393 = .ok (.dup, 1) := by decide +kernel
theorem dd_X12_init_1394 : decode m_X12_init.2.1 1394 = .ok (.bipush 6, 2) := by decide +kernel
theorem dd_X12_init_1396 : decode m_X12_init.2.1 1396 = .ok (.bipush 108, 2) := by decide +kernel
theorem dd_X12_init_1398 : decode m_X12_init.2.1 1398 = .ok (.castore, 1) := by decide +kernel
theorem dd_X12_init_1399 : decode m_X12_init.2.1 1399 = .ok (.putfield 201, 3) := by decide +kernel
theorem dd_X12_init_1402 : decode m_X12_init.2.1 1402 = .ok (.aload_n 0, 1) := by decide +kernel
theorem dd_X12_init_1403 : decode m_X12_init.2.1 1403 = .ok (.iconst 4, 1) := by decide +kernel
theorem dd_X12_init_1404 : decode m_X12_init.2.1 1404 = .ok (.newarray .char, 2) := by decide +kernel
theorem dd_X12_init_1406 : decode m_X12_init.2.1 1406 = .ok (.dup, 1) := by decide +kernel
theorem dd_X12_init_1407 : decode m_X12_init.2.1 1407 = .ok (.iconst 0, 1) := by decide +kernel
theorem dd_X12_init_1408 : decode m_X12_init.2.1 1408 = .ok (.bipush 121, 2) := by decide +kernel
theorem dd_X12_init_1410 : decode m_X12_init.2.1 1410 = .ok (.castore, 1) := by decide +kernel
theorem dd_X12_init_1411 : decode m_X12_init.2.1 1411 = .ok (.dup, 1) := by decide +kernel
theorem dd_X12_init_1412 : decode m_X12_init.2.1 1412 = .ok (.iconst 1, 1) := by decide +kernel
theorem dd_X12_init_1413 : decode m_X12_init.2.1 1413 = .ok (.bipush 101, 2) := by decide +kernel
theorem dd_X12_init_1415 : decode m_X12_init.2.1 1415 = .ok (.castore, 1) := by decide +kernel
theorem dd_X12_init_1416 : decode m_X12_init.2.1 1416 = .ok (.dup, 1) := by decide +kernel
theorem dd_X12_init_1417 : decode m_X12_init.2.1 1417 = .ok (.iconst 2, 1) := by decide +kernel
theorem dd_X12_init_1418 : decode m_X12_init.2.1 1418 = .ok (.bipush 97, 2) := by decide +kernel
theorem dd_X12_init_1420 : decode m_X12_init.2.1 1420 = .ok (.castore, 1) := by decide +kernel
theorem dd_X12_init_1421 : decode m_X12_init.2.1 1421 = .ok (.dup, 1) := by decide +kernel
theorem dd_X12_init_1422 : decode m_X12_init.2.1 1422 = .ok (.iconst 3, 1) := by decide +kernel
theorem dd_X12_init_1423 : decode m_X12_init.2.1 1423 = .ok (.bipush 114, 2) := by decide +kernel
theorem dd_X12_init_1425 : decode m_X12_init.2.1 1425 = .ok (.castore, 1) := by decide +kernel
theorem dd_X12_init_1426 : decode m_X12_init.2.1 1426 = .ok (.putfield 204, 3) := by decide +kernel
theorem dd_X12_init_1429 : decode m_X12_init.2.1 1429 = .ok (.aload_n 0, 1) := by decide +kernel
theorem dd_X12_init_1430 : decode m_X12_init.2.1 1430 = .ok (.iconst 4, 1) := by decide +kernel
theorem dd_X12_init_1431 : decode m_X12_init.2.1 1431 = .ok (.newarray .char, 2) := by decide +kernel
theorem dd_X12_init_1433 : decode m_X12_init.2.1 1433 = .ok (.dup, 1) := by decide +kernel
theorem dd_X12_init_1434 : decode m_X12_init.2.1 1434 = .ok (.iconst 0, 1) := by decide +kernel
theorem dd_X12_init_1435 : decode m_X12_init.2.1 1435 = .ok (.bipush 119, 2) := by decide +kernel
theorem dd_X12_init_1437 : decode m_X12_init.2.1 1437 = .ok (.castore, 1) := by decide +kernel
theorem dd_X12_init_1438 : decode m_X12_init.2.1 1438 = .ok (.dup, 1) := by decide +kernel
theorem dd_X12_init_1439 : decode m_X12_init.2.1 1439 = .ok (.iconst 1, 1) := by decide +kernel
theorem dd_X12_init_1440 : decode m_X12_init.2.1 1440 = .ok (.bipush 105, 2) := by decide +kernel
theorem dd_X12_init_1442 : decode m_X12_init.2.1 1442 = .ok (.castore, 1) := by decide +kernel
theorem dd_X12_init_1443 : decode m_X12_init.2.1 1443 = .ok (.dup, 1) := by decide +kernel
theorem dd_X12_init_1444 : decode m_X12_init.2.1 1444 = .ok (.iconst 2, 1) := by decide +kernel
theorem dd_X12_init_1445 : decode m_X12_init.2.1 1445 = .ok (.bipush 116, 2) := by decide +kernel
theorem dd_X12_init_1447 : decode m_X12_init.2.1 1447 = .ok (.castore, 1) := by decide +kernel
theorem dd_X12_init_1448 : decode m_X12_init.2.1 1448 = .ok (.dup, 1) := by decide +kernel
theorem dd_X12_init_1449 : decode m_X12_init.2.1 1449 = .ok (.iconst 3, 1) := by decide +kernel
theorem dd_X12_init_1450 : decode m_X12_init.2.1 1450 = .ok (.bipush 115, 2) := by decide +kernel
theorem dd_X12_init_1452 : decode m_X12_init.2.1 1452 = .ok (.castore, 1) := by decide +kernel
theorem dd_X12_init_1453 : decode m_X12_init.2.1 1453 = .ok (.putfield 207, 3) := by decide +kernel
theorem dd_X12_init_1456 : decode m_X12_init.2.1 1456 = .ok (.aload_n 0, 1) := by decide +kernel
theorem dd_X12_init_1457 : decode m_X12_init.2.1 1457 = .ok (.iconst 4, 1) := by decide +kernel
theorem dd_X12_init_1458 : decode m_X12_init.2.1 1458 = .ok (.newarray .char, 2) := by decide +kernel
theorem dd_X12_init_1460 : decode m_X12_init.2.1 1460 = .ok (.dup, 1) := by decide +kernel
theorem dd_X12_init_1461 : decode m_X12_init.2.1 1461 = .ok (.iconst 0, 1) := by decide +kernel
theorem dd_X12_init_1462 : decode m_X12_init.2.1 1462 = .ok (.bipush 111, 2) := by decide +kernel
theorem dd_X12_init_1464 : decode m_X12_init.2.1 1464 = .ok (.castore, 1) := by decide +kernel
theorem dd_X12_init_1465 : decode m_X12_init.2.1 1465 = .ok (.dup, 1) := by decide +kernel
theorem dd_X12_init_1466 : decode m_X12_init.2.1 1466 = .ok (.iconst 1, 1) := by decide +kernel
theorem dd_X12_init_1467 : decode m_X12_init.2.1 1467 = .ok (.bipush 97, 2) := by decide +kernel
theorem dd_X12_init_1469 : decode m_X12_init.2.1 1469 = .ok (.castore, 1) := by decide +kernel
theorem dd_X12_init_1470 : decode m_X12_init.2.1 1470 = .ok (.dup, 1) := by decide +kernel
theorem dd_X12_init_1471 : decode m_X12_init.2.1 1471 = .ok (.iconst 2, 1) := by decide +kernel
theorem dd_X12_init_1472 : decode m_X12_init.2.1 1472 = .ok (.bipush 116, 2) := by decide +kernel
theorem dd_X12_init_1474 : decode m_X12_init.2.1 1474 = .ok (.castore, 1) := by decide +kernel
theorem dd_X12_init_1475 : decode m_X12_init.2.1 1475 = .ok (.dup, 1) := by decide +kernel
theorem dd_X12_init_1476 : decode m_X12_init.2.1 1476 = .ok (.iconst 3, 1) := by decide +kernel
theorem dd_X12_init_1477 : decode m_X12_init.2.1 1477 = .ok (.bipush 104, 2) := by decide +kernel
theorem dd_X12_init_1479 : decode m_X12_init.2.1 1479 = .ok (.castore, 1) := by decide +kernel
theorem dd_X12_init_1480 : decode m_X12_init.2.1 1480 = .ok (.putfield 210, 3) := by decide +kernel
theorem dd_X12_init_1483 : decode m_X12_init.2.1 1483 = .ok (.aload_n 0, 1) := by decide +kernel
theorem dd_X12_init_1484 : decode m_X12_init.2.1 1484 = .ok (.iconst 5, 1) := by decide +kernel
theorem dd_X12_init_1485 : decode m_X12_init.2.1 1485 = .ok (.newarray .char, 2) := by decide +kernel
theorem dd_X12_init_1487 : decode m_X12_init.2.1 1487 = .ok (.dup, 1) := by decide +kernel
theorem dd_X12_init_1488 : decode m_X12_init.2.1 1488 = .ok (.iconst 0, 1) := by decide +kernel
theorem dd_X12_init_1489 : decode m_X12_init.2.1 1489 = .ok (.bipush 99, 2) := by decide +kernel
theorem dd_X12_init_1491 : decode m_X12_init.2.1 1491 = .ok (.castore, 1) := by decide +kernel
theorem dd_X12_init_1492 : decode m_X12_init.2.1 1492 = .ok (.dup, 1) := by decide +kernel
theorem dd_X12_init_1493 : decode m_X12_init.2.1 1493 = .ok (.iconst 1, 1) := by decide +kernel
theorem dd_X12_init_1494 : decode m_X12_init.2.1 1494 = .ok (.bipush 104, 2) := by decide +kernel
theorem dd_X12_init_1496 : decode m_X12_init.2.1 1496 = .ok (.castore, 1) := by decide +kernel
theorem dd_X12_init_1497 : decode m_X12_init.2.1 1497 = .ok (.dup, 1) := by decide +kernel
theorem dd_X12_init_1498 : decode m_X12_init.2.1 1498 = .ok (.iconst 2, 1) := by decide +kernel
theorem dd_X12_init_1499 : decode m_X12_init.2.1 1499 = .ok (.bipush 101, 2) := by decide +kernel
theorem dd_X12_init_1501 : decode m_X12_init.2.1 1501 = .ok (.castore, 1) := by decide +kernel
theorem dd_X12_init_1502 : decode m_X12_init.2.1 1502 = .ok (.dup, 1) := by decide +kernel
theorem dd_X12_init_1503 : decode m_X12_init.2.1 1503 = .ok (.iconst 3, 1) := by decide +kernel
theorem dd_X12_init_1504 : decode m_X12_init.2.1 1504 = .ok (.bipush 101, 2) := by decide +kernel
theorem dd_X12_init_1506 : decode m_X12_init.2.1 1506 = .ok (.castore, 1) := by decide +kernel
theorem dd_X12_init_1507 : decode m_X12_init.2.1 1507 = .ok (.dup, 1) := by decide +kernel
theorem dd_X12_init_1508 : decode m_X12_init.2.1 1508 = .ok (.iconst 4, 1) := by decide +kernel
theorem dd_X12_init_1509 : decode m_X12_init.2.1 1509 = .ok (.bipush 114, 2) := by decide +kernel
theorem dd_X12_init_1511 : decode m_X12_init.2.1 1511 = .ok (.castore, 1) := by decide +kernel
theorem dd_X12_init_1512 : decode m_X12_init.2.1 1512 = .ok (.putfield 213, 3) := by decide +kernel
theorem dd_X12_init_1515 : decode m_X12_init.2.1 1515 = .ok (.aload_n 0, 1) := by decide +kernel
theorem dd_X12_init_1516 : decode m_X12_init.2.1 1516 = .ok (.iconst 4, 1) := by decide +kernel
theorem dd_X12_init_1517 : decode m_X12_init.2.1 1517 = .ok (.newarray .char, 2) := by decide +kernel
theorem dd_X12_init_1519 : decode m_X12_init.2.1 1519 = .ok (.dup, 1) := by decide +kernel
theorem dd_X12_init_1520 : decode m_X12_init.2.1 1520 = .ok (.iconst 0, 1) := by decide +kernel
theorem dd_X12_init_1521 : decode m_X12_init.2.1 1521 = .ok (.bipush 97, 2) := by decide +kernel
theorem dd_X12_init_1523 : decode m_X12_init.2.1 1523 = .ok (.castore, 1) := by decide +kernel
theorem dd_X12_init_1524 : decode m_X12_init.2.1 1524 = .ok (.dup, 1) := by decide +kernel
theorem dd_X12_init_1525 : decode m_X12_init.2.1 1525 = .ok (.iconst 1, 1) := by decide +kernel
theorem dd_X12_init_1526 : decode m_X12_init.2.1 1526 = .ok (.bipush 119, 2) := by decide +kernel
theorem dd_X12_init_1528 : decode m_X12_init.2.1 1528 = .ok (.castore, 1) := by decide +kernel
theorem dd_X12_init_1529 : decode m_X12_init.2.1 1529 = .ok (.dup, 1) := by decide +kernel
theorem dd_X12_init_1530 : decode m_X12_init.2.1 1530 = .ok (.iconst 2, 1) := by decide +kernel
theorem dd_X12_init_1531 : decode m_X12_init.2.1 1531 = .ok (.bipush 97, 2) := by decide +kernel
theorem dd_X12_init_1533 : decode m_X12_init.2.1 1533 = .ok (.castore, 1) := by decide +kernel
theorem dd_X12_init_1534 : decode m_X12_init.2.1 1534 = .ok (.dup, 1) := by decide +kernel
theorem dd_X12_init_1535 : decode m_X12_init.2.1 1535 = .ok (.iconst 3, 1) := by decide +kernel
theorem dd_X12_init_1536 : decode m_X12_init.2.1 1536 = .ok (.bipush 121, 2) := by decide +kernel
theorem dd_X12_init_1538 : decode m_X12_init.2.1 1538 = .ok (.castore, 1) := by decide +kernel
theorem dd_X12_init_1539 : decode m_X12_init.2.1 1539 = .ok (.putfield 216, 3) := by decide +kernel
theorem dd_X12_init_1542 : decode m_X12_init.2.1 1542 = .ok (.aload_n 0, 1) := by decide +kernel
theorem dd_X12_init_1543 : decode m_X12_init.2.1 1543 = .ok (.bipush 6, 2) := by decide +kernel
theorem dd_X12_init_1545 : decode m_X12_init.2.1 1545 = .ok (.newarray .char, 2) := by decide +kernel
theorem dd_X12_init_1547 : decode m_X12_init.2.1 1547 = .ok (.dup, 1) := by decide +kernel
theorem dd_X12_init_1548 : decode m_X12_init.2.1 1548 = .ok (.iconst 0, 1) := by decide +kernel
theorem dd_X12_init_1549 : decode m_X12_init.2.1 1549 = .ok (.bipush 103, 2) := by decide +kernel
theorem dd_X12_init_1551 : decode m_X12_init.2.1 1551 = .ok (.castore, 1) := by decide +kernel
theorem dd_X12_init_1552 : decode m_X12_init.2.1 1552 = .ok (.dup, 1) := by decide +kernel
theorem dd_X12_init_1553 : decode m_X12_init.2.1 1553 = .ok (.iconst 1, 1) := by decide +kernel
theorem dd_X12_init_1554 : decode m_X12_init.2.1 1554 = .ok (.bipush 117, 2) := by decide +kernel
theorem dd_X12_init_1556 : decode m_X12_init.2.1 1556 = .ok (.castore, 1) := by decide +kernel
theorem dd_X12_init_1557 : decode m_X12_init.2.1 1557 = .ok (.dup, 1) := by decide +kernel
theorem dd_X12_init_1558 : decode m_X12_init.2.1 1558 = .ok (.iconst 2, 1) := by decide +kernel
theorem dd_X12_init_1559 : decode m_X12_init.2.1 1559 = .ok (.bipush 101, 2) := by decide +kernel
theorem dd_X12_init_1561 : decode m_X12_init.2.1 1561 = .ok (.castore, 1) := by decide +kernel
theorem dd_X12_init_1562 : decode m_X12_init.2.1 1562 = .ok (.dup, 1) := by decide +kernel
theorem dd_X12_init_1563 : decode m_X12_init.2.1 1563 = .ok (.iconst 3, 1) := by decide +kernel
theorem dd_X12_init_1564 : decode m_X12_init.2.1 1564 = .ok (.bipush 115, 2) := by decide +kernel
theorem dd_X12_init_1566 : decode m_X12_init.2.1 1566 = .ok (.castore, 1) := by decide +kernel
theorem dd_X12_init_1567 : decode m_X12_init.2.1 1567 = .ok (.dup, 1) := by decide +kernel
theorem dd_X12_init_1568 : decode m_X12_init.2.1 1568 = .ok (.iconst 4, 1) := by decide +kernel
theorem dd_X12_init_1569 : decode m_X12_init.2.1 1569 = .ok (.bipush 116, 2) := by decide +kernel
theorem dd_X12_init_1571 : decode m_X12_init.2.1 1571 = .ok (.castore, 1) := by decide +kernel
theorem dd_X12_init_1572 : decode m_X12_init.2.1 1572 = .ok (.dup, 1) := by decide +kernel
theorem dd_X12_init_1573 : decode m_X12_init.2.1 1573 = .ok (.iconst 5, 1) := by decide +kernel
theorem dd_X12_init_1574 : decode m_X12_init.2.1 1574 = .ok (.bipush 115, 2) := by decide +kernel
theorem dd_X12_init_1576 : decode m_X12_init.2.1 1576 = .ok (.castore, 1) := by decide +kernel
theorem dd_X12_init_1577 : decode m_X12_init.2.1 1577 = .ok (.putfield 219, 3) := by decide +kernel
theorem dd_X12_init_1580 : decode m_X12_init.2.1 1580 = .ok (.aload_n 0, 1) := by decide +kernel
theorem dd_X12_init_1581 : decode m_X12_init.2.1 1581 = .ok (.bipush 6, 2) := by decide +kernel
theorem dd_X12_init_1583 : decode m_X12_init.2.1 1583 = .ok (.newarray .char, 2) := by decide +kernel
theorem dd_X12_init_1585 : decode m_X12_init.2.1 1585 = .ok (.dup, 1) := by decide +kernel
theorem dd_X12_init_1586 : decode m_X12_init.2.1 1586 = .ok (.iconst 0, 1) := by decide +kernel
theorem dd_X12_init_1587 : decode m_X12_init.2.1 1587 = .ok (.bipush 110, 2) := by decide +kernel
theorem dd_X12_init_1589 : decode m_X12_init.2.1 1589 = .ok (.castore, 1) := by decide +kernel
theorem dd_X12_init_1590 : decode m_X12_init.2.1 1590 = .ok (.dup, 1) := by decide +kernel
theorem dd_X12_init_1591 : decode m_X12_init.2.1 1591 = .ok (.iconst 1, 1) := by decide +kernel
theorem dd_X12_init_1592 : decode m_X12_init.2.1 1592 = .ok (.bipush 117, 2) := by decide +kernel
theorem dd_X12_init_1594 : decode m_X12_init.2.1 1594 = .ok (.castore, 1) := by decide +kernel
theorem dd_X12_init_1595 : decode m_X12_init.2.1 1595 = .ok (.dup, 1) := by decide +kernel
theorem dd_X12_init_1596 : decode m_X12_init.2.1 1596 = .ok (.iconst 2, 1) := by decide +kernel
theorem dd_X12_init_1597 : decode m_X12_init.2.1 1597 = .ok (.bipush 109, 2) := by decide +kernel
theorem dd_X12_init_1599 : decode m_X12_init.2.1 1599 = .ok (.castore, 1) := by decide +kernel
theorem dd_X12_init_1600 : decode m_X12_init.2.1 1600 = .ok (.dup, 1) := by decide +kernel
theorem dd_X12_init_1601 : decode m_X12_init.2.1 1601 = .ok (.iconst 3, 1) := by decide +kernel
theorem dd_X12_init_1602 : decode m_X12_init.2.1 1602 = .ok (.bipush 98, 2) := by decide +kernel
theorem dd_X12_init_1604 : decode m_X12_init.2.1 1604 = .ok (.castore, 1) := by decide +kernel
theorem dd_X12_init_1605 : decode m_X12_init.2.1 1605 = .ok (.dup, 1) := by decide +kernel
theorem dd_X12_init_1606 : decode m_X12_init.2.1 1606 = .ok (.iconst 4, 1) := by decide +kernel
theorem dd_X12_init_1607 : decode m_X12_init.2.1 1607 = .ok (.bipush 101, 2) := by decide +kernel
theorem dd_X12_init_1609 : decode m_X12_init.2.1 1609 = .ok (.castore, 1) := by decide +kernel
theorem dd_X12_init_1610 : decode m_X12_init.2.1 1610 = .ok (.dup, 1) := by decide +kernel
theorem dd_X12_init_1611 : decode m_X12_init.2.1 1611 = .ok (.iconst 5, 1) := by decide +kernel
theorem dd_X12_init_1612 : decode m_X12_init.2.1 1612 = .ok (.bipush 114, 2) := by decide +kernel
theorem dd_X12_init_1614 : decode m_X12_init.2.1 1614 = .ok (.castore, 1) := by decide +kernel
theorem dd_X12_init_1615 : decode m_X12_init.2.1 1615 = .ok (.putfield 222, 3) := by decide +kernel
theorem dd_X12_init_1618 : decode m_X12_init.2.1 1618 = .ok (.aload_n 0, 1) := by decide +kernel
theorem dd_X12_init_1619 : decode m_X12_init.2.1 1619 = .ok (.iconst 5, 1) := by decide +kernel
theorem dd_X12_init_1620 : decode m_X12_init.2.1 1620 = .ok (.newarray .char, 2) := by decide +kernel
theorem dd_X12_init_1622 : decode m_X12_init.2.1 1622 = .ok (.dup, 1) := by decide +kernel
theorem dd_X12_init_1623 : decode m_X12_init.2.1 1623 = .ok (.iconst 0, 1) := by decide +kernel
theorem dd_X12_init_1624 : decode m_X12_init.2.1 1624 = .ok (.bipush 108, 2) := by decide +kernel
theorem dd_X12_init_1626 : decode m_X12_init.2.1 1626 = .ok (.castore, 1) := by decide +kernel
theorem dd_X12_init_1627 : decode m_X12_init.2.1 1627 = .ok (.dup, 1) := by decide +kernel
theorem dd_X12_init_1628 : decode m_X12_init.2.1 1628 = .ok (.iconst 1, 1) := by decide +kernel
theorem dd_X12_init_1629 : decode m_X12_init.2.1 1629 = .ok (.bipush 105, 2) := by decide +kernel
theorem dd_X12_init_1631 : decode m_X12_init.2.1 1631 = .ok (.castore, 1) := by decide +kernel
theorem dd_X12_init_1632 : decode m_X12_init.2.1 1632 = .ok (.dup, 1) := by decide +kernel
theorem dd_X12_init_1633 : decode m_X12_init.2.1 1633 = .ok (.iconst 2, 1) := by decide +kernel
theorem dd_X12_init_1634 : decode m_X12_init.2.1 1634 = .ok (.bipush 118, 2) := by decide +kernel
theorem dd_X12_init_1636 : decode m_X12_init.2.1 1636 = .ok (.castore, 1) := by decide +kernel
theorem dd_X12_init_1637 : decode m_X12_init.2.1 1637 = .ok (.dup, 1) := by decide +kernel
theorem dd_X12_init_1638 : decode m_X12_init.2.1 1638 = .ok (.iconst 3, 1) := by decide +kernel
theorem dd_X12_init_1639 : decode m_X12_init.2.1 1639 = .ok (.bipush 101, 2) := by decide +kernel
theorem dd_X12_init_1641 : decode m_X12_init.2.1 1641 = .ok (.castore, 1) := by decide +kernel
theorem dd_X12_init_1642 : decode m_X12_init.2.1 1642 = .ok (.dup, 1) := by decide +kernel
theorem dd_X12_init_1643 : decode m_X12_init.2.1 1643 = .ok (.iconst 4, 1) := by decide +kernel
theorem dd_X12_init_1644 : decode m_X12_init.2.1 1644 = .ok (.bipush 115, 2) := by decide +kernel
theorem dd_X12_init_1646 : decode m_X12_init.2.1 1646 = .ok (.castore, 1) := by decide +kernel
theorem dd_X12_init_1647 : decode m_X12_init.2.1 1647 = .ok (.putfield 225, 3) := by decide +kernel
theorem dd_X12_init_1650 : decode m_X12_init.2.1 1650 = .ok (.aload_n 0, 1) := by decide +kernel
theorem dd_X12_init_1651 : decode m_X12_init.2.1 1651 = .ok (.iconst 4, 1) := by decide +kernel
theorem dd_X12_init_1652 : decode m_X12_init.2.1 1652 = .ok (.newarray .char, 2) := by decide +kernel
theorem dd_X12_init_1654 : decode m_X12_init.2.1 1654 = .ok (.dup, 1) := by decide +kernel
theorem dd_X12_init_1655 : decode m_X12_init.2.1 1655 = .ok (.iconst 0, 1) := by decide +kernel
theorem dd_X12_init_1656 : decode m_X12_init.2.1 1656 = .ok (.bipush 104, 2) := by decide +kernel
theorem dd_X12_init_1658 : decode m_X12_init.2.1 1658 = .ok (.castore, 1) := by decide +kernel
theorem dd_X12_init_1659 : decode m_X12_init.2.1 1659 = .ok (.dup, 1) := by decide +kernel
theorem dd_X12_init_1660 : decode m_X12_init.2.1 1660 = .ok (.iconst 1, 1) := by decide +kernel
theorem dd_X12_init_1661 : decode m_X12_init.2.1 1661 = .ok (.bipush 111, 2) := by decide +kernel
theorem dd_X12_init_1663 : decode m_X12_init.2.1 1663 = .ok (.castore, 1) := by decide +kernel
theorem dd_X12_init_1664 : decode m_X12_init.2.1 1664 = .ok (.dup, 1) := by decide +kernel
theorem dd_X12_init_1665 : decode m_X12_init.2.1 1665 = .ok (.iconst 2, 1) := by decide +kernel
theorem dd_X12_init_1666 : decode m_X12_init.2.1 1666 = .ok (.bipush 109, 2) := by decide +kernel
theorem dd_X12_init_1668 : decode m_X12_init.2.1 1668 = .ok (.castore, 1) := by decide +kernel
theorem dd_X12_init_1669 : decode m_X12_init.2.1 1669 = .ok (.dup, 1) := by decide +kernel
theorem dd_X12_init_1670 : decode m_X12_init.2.1 1670 = .ok (.iconst 3, 1) := by decide +kernel
theorem dd_X12_init_1671 : decode m_X12_init.2.1 1671 = .ok (.bipush 101, 2) := by decide +kernel
theorem dd_X12_init_1673 : decode m_X12_init.2.1 1673 = .ok (.castore, 1) := by decide +kernel
theorem dd_X12_init_1674 : decode m_X12_init.2.1 1674 = .ok (.putfield 228, 3) := by decide +kernel
theorem dd_X12_init_1677 : decode m_X12_init.2.1 1677 = .ok (.aload_n 0, 1) := by decide +kernel
theorem dd_X12_init_1678 : decode m_X12_init.2.1 1678 = .ok (.bipush 7, 2) := by decide +kernel
theorem dd_X12_init_1680 : decode m_X12_init.2.1 1680 = .ok (.newarray .char, 2) := by decide +kernel
theorem dd_X12_init_1682 : decode m_X12_init.2.1 1682 = .ok (.dup, 1) := by decide +kernel
theorem dd_X12_init_1683 : decode m_X12_init.2.1 1683 = .ok (.iconst 0, 1) := by decide +kernel
theorem dd_X12_init_1684 : decode m_X12_init.2.1 1684 = .ok (.bipush 104, 2) := by decide +kernel
theorem dd_X12_init_1686 : decode m_X12_init.2.1 1686 = .ok (.castore, 1) := by decide +kernel
theorem dd_X12_init_1687 : decode m_X12_init.2.1 1687 = .ok (.dup, 1) := by decide +kernel
theorem dd_X12_init_1688 : decode m_X12_init.2.1 1688 = .ok (.iconst 1, 1) := by decide +kernel
theorem dd_X12_init_1689 : decode m_X12_init.2.1 1689 = .ok (.bipush 97, 2) := by decide +kernel
theorem dd_X12_init_1691 : decode m_X12_init.2.1 1691 = .ok (.castore, 1) := by decide +kernel
theorem dd_X12_init_1692 : decode m_X12_init.2.1 1692 = .ok (.dup, 1) := by decide +kernel
theorem dd_X12_init_1693 : decode m_X12_init.2.1 1693 = .ok (.iconst 2, 1) := by decide +kernel
theorem dd_X12_init_1694 : decode m_X12_init.2.1 1694 = .ok (.bipush 114, 2) := by decide +kernel
theorem dd_X12_init_1696 : decode m_X12_init.2.1 1696 = .ok (.castore, 1) := by decide +kernel
theorem dd_X12_init_1697 : decode m_X12_init.2.1 1697 = .ok (.dup, 1) := by decide +kernel
theorem dd_X12_init_1698 : decode m_X12_init.2.1 1698 = .ok (.iconst 3, 1) := by decide +kernel
theorem dd_X12_init_1699 : decode m_X12_init.2.1 1699 = .ok (.bipush 118, 2) := by decide +kernel
theorem dd_X12_init_1701 : decode m_X12_init.2.1 1701 = .ok (.castore, 1) := by decide +kernel
theorem dd_X12_init_1702 : decode m_X12_init.2.1 1702 = .ok (.dup, 1) := by decide +kernel
theorem dd_X12_init_1703 : decode m_X12_init.2.1 1703 = .ok (.iconst 4, 1) := by decide +kernel
theorem dd_X12_init_1704 : decode m_X12_init.2.1 1704 = .ok (.bipush 101, 2) := by decide +kernel
theorem dd_X12_init_1706 : decode m_X12_init.2.1 1706 = .ok (.castore, 1) := by decide +kernel
theorem dd_X12_init_1707 : decode m_X12_init.2.1 1707 = .ok (.dup, 1) := by decide +kernel
theorem dd_X12_init_1708 : decode m_X12_init.2.1 1708 = .ok (.iconst 5, 1) := by decide +kernel
theorem dd_X12_init_1709 : decode m_X12_init.2.1 1709 = .ok (.bipush 115, 2) := by decide +kernel
theorem dd_X12_init_1711 : decode m_X12_init.2.1 1711 = .ok (.castore, 1) := by decide +kernel
theorem dd_X12_init_1712 : decode m_X12_init.2.1 1712 = .ok (.dup, 1) := by decide +kernel
theorem dd_X12_init_1713 : decode m_X12_init.2.1 1713 = .ok (.bipush 6, 2) := by decide +kernel
theorem dd_X12_init_1715 : decode m_X12_init.2.1 1715 = .ok (.bipush 116, 2) := by decide +kernel
theorem dd_X12_init_1717 : decode m_X12_init.2.1 1717 = .ok (.castore, 1) := by decide +kernel
theorem dd_X12_init_1718 : decode m_X12_init.2.1 1718 = .ok (.putfield 231, 3) := by decide +kernel
theorem dd_X12_init_1721 : decode m_X12_init.2.1 1721 = .ok (.aload_n 0, 1) := by decide +kernel
theorem dd_X12_init_1722 : decode m_X12_init.2.1 1722 = .ok (.iconst 4, 1) := by decide +kernel
theorem dd_X12_init_1723 : decode m_X12_init.2.1 1723 = .ok (.newarray .char, 2) := by decide +kernel
theorem dd_X12_init_1725 : decode m_X12_init.2.1 1725 = .ok (.dup, 1) := by decide +kernel
theorem dd_X12_init_1726 : decode m_X12_init.2.1 1726 = .ok (.iconst 0, 1) := by decide +kernel
theorem dd_X12_init_1727 : decode m_X12_init.2.1 1727 = .ok (.bipush 100, 2) := by decide +kernel
theorem dd_X12_init_1729 : decode m_X12_init.2.1 1729 = .ok (.castore, 1) := by decide +kernel
theorem dd_X12_init_1730 : decode m_X12_init.2.1 1730 = .ok (.dup, 1) := by decide +kernel
theorem dd_X12_init_1731 : decode m_X12_init.2.1 1731 = .ok (.iconst 1, 1) := by decide +kernel
theorem dd_X12_init_1732 : decode m_X12_init.2.1 1732 = .ok (.bipush 111, 2) := by decide +kernel
theorem dd_X12_init_1734 : decode m_X12_init.2.1 1734 = .ok (.castore, 1) := by decide +kernel
theorem dd_X12_init_1735 : decode m_X12_init.2.1 1735 = .ok (.dup, 1) := by decide +kernel
theorem dd_X12_init_1736 : decode m_X12_init.2.1 1736 = .ok (.iconst 2, 1) := by decide +kernel
theorem dd_X12_init_1737 : decode m_X12_init.2.1 1737 = .ok (.bipush 101, 2) := by decide +kernel
theorem dd_X12_init_1739 : decode m_X12_init.2.1 1739 = .ok (.castore, 1) := by decide +kernel
theorem dd_X12_init_1740 : decode m_X12_init.2.1 1740 = .ok (.dup, 1) := by decide +kernel
theorem dd_X12_init_1741 : decode m_X12_init.2.1 1741 = .ok (.iconst 3, 1) := by decide +kernel
theorem dd_X12_init_1742 : decode m_X12_init.2.1 1742 = .ok (.bipush 115, 2) := by decide +kernel
theorem dd_X12_init_1744 : decode m_X12_init.2.1 1744 = .ok (.castore, 1) := by decide +kernel
theorem dd_X12_init_1745 : decode m_X12_init.2.1 1745 = .ok (.putfield 234, 3) := by decide +kernel
theorem dd_X12_init_1748 : decode m_X12_init.2.1 1748 = .ok (.aload_n 0, 1) := by decide +kernel
theorem dd_X12_init_1749 : decode m_X12_init.2.1 1749 = .ok (.sipush 1700, 3) := by decide +kernel
theorem dd_X12_init_1752 : decode m_X12_init.2.1 1752 = .ok (.newarray .int, 2) := by decide +kernel
theorem dd_X12_init_1754 : decode m_X12_init.2.1 1754 = .ok (.putfield 237, 3) := by decide +kernel
theorem dd_X12_init_1757 : decode m_X12_init.2.1 1757 = .ok (.aload_n 0, 1) := by decide +kernel
theorem dd_X12_init_1758 : decode m_X12_init.2.1 1758 = .ok (.sipush 1700, 3) := by decide +kernel
theorem dd_X12_init_1761 : decode m_X12_init.2.1 1761 = .ok (.newarray .int, 2) := by decide +kernel
theorem dd_X12_init_1763 : decode m_X12_init.2.1 1763 = .ok (.putfield 240, 3) := by decide +kernel
theorem dd_X12_init_1766 : decode m_X12_init.2.1 1766 = .ok (.aload_n 0, 1) := by decide +kernel
theorem dd_X12_init_1767 : decode m_X12_init.2.1 1767 = .ok (.sipush 1700, 3) := by decide +kernel
theorem dd_X12_init_1770 : decode m_X12_init.2.1 1770 = .ok (.newarray .long, 2) := by decide +kernel
theorem dd_X12_init_1772 : decode m_X12_init.2.1 1772 = .ok (.putfield 243, 3) := by decide +kernel
theorem dd_X12_init_1775 : decode m_X12_init.2.1 1775 = .ok (.aload_n 0, 1) := by decide +kernel
theorem dd_X12_init_1776 : decode m_X12_init.2.1 1776 = .ok (.bipush 33, 2) := by decide +kernel
theorem dd_X12_init_1778 : decode m_X12_init.2.1 1778 = .ok (.newarray .int, 2) := by decide +kernel
theorem dd_X12_init_1780 : decode m_X12_init.2.1 1780 = .ok (.putfield 246, 3) := by decide +kernel
theorem dd_X12_init_1783 : decode m_X12_init.2.1 1783 = .ok (.return_, 1) := by decide +kernel
