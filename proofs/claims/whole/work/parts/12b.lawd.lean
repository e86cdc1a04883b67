/-! the law: decode rows, by program (wip/whole/genlaw.py) -/
theorem dL_law_1327 : decode mL_law.2.1 1327 = .ok (.aload_n 2, 1) := by decide +kernel
theorem dL_law_1328 : decode mL_law.2.1 1328 = .ok (.aload_n 0, 1) := by decide +kernel
theorem dL_law_1329 : decode mL_law.2.1 1329 = .ok (.iload_n 3, 1) := by decide +kernel
theorem dL_law_1330 : decode mL_law.2.1 1330 = .ok (.iconst 1, 1) := by decide +kernel
theorem dL_law_1331 : decode mL_law.2.1 1331 = .ok (.iadd, 1) := by decide +kernel
theorem dL_law_1332 : decode mL_law.2.1 1332 = .ok (.iaload, 1) := by decide +kernel
theorem dL_law_1333 : decode mL_law.2.1 1333 = .ok (.ifCond .eq 7, 3) := by decide +kernel
theorem dL_law_1336 : decode mL_law.2.1 1336 = .ok (.iconst 1, 1) := by decide +kernel
theorem dL_law_1337 : decode mL_law.2.1 1337 = .ok (.goto 4, 3) := by decide +kernel
theorem dL_law_1340 : decode mL_law.2.1 1340 = .ok (.iconst 0, 1) := by decide +kernel
theorem dL_law_1341 : decode mL_law.2.1 1341 = .ok (.aload_n 0, 1) := by decide +kernel
theorem dL_law_1342 : decode mL_law.2.1 1342 = .ok (.iload_n 3, 1) := by decide +kernel
theorem dL_law_1343 : decode mL_law.2.1 1343 = .ok (.iconst 2, 1) := by decide +kernel
theorem dL_law_1344 : decode mL_law.2.1 1344 = .ok (.iadd, 1) := by decide +kernel
theorem dL_law_1345 : decode mL_law.2.1 1345 = .ok (.iaload, 1) := by decide +kernel
theorem dL_law_1346 : decode mL_law.2.1 1346 = .ok (.invokevirtual 141, 3) := by decide +kernel
theorem dL_law_1349 : decode mL_law.2.1 1349 = .ok (.if_icmp .eq 383, 3) := by decide +kernel
theorem dL_law_1352 : decode mL_law.2.1 1352 = .ok (.iconst 0, 1) := by decide +kernel
theorem dL_law_1353 : decode mL_law.2.1 1353 = .ok (.ireturn, 1) := by decide +kernel
theorem dL_law_1354 : decode mL_law.2.1 1354 = .ok (.aload_n 1, 1) := by decide +kernel
theorem dL_law_1355 : decode mL_law.2.1 1355 = .ok (.aload_n 0, 1) := by decide +kernel
theorem dL_law_1356 : decode mL_law.2.1 1356 = .ok (.iload_n 3, 1) := by decide +kernel
theorem dL_law_1357 : decode mL_law.2.1 1357 = .ok (.iconst 1, 1) := by decide +kernel
theorem dL_law_1358 : decode mL_law.2.1 1358 = .ok (.iadd, 1) := by decide +kernel
theorem dL_law_1359 : decode mL_law.2.1 1359 = .ok (.iaload, 1) := by decide +kernel
theorem dL_law_1360 : decode mL_law.2.1 1360 = .ok (.invokevirtual 142, 3) := by decide +kernel
theorem dL_law_1363 : decode mL_law.2.1 1363 = .ok (.aload_n 2, 1) := by decide +kernel
theorem dL_law_1364 : decode mL_law.2.1 1364 = .ok (.aload_n 0, 1) := by decide +kernel
theorem dL_law_1365 : decode mL_law.2.1 1365 = .ok (.iload_n 3, 1) := by decide +kernel
theorem dL_law_1366 : decode mL_law.2.1 1366 = .ok (.iconst 1, 1) := by decide +kernel
theorem dL_law_1367 : decode mL_law.2.1 1367 = .ok (.iadd, 1) := by decide +kernel
theorem dL_law_1368 : decode mL_law.2.1 1368 = .ok (.iaload, 1) := by decide +kernel
theorem dL_law_1369 : decode mL_law.2.1 1369 = .ok (.invokevirtual 145, 3) := by decide +kernel
theorem dL_law_1372 : decode mL_law.2.1 1372 = .ok (.if_icmp .eq 360, 3) := by decide +kernel
theorem dL_law_1375 : decode mL_law.2.1 1375 = .ok (.iconst 0, 1) := by decide +kernel
theorem dL_law_1376 : decode mL_law.2.1 1376 = .ok (.ireturn, 1) := by decide +kernel
theorem dL_law_1377 : decode mL_law.2.1 1377 = .ok (.aload_n 1, 1) := by decide +kernel
theorem dL_law_1378 : decode mL_law.2.1 1378 = .ok (.aload_n 0, 1) := by decide +kernel
theorem dL_law_1379 : decode mL_law.2.1 1379 = .ok (.iload_n 3, 1) := by decide +kernel
theorem dL_law_1380 : decode mL_law.2.1 1380 = .ok (.iconst 1, 1) := by decide +kernel
theorem dL_law_1381 : decode mL_law.2.1 1381 = .ok (.iadd, 1) := by decide +kernel
theorem dL_law_1382 : decode mL_law.2.1 1382 = .ok (.iaload, 1) := by decide +kernel
theorem dL_law_1383 : decode mL_law.2.1 1383 = .ok (.aload_n 0, 1) := by decide +kernel
theorem dL_law_1384 : decode mL_law.2.1 1384 = .ok (.iload_n 3, 1) := by decide +kernel
theorem dL_law_1385 : decode mL_law.2.1 1385 = .ok (.iconst 2, 1) := by decide +kernel
theorem dL_law_1386 : decode mL_law.2.1 1386 = .ok (.iadd, 1) := by decide +kernel
theorem dL_law_1387 : decode mL_law.2.1 1387 = .ok (.iaload, 1) := by decide +kernel
theorem dL_law_1388 : decode mL_law.2.1 1388 = .ok (.invokevirtual 146, 3) := by decide +kernel
theorem dL_law_1391 : decode mL_law.2.1 1391 = .ok (.aload_n 2, 1) := by decide +kernel
theorem dL_law_1392 : decode mL_law.2.1 1392 = .ok (.aload_n 0, 1) := by decide +kernel
theorem dL_law_1393 : decode mL_law.2.1 1393 = .ok (.iload_n 3, 1) := by decide +kernel
theorem dL_law_1394 : decode mL_law.2.1 1394 = .ok (.iconst 1, 1) := by decide +kernel
theorem dL_law_1395 : decode mL_law.2.1 1395 = .ok (.iadd, 1) := by decide +kernel
theorem dL_law_1396 : decode mL_law.2.1 1396 = .ok (.iaload, 1) := by decide +kernel
theorem dL_law_1397 : decode mL_law.2.1 1397 = .ok (.aload_n 0, 1) := by decide +kernel
theorem dL_law_1398 : decode mL_law.2.1 1398 = .ok (.iload_n 3, 1) := by decide +kernel
theorem dL_law_1399 : decode mL_law.2.1 1399 = .ok (.iconst 2, 1) := by decide +kernel
theorem dL_law_1400 : decode mL_law.2.1 1400 = .ok (.iadd, 1) := by decide +kernel
theorem dL_law_1401 : decode mL_law.2.1 1401 = .ok (.iaload, 1) := by decide +kernel
theorem dL_law_1402 : decode mL_law.2.1 1402 = .ok (.invokevirtual 149, 3) := by decide +kernel
theorem dL_law_1405 : decode mL_law.2.1 1405 = .ok (.if_icmp .eq 327, 3) := by decide +kernel
theorem dL_law_1408 : decode mL_law.2.1 1408 = .ok (.iconst 0, 1) := by decide +kernel
theorem dL_law_1409 : decode mL_law.2.1 1409 = .ok (.ireturn, 1) := by decide +kernel
theorem dL_law_1410 : decode mL_law.2.1 1410 = .ok (.aload_n 1, 1) := by decide +kernel
theorem dL_law_1411 : decode mL_law.2.1 1411 = .ok (.aload_n 0, 1) := by decide +kernel
theorem dL_law_1412 : decode mL_law.2.1 1412 = .ok (.iload_n 3, 1) := by decide +kernel
theorem dL_law_1413 : decode mL_law.2.1 1413 = .ok (.iconst 1, 1) := by decide +kernel
theorem dL_law_1414 : decode mL_law.2.1 1414 = .ok (.iadd, 1) := by decide +kernel
theorem dL_law_1415 : decode mL_law.2.1 1415 = .ok (.iaload, 1) := by decide +kernel
theorem dL_law_1416 : decode mL_law.2.1 1416 = .ok (.invokevirtual 150, 3) := by decide +kernel
theorem dL_law_1419 : decode mL_law.2.1 1419 = .ok (.aload_n 2, 1) := by decide +kernel
theorem dL_law_1420 : decode mL_law.2.1 1420 = .ok (.aload_n 0, 1) := by decide +kernel
theorem dL_law_1421 : decode mL_law.2.1 1421 = .ok (.iload_n 3, 1) := by decide +kernel
theorem dL_law_1422 : decode mL_law.2.1 1422 = .ok (.iconst 1, 1) := by decide +kernel
theorem dL_law_1423 : decode mL_law.2.1 1423 = .ok (.iadd, 1) := by decide +kernel
theorem dL_law_1424 : decode mL_law.2.1 1424 = .ok (.iaload, 1) := by decide +kernel
theorem dL_law_1425 : decode mL_law.2.1 1425 = .ok (.invokevirtual 153, 3) := by decide +kernel
theorem dL_law_1428 : decode mL_law.2.1 1428 = .ok (.if_icmp .eq 304, 3) := by decide +kernel
theorem dL_law_1431 : decode mL_law.2.1 1431 = .ok (.iconst 0, 1) := by decide +kernel
theorem dL_law_1432 : decode mL_law.2.1 1432 = .ok (.ireturn, 1) := by decide +kernel
theorem dL_law_1433 : decode mL_law.2.1 1433 = .ok (.aload_n 1, 1) := by decide +kernel
theorem dL_law_1434 : decode mL_law.2.1 1434 = .ok (.aload_n 0, 1) := by decide +kernel
theorem dL_law_1435 : decode mL_law.2.1 1435 = .ok (.iload_n 3, 1) := by decide +kernel
theorem dL_law_1436 : decode mL_law.2.1 1436 = .ok (.iconst 1, 1) := by decide +kernel
theorem dL_law_1437 : decode mL_law.2.1 1437 = .ok (.iadd, 1) := by decide +kernel
theorem dL_law_1438 : decode mL_law.2.1 1438 = .ok (.iaload, 1) := by decide +kernel
theorem dL_law_1439 : decode mL_law.2.1 1439 = .ok (.invokevirtual 154, 3) := by decide +kernel
theorem dL_law_1442 : decode mL_law.2.1 1442 = .ok (.aload_n 2, 1) := by decide +kernel
theorem dL_law_1443 : decode mL_law.2.1 1443 = .ok (.aload_n 0, 1) := by decide +kernel
theorem dL_law_1444 : decode mL_law.2.1 1444 = .ok (.iload_n 3, 1) := by decide +kernel
theorem dL_law_1445 : decode mL_law.2.1 1445 = .ok (.iconst 1, 1) := by decide +kernel
theorem dL_law_1446 : decode mL_law.2.1 1446 = .ok (.iadd, 1) := by decide +kernel
theorem dL_law_1447 : decode mL_law.2.1 1447 = .ok (.iaload, 1) := by decide +kernel
theorem dL_law_1448 : decode mL_law.2.1 1448 = .ok (.invokevirtual 157, 3) := by decide +kernel
theorem dL_law_1451 : decode mL_law.2.1 1451 = .ok (.if_icmp .eq 281, 3) := by decide +kernel
theorem dL_law_1454 : decode mL_law.2.1 1454 = .ok (.iconst 0, 1) := by decide +kernel
theorem dL_law_1455 : decode mL_law.2.1 1455 = .ok (.ireturn, 1) := by decide +kernel
theorem dL_law_1456 : decode mL_law.2.1 1456 = .ok (.aload_n 1, 1) := by decide +kernel
theorem dL_law_1457 : decode mL_law.2.1 1457 = .ok (.aload_n 0, 1) := by decide +kernel
theorem dL_law_1458 : decode mL_law.2.1 1458 = .ok (.iload_n 3, 1) := by decide +kernel
theorem dL_law_1459 : decode mL_law.2.1 1459 = .ok (.iconst 1, 1) := by decide +kernel
theorem dL_law_1460 : decode mL_law.2.1 1460 = .ok (.iadd, 1) := by decide +kernel
theorem dL_law_1461 : decode mL_law.2.1 1461 = .ok (.iaload, 1) := by decide +kernel
theorem dL_law_1462 : decode mL_law.2.1 1462 = .ok (.aload_n 0, 1) := by decide +kernel
theorem dL_law_1463 : decode mL_law.2.1 1463 = .ok (.iload_n 3, 1) := by decide +kernel
theorem dL_law_1464 : decode mL_law.2.1 1464 = .ok (.iconst 2, 1) := by decide +kernel
theorem dL_law_1465 : decode mL_law.2.1 1465 = .ok (.iadd, 1) := by decide +kernel
theorem dL_law_1466 : decode mL_law.2.1 1466 = .ok (.iaload, 1) := by decide +kernel
theorem dL_law_1467 : decode mL_law.2.1 1467 = .ok (.ifCond .eq 7, 3) := by decide +kernel
theorem dL_law_1470 : decode mL_law.2.1 1470 = .ok (.iconst 1, 1) := by decide +kernel
theorem dL_law_1471 : decode mL_law.2.1 1471 = .ok (.goto 4, 3) := by decide +kernel
theorem dL_law_1474 : decode mL_law.2.1 1474 = .ok (.iconst 0, 1) := by decide +kernel
theorem dL_law_1475 : decode mL_law.2.1 1475 = .ok (.aload_n 0, 1) := by decide +kernel
theorem dL_law_1476 : decode mL_law.2.1 1476 = .ok (.iload_n 3, 1) := by decide +kernel
theorem dL_law_1477 : decode mL_law.2.1 1477 = .ok (.iconst 3, 1) := by decide +kernel
theorem dL_law_1478 : decode mL_law.2.1 1478 = .ok (.iadd, 1) := by decide +kernel
theorem dL_law_1479 : decode mL_law.2.1 1479 = .ok (.iaload, 1) := by decide +kernel
theorem dL_law_1480 : decode mL_law.2.1 1480 = .ok (.invokevirtual 158, 3) := by decide +kernel
theorem dL_law_1483 : decode mL_law.2.1 1483 = .ok (.aload_n 2, 1) := by decide +kernel
theorem dL_law_1484 : decode mL_law.2.1 1484 = .ok (.aload_n 0, 1) := by decide +kernel
theorem dL_law_1485 : decode mL_law.2.1 1485 = .ok (.iload_n 3, 1) := by decide +kernel
theorem dL_law_1486 : decode mL_law.2.1 1486 = .ok (.iconst 1, 1) := by decide +kernel
theorem dL_law_1487 : decode mL_law.2.1 1487 = .ok (.iadd, 1) := by decide +kernel
theorem dL_law_1488 : decode mL_law.2.1 1488 = .ok (.iaload, 1) := by decide +kernel
theorem dL_law_1489 : decode mL_law.2.1 1489 = .ok (.aload_n 0, 1) := by decide +kernel
theorem dL_law_1490 : decode mL_law.2.1 1490 = .ok (.iload_n 3, 1) := by decide +kernel
theorem dL_law_1491 : decode mL_law.2.1 1491 = .ok (.iconst 2, 1) := by decide +kernel
theorem dL_law_1492 : decode mL_law.2.1 1492 = .ok (.iadd, 1) := by decide +kernel
theorem dL_law_1493 : decode mL_law.2.1 1493 = .ok (.iaload, 1) := by decide +kernel
theorem dL_law_1494 : decode mL_law.2.1 1494 = .ok (.ifCond .eq 7, 3) := by decide +kernel
theorem dL_law_1497 : decode mL_law.2.1 1497 = .ok (.iconst 1, 1) := by decide +kernel
theorem dL_law_1498 : decode mL_law.2.1 1498 = .ok (.goto 4, 3) := by decide +kernel
theorem dL_law_1501 : decode mL_law.2.1 1501 = .ok (.iconst 0, 1) := by decide +kernel
theorem dL_law_1502 : decode mL_law.2.1 1502 = .ok (.aload_n 0, 1) := by decide +kernel
theorem dL_law_1503 : decode mL_law.2.1 1503 = .ok (.iload_n 3, 1) := by decide +kernel
theorem dL_law_1504 : decode mL_law.2.1 1504 = .ok (.iconst 3, 1) := by decide +kernel
theorem dL_law_1505 : decode mL_law.2.1 1505 = .ok (.iadd, 1) := by decide +kernel
theorem dL_law_1506 : decode mL_law.2.1 1506 = .ok (.iaload, 1) := by decide +kernel
theorem dL_law_1507 : decode mL_law.2.1 1507 = .ok (.invokevirtual 161, 3) := by decide +kernel
theorem dL_law_1510 : decode mL_law.2.1 1510 = .ok (.if_icmp .eq 222, 3) := by decide +kernel
theorem dL_law_1513 : decode mL_law.2.1 1513 = .ok (.iconst 0, 1) := by decide +kernel
theorem dL_law_1514 : decode mL_law.2.1 1514 = .ok (.ireturn, 1) := by decide +kernel
theorem dL_law_1515 : decode mL_law.2.1 1515 = .ok (.aload_n 1, 1) := by decide +kernel
theorem dL_law_1516 : decode mL_law.2.1 1516 = .ok (.aload_n 0, 1) := by decide +kernel
theorem dL_law_1517 : decode mL_law.2.1 1517 = .ok (.iload_n 3, 1) := by decide +kernel
theorem dL_law_1518 : decode mL_law.2.1 1518 = .ok (.iconst 1, 1) := by decide +kernel
theorem dL_law_1519 : decode mL_law.2.1 1519 = .ok (.iadd, 1) := by decide +kernel
theorem dL_law_1520 : decode mL_law.2.1 1520 = .ok (.iaload, 1) := by decide +kernel
theorem dL_law_1521 : decode mL_law.2.1 1521 = .ok (.aload_n 0, 1) := by decide +kernel
theorem dL_law_1522 : decode mL_law.2.1 1522 = .ok (.iload_n 3, 1) := by decide +kernel
theorem dL_law_1523 : decode mL_law.2.1 1523 = .ok (.iconst 2, 1) := by decide +kernel
theorem dL_law_1524 : decode mL_law.2.1 1524 = .ok (.iadd, 1) := by decide +kernel
theorem dL_law_1525 : decode mL_law.2.1 1525 = .ok (.iaload, 1) := by decide +kernel
theorem dL_law_1526 : decode mL_law.2.1 1526 = .ok (.aload_n 0, 1) := by decide +kernel
theorem dL_law_1527 : decode mL_law.2.1 1527 = .ok (.iload_n 3, 1) := by decide +kernel
theorem dL_law_1528 : decode mL_law.2.1 1528 = .ok (.iconst 3, 1) := by decide +kernel
theorem dL_law_1529 : decode mL_law.2.1 1529 = .ok (.iadd, 1) := by decide +kernel
theorem dL_law_1530 : decode mL_law.2.1 1530 = .ok (.iaload, 1) := by decide +kernel
theorem dL_law_1531 : decode mL_law.2.1 1531 = .ok (.invokevirtual 162, 3) := by decide +kernel
theorem dL_law_1534 : decode mL_law.2.1 1534 = .ok (.aload_n 2, 1) := by decide +kernel
theorem dL_law_1535 : decode mL_law.2.1 1535 = .ok (.aload_n 0, 1) := by decide +kernel
theorem dL_law_1536 : decode mL_law.2.1 1536 = .ok (.iload_n 3, 1) := by decide +kernel
theorem dL_law_1537 : decode mL_law.2.1 1537 = .ok (.iconst 1, 1) := by decide +kernel
theorem dL_law_1538 : decode mL_law.2.1 1538 = .ok (.iadd, 1) := by decide +kernel
theorem dL_law_1539 : decode mL_law.2.1 1539 = .ok (.iaload, 1) := by decide +kernel
theorem dL_law_1540 : decode mL_law.2.1 1540 = .ok (.aload_n 0, 1) := by decide +kernel
theorem dL_law_1541 : decode mL_law.2.1 1541 = .ok (.iload_n 3, 1) := by decide +kernel
theorem dL_law_1542 : decode mL_law.2.1 1542 = .ok (.iconst 2, 1) := by decide +kernel
theorem dL_law_1543 : decode mL_law.2.1 1543 = .ok (.iadd, 1) := by decide +kernel
theorem dL_law_1544 : decode mL_law.2.1 1544 = .ok (.iaload, 1) := by decide +kernel
theorem dL_law_1545 : decode mL_law.2.1 1545 = .ok (.aload_n 0, 1) := by decide +kernel
theorem dL_law_1546 : decode mL_law.2.1 1546 = .ok (.iload_n 3, 1) := by decide +kernel
theorem dL_law_1547 : decode mL_law.2.1 1547 = .ok (.iconst 3, 1) := by decide +kernel
theorem dL_law_1548 : decode mL_law.2.1 1548 = .ok (.iadd, 1) := by decide +kernel
theorem dL_law_1549 : decode mL_law.2.1 1549 = .ok (.iaload, 1) := by decide +kernel
theorem dL_law_1550 : decode mL_law.2.1 1550 = .ok (.invokevirtual 165, 3) := by decide +kernel
theorem dL_law_1553 : decode mL_law.2.1 1553 = .ok (.if_icmp .eq 179, 3) := by decide +kernel
theorem dL_law_1556 : decode mL_law.2.1 1556 = .ok (.iconst 0, 1) := by decide +kernel
theorem dL_law_1557 : decode mL_law.2.1 1557 = .ok (.ireturn, 1) := by decide +kernel
theorem dL_law_1558 : decode mL_law.2.1 1558 = .ok (.aload_n 1, 1) := by decide +kernel
theorem dL_law_1559 : decode mL_law.2.1 1559 = .ok (.aload_n 0, 1) := by decide +kernel
theorem dL_law_1560 : decode mL_law.2.1 1560 = .ok (.iload_n 3, 1) := by decide +kernel
theorem dL_law_1561 : decode mL_law.2.1 1561 = .ok (.iconst 1, 1) := by decide +kernel
theorem dL_law_1562 : decode mL_law.2.1 1562 = .ok (.iadd, 1) := by decide +kernel
theorem dL_law_1563 : decode mL_law.2.1 1563 = .ok (.iaload, 1) := by decide +kernel
theorem dL_law_1564 : decode mL_law.2.1 1564 = .ok (.aload_n 0, 1) := by decide +kernel
theorem dL_law_1565 : decode mL_law.2.1 1565 = .ok (.iload_n 3, 1) := by decide +kernel
theorem dL_law_1566 : decode mL_law.2.1 1566 = .ok (.iconst 2, 1) := by decide +kernel
theorem dL_law_1567 : decode mL_law.2.1 1567 = .ok (.iadd, 1) := by decide +kernel
theorem dL_law_1568 : decode mL_law.2.1 1568 = .ok (.iaload, 1) := by decide +kernel
theorem dL_law_1569 : decode mL_law.2.1 1569 = .ok (.ifCond .eq 7, 3) := by decide +kernel
theorem dL_law_1572 : decode mL_law.2.1 1572 = .ok (.iconst 1, 1) := by decide +kernel
theorem dL_law_1573 : decode mL_law.2.1 1573 = .ok (.goto 4, 3) := by decide +kernel
theorem dL_law_1576 : decode mL_law.2.1 1576 = .ok (.iconst 0, 1) := by decide +kernel
theorem dL_law_1577 : decode mL_law.2.1 1577 = .ok (.invokevirtual 166, 3) := by decide +kernel
theorem dL_law_1580 : decode mL_law.2.1 1580 = .ok (.aload_n 2, 1) := by decide +kernel
theorem dL_law_1581 : decode mL_law.2.1 1581 = .ok (.aload_n 0, 1) := by decide +kernel
theorem dL_law_1582 : decode mL_law.2.1 1582 = .ok (.iload_n 3, 1) := by decide +kernel
theorem dL_law_1583 : decode mL_law.2.1 1583 = .ok (.iconst 1, 1) := by decide +kernel
theorem dL_law_1584 : decode mL_law.2.1 1584 = .ok (.iadd, 1) := by decide +kernel
theorem dL_law_1585 : decode mL_law.2.1 1585 = .ok (.iaload, 1) := by decide +kernel
theorem dL_law_1586 : decode mL_law.2.1 1586 = .ok (.aload_n 0, 1) := by decide +kernel
theorem dL_law_1587 : decode mL_law.2.1 1587 = .ok (.iload_n 3, 1) := by decide +kernel
theorem dL_law_1588 : decode mL_law.2.1 1588 = .ok (.iconst 2, 1) := by decide +kernel
theorem dL_law_1589 : decode mL_law.2.1 1589 = .ok (.iadd, 1) := by decide +kernel
theorem dL_law_1590 : decode mL_law.2.1 1590 = .ok (.iaload, 1) := by decide +kernel
theorem dL_law_1591 : decode mL_law.2.1 1591 = .ok (.ifCond .eq 7, 3) := by decide +kernel
theorem dL_law_1594 : decode mL_law.2.1 1594 = .ok (.iconst 1, 1) := by decide +kernel
theorem dL_law_1595 : decode mL_law.2.1 1595 = .ok (.goto 4, 3) := by decide +kernel
theorem dL_law_1598 : decode mL_law.2.1 1598 = .ok (.iconst 0, 1) := by decide +kernel
theorem dL_law_1599 : decode mL_law.2.1 1599 = .ok (.invokevirtual 170, 3) := by decide +kernel
theorem dL_law_1602 : decode mL_law.2.1 1602 = .ok (.if_icmp .eq 130, 3) := by decide +kernel
theorem dL_law_1605 : decode mL_law.2.1 1605 = .ok (.iconst 0, 1) := by decide +kernel
theorem dL_law_1606 : decode mL_law.2.1 1606 = .ok (.ireturn, 1) := by decide +kernel
theorem dL_law_1607 : decode mL_law.2.1 1607 = .ok (.aload_n 1, 1) := by decide +kernel
theorem dL_law_1608 : decode mL_law.2.1 1608 = .ok (.aload_n 0, 1) := by decide +kernel
theorem dL_law_1609 : decode mL_law.2.1 1609 = .ok (.iload_n 3, 1) := by decide +kernel
theorem dL_law_1610 : decode mL_law.2.1 1610 = .ok (.iconst 1, 1) := by decide +kernel
theorem dL_law_1611 : decode mL_law.2.1 1611 = .ok (.iadd, 1) := by decide +kernel
theorem dL_law_1612 : decode mL_law.2.1 1612 = .ok (.iaload, 1) := by decide +kernel
theorem dL_law_1613 : decode mL_law.2.1 1613 = .ok (.aload_n 0, 1) := by decide +kernel
theorem dL_law_1614 : decode mL_law.2.1 1614 = .ok (.iload_n 3, 1) := by decide +kernel
theorem dL_law_1615 : decode mL_law.2.1 1615 = .ok (.iconst 2, 1) := by decide +kernel
theorem dL_law_1616 : decode mL_law.2.1 1616 = .ok (.iadd, 1) := by decide +kernel
theorem dL_law_1617 : decode mL_law.2.1 1617 = .ok (.iaload, 1) := by decide +kernel
theorem dL_law_1618 : decode mL_law.2.1 1618 = .ok (.invokevirtual 171, 3) := by decide +kernel
theorem dL_law_1621 : decode mL_law.2.1 1621 = .ok (.aload_n 2, 1) := by decide +kernel
theorem dL_law_1622 : decode mL_law.2.1 1622 = .ok (.aload_n 0, 1) := by decide +kernel
theorem dL_law_1623 : decode mL_law.2.1 1623 = .ok (.iload_n 3, 1) := by decide +kernel
theorem dL_law_1624 : decode mL_law.2.1 1624 = .ok (.iconst 1, 1) := by decide +kernel
theorem dL_law_1625 : decode mL_law.2.1 1625 = .ok (.iadd, 1) := by decide +kernel
theorem dL_law_1626 : decode mL_law.2.1 1626 = .ok (.iaload, 1) := by decide +kernel
theorem dL_law_1627 : decode mL_law.2.1 1627 = .ok (.aload_n 0, 1) := by decide +kernel
theorem dL_law_1628 : decode mL_law.2.1 1628 = .ok (.iload_n 3, 1) := by decide +kernel
theorem dL_law_1629 : decode mL_law.2.1 1629 = .ok (.iconst 2, 1) := by decide +kernel
theorem dL_law_1630 : decode mL_law.2.1 1630 = .ok (.iadd, 1) := by decide +kernel
theorem dL_law_1631 : decode mL_law.2.1 1631 = .ok (.iaload, 1) := by decide +kernel
theorem dL_law_1632 : decode mL_law.2.1 1632 = .ok (.invokevirtual 174, 3) := by decide +kernel
theorem dL_law_1635 : decode mL_law.2.1 1635 = .ok (.if_icmp .eq 97, 3) := by decide +kernel
theorem dL_law_1638 : decode mL_law.2.1 1638 = .ok (.iconst 0, 1) := by decide +kernel
theorem dL_law_1639 : decode mL_law.2.1 1639 = .ok (.ireturn, 1) := by decide +kernel
theorem dL_law_1640 : decode mL_law.2.1 1640 = .ok (.aload_n 1, 1) := by decide +kernel
theorem dL_law_1641 : decode mL_law.2.1 1641 = .ok (.aload_n 0, 1) := by decide +kernel
theorem dL_law_1642 : decode mL_law.2.1 1642 = .ok (.iload_n 3, 1) := by decide +kernel
theorem dL_law_1643 : decode mL_law.2.1 1643 = .ok (.iconst 1, 1) := by decide +kernel
theorem dL_law_1644 : decode mL_law.2.1 1644 = .ok (.iadd, 1) := by decide +kernel
theorem dL_law_1645 : decode mL_law.2.1 1645 = .ok (.iaload, 1) := by decide +kernel
theorem dL_law_1646 : decode mL_law.2.1 1646 = .ok (.invokevirtual 175, 3) := by decide +kernel
theorem dL_law_1649 : decode mL_law.2.1 1649 = .ok (.aload_n 2, 1) := by decide +kernel
theorem dL_law_1650 : decode mL_law.2.1 1650 = .ok (.aload_n 0, 1) := by decide +kernel
theorem dL_law_1651 : decode mL_law.2.1 1651 = .ok (.iload_n 3, 1) := by decide +kernel
theorem dL_law_1652 : decode mL_law.2.1 1652 = .ok (.iconst 1, 1) := by decide +kernel
theorem dL_law_1653 : decode mL_law.2.1 1653 = .ok (.iadd, 1) := by decide +kernel
theorem dL_law_1654 : decode mL_law.2.1 1654 = .ok (.iaload, 1) := by decide +kernel
theorem dL_law_1655 : decode mL_law.2.1 1655 = .ok (.invokevirtual 178, 3) := by decide +kernel
theorem dL_law_1658 : decode mL_law.2.1 1658 = .ok (.if_icmp .eq 74, 3) := by decide +kernel
theorem dL_law_1661 : decode mL_law.2.1 1661 = .ok (.iconst 0, 1) := by decide +kernel
theorem dL_law_1662 : decode mL_law.2.1 1662 = .ok (.ireturn, 1) := by decide +kernel
theorem dL_law_1663 : decode mL_law.2.1 1663 = .ok (.aload_n 1, 1) := by decide +kernel
theorem dL_law_1664 : decode mL_law.2.1 1664 = .ok (.aload_n 0, 1) := by decide +kernel
theorem dL_law_1665 : decode mL_law.2.1 1665 = .ok (.iload_n 3, 1) := by decide +kernel
theorem dL_law_1666 : decode mL_law.2.1 1666 = .ok (.iconst 1, 1) := by decide +kernel
theorem dL_law_1667 : decode mL_law.2.1 1667 = .ok (.iadd, 1) := by decide +kernel
theorem dL_law_1668 : decode mL_law.2.1 1668 = .ok (.iaload, 1) := by decide +kernel
theorem dL_law_1669 : decode mL_law.2.1 1669 = .ok (.invokevirtual 179, 3) := by decide +kernel
theorem dL_law_1672 : decode mL_law.2.1 1672 = .ok (.aload_n 2, 1) := by decide +kernel
theorem dL_law_1673 : decode mL_law.2.1 1673 = .ok (.aload_n 0, 1) := by decide +kernel
theorem dL_law_1674 : decode mL_law.2.1 1674 = .ok (.iload_n 3, 1) := by decide +kernel
theorem dL_law_1675 : decode mL_law.2.1 1675 = .ok (.iconst 1, 1) := by decide +kernel
theorem dL_law_1676 : decode mL_law.2.1 1676 = .ok (.iadd, 1) := by decide +kernel
theorem dL_law_1677 : decode mL_law.2.1 1677 = .ok (.iaload, 1) := by decide +kernel
theorem dL_law_1678 : decode mL_law.2.1 1678 = .ok (.invokevirtual 182, 3) := by decide +kernel
theorem dL_law_1681 : decode mL_law.2.1 1681 = .ok (.if_icmp .eq 51, 3) := by decide +kernel
theorem dL_law_1684 : decode mL_law.2.1 1684 = .ok (.iconst 0, 1) := by decide +kernel
theorem dL_law_1685 : decode mL_law.2.1 1685 = .ok (.ireturn, 1) := by decide +kernel
theorem dL_law_1686 : decode mL_law.2.1 1686 = .ok (.aload_n 1, 1) := by decide +kernel
theorem dL_law_1687 : decode mL_law.2.1 1687 = .ok (.aload_n 0, 1) := by decide +kernel
theorem dL_law_1688 : decode mL_law.2.1 1688 = .ok (.iload_n 3, 1) := by decide +kernel
theorem dL_law_1689 : decode mL_law.2.1 1689 = .ok (.iconst 1, 1) := by decide +kernel
theorem dL_law_1690 : decode mL_law.2.1 1690 = .ok (.iadd, 1) := by decide +kernel
theorem dL_law_1691 : decode mL_law.2.1 1691 = .ok (.iaload, 1) := by decide +kernel
theorem dL_law_1692 : decode mL_law.2.1 1692 = .ok (.invokevirtual 183, 3) := by decide +kernel
theorem dL_law_1695 : decode mL_law.2.1 1695 = .ok (.aload_n 2, 1) := by decide +kernel
theorem dL_law_1696 : decode mL_law.2.1 1696 = .ok (.aload_n 0, 1) := by decide +kernel
theorem dL_law_1697 : decode mL_law.2.1 1697 = .ok (.iload_n 3, 1) := by decide +kernel
theorem dL_law_1698 : decode mL_law.2.1 1698 = .ok (.iconst 1, 1) := by decide +kernel
theorem dL_law_1699 : decode mL_law.2.1 1699 = .ok (.iadd, 1) := by decide +kernel
theorem dL_law_1700 : decode mL_law.2.1 1700 = .ok (.iaload, 1) := by decide +kernel
theorem dL_law_1701 : decode mL_law.2.1 1701 = .ok (.invokevirtual 186, 3) := by decide +kernel
theorem dL_law_1704 : decode mL_law.2.1 1704 = .ok (.if_icmp .eq 28, 3) := by decide +kernel
theorem dL_law_1707 : decode mL_law.2.1 1707 = .ok (.iconst 0, 1) := by decide +kernel
theorem dL_law_1708 : decode mL_law.2.1 1708 = .ok (.ireturn, 1) := by decide +kernel
theorem dL_law_1709 : decode mL_law.2.1 1709 = .ok (.aload_n 1, 1) := by decide +kernel
theorem dL_law_1710 : decode mL_law.2.1 1710 = .ok (.aload_n 0, 1) := by decide +kernel
theorem dL_law_1711 : decode mL_law.2.1 1711 = .ok (.iload_n 3, 1) := by decide +kernel
theorem dL_law_1712 : decode mL_law.2.1 1712 = .ok (.iconst 1, 1) := by decide +kernel
theorem dL_law_1713 : decode mL_law.2.1 1713 = .ok (.iadd, 1) := by decide +kernel
theorem dL_law_1714 : decode mL_law.2.1 1714 = .ok (.iaload, 1) := by decide +kernel
theorem dL_law_1715 : decode mL_law.2.1 1715 = .ok (.invokevirtual 187, 3) := by decide +kernel
theorem dL_law_1718 : decode mL_law.2.1 1718 = .ok (.aload_n 2, 1) := by decide +kernel
theorem dL_law_1719 : decode mL_law.2.1 1719 = .ok (.aload_n 0, 1) := by decide +kernel
theorem dL_law_1720 : decode mL_law.2.1 1720 = .ok (.iload_n 3, 1) := by decide +kernel
theorem dL_law_1721 : decode mL_law.2.1 1721 = .ok (.iconst 1, 1) := by decide +kernel
theorem dL_law_1722 : decode mL_law.2.1 1722 = .ok (.iadd, 1) := by decide +kernel
theorem dL_law_1723 : decode mL_law.2.1 1723 = .ok (.iaload, 1) := by decide +kernel
theorem dL_law_1724 : decode mL_law.2.1 1724 = .ok (.invokevirtual 190, 3) := by decide +kernel
theorem dL_law_1727 : decode mL_law.2.1 1727 = .ok (.if_icmp .eq 5, 3) := by decide +kernel
theorem dL_law_1730 : decode mL_law.2.1 1730 = .ok (.iconst 0, 1) := by decide +kernel
theorem dL_law_1731 : decode mL_law.2.1 1731 = .ok (.ireturn, 1) := by decide +kernel
theorem dL_law_1732 : decode mL_law.2.1 1732 = .ok (.iinc 3 6, 3) := by decide +kernel
theorem dL_law_1735 : decode mL_law.2.1 1735 = .ok (.goto (-1717), 3) := by decide +kernel
theorem dL_law_1738 : decode mL_law.2.1 1738 = .ok (.iconst 1, 1) := by decide +kernel
theorem dL_law_1739 : decode mL_law.2.1 1739 = .ok (.ireturn, 1) := by decide +kernel
