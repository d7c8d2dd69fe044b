/-! the law, decoded -/
theorem dL_1432 : decode code 1432 = .ok (.aload_n 0, 1) := by decide +kernel
theorem dL_1433 : decode code 1433 = .ok (.iload_n 3, 1) := by decide +kernel
theorem dL_1434 : decode code 1434 = .ok (.iconst 3, 1) := by decide +kernel
theorem dL_1435 : decode code 1435 = .ok (.iadd, 1) := by decide +kernel
theorem dL_1436 : decode code 1436 = .ok (.iaload, 1) := by decide +kernel
theorem dL_1437 : decode code 1437 = .ok (.invokevirtual 182, 3) := by decide +kernel
theorem dL_1440 : decode code 1440 = .ok (.aload_n 2, 1) := by decide +kernel
theorem dL_1441 : decode code 1441 = .ok (.aload_n 0, 1) := by decide +kernel
theorem dL_1442 : decode code 1442 = .ok (.iload_n 3, 1) := by decide +kernel
theorem dL_1443 : decode code 1443 = .ok (.iconst 1, 1) := by decide +kernel
theorem dL_1444 : decode code 1444 = .ok (.iadd, 1) := by decide +kernel
theorem dL_1445 : decode code 1445 = .ok (.iaload, 1) := by decide +kernel
theorem dL_1446 : decode code 1446 = .ok (.aload_n 0, 1) := by decide +kernel
theorem dL_1447 : decode code 1447 = .ok (.iload_n 3, 1) := by decide +kernel
theorem dL_1448 : decode code 1448 = .ok (.iconst 2, 1) := by decide +kernel
theorem dL_1449 : decode code 1449 = .ok (.iadd, 1) := by decide +kernel
theorem dL_1450 : decode code 1450 = .ok (.iaload, 1) := by decide +kernel
theorem dL_1451 : decode code 1451 = .ok (.aload_n 0, 1) := by decide +kernel
theorem dL_1452 : decode code 1452 = .ok (.iload_n 3, 1) := by decide +kernel
theorem dL_1453 : decode code 1453 = .ok (.iconst 3, 1) := by decide +kernel
theorem dL_1454 : decode code 1454 = .ok (.iadd, 1) := by decide +kernel
theorem dL_1455 : decode code 1455 = .ok (.iaload, 1) := by decide +kernel
theorem dL_1456 : decode code 1456 = .ok (.invokevirtual 185, 3) := by decide +kernel
theorem dL_1459 : decode code 1459 = .ok (.if_icmp .eq 229, 3) := by decide +kernel
theorem dL_1462 : decode code 1462 = .ok (.iconst 0, 1) := by decide +kernel
theorem dL_1463 : decode code 1463 = .ok (.ireturn, 1) := by decide +kernel
theorem dL_1464 : decode code 1464 = .ok (.aload_n 1, 1) := by decide +kernel
theorem dL_1465 : decode code 1465 = .ok (.aload_n 0, 1) := by decide +kernel
theorem dL_1466 : decode code 1466 = .ok (.iload_n 3, 1) := by decide +kernel
theorem dL_1467 : decode code 1467 = .ok (.iconst 1, 1) := by decide +kernel
theorem dL_1468 : decode code 1468 = .ok (.iadd, 1) := by decide +kernel
theorem dL_1469 : decode code 1469 = .ok (.iaload, 1) := by decide +kernel
theorem dL_1470 : decode code 1470 = .ok (.aload_n 0, 1) := by decide +kernel
theorem dL_1471 : decode code 1471 = .ok (.iload_n 3, 1) := by decide +kernel
theorem dL_1472 : decode code 1472 = .ok (.iconst 2, 1) := by decide +kernel
theorem dL_1473 : decode code 1473 = .ok (.iadd, 1) := by decide +kernel
theorem dL_1474 : decode code 1474 = .ok (.iaload, 1) := by decide +kernel
theorem dL_1475 : decode code 1475 = .ok (.aload_n 0, 1) := by decide +kernel
theorem dL_1476 : decode code 1476 = .ok (.iload_n 3, 1) := by decide +kernel
theorem dL_1477 : decode code 1477 = .ok (.iconst 3, 1) := by decide +kernel
theorem dL_1478 : decode code 1478 = .ok (.iadd, 1) := by decide +kernel
theorem dL_1479 : decode code 1479 = .ok (.iaload, 1) := by decide +kernel
theorem dL_1480 : decode code 1480 = .ok (.aload_n 0, 1) := by decide +kernel
theorem dL_1481 : decode code 1481 = .ok (.iload_n 3, 1) := by decide +kernel
theorem dL_1482 : decode code 1482 = .ok (.iconst 4, 1) := by decide +kernel
theorem dL_1483 : decode code 1483 = .ok (.iadd, 1) := by decide +kernel
theorem dL_1484 : decode code 1484 = .ok (.iaload, 1) := by decide +kernel
theorem dL_1485 : decode code 1485 = .ok (.aload_n 0, 1) := by decide +kernel
theorem dL_1486 : decode code 1486 = .ok (.iload_n 3, 1) := by decide +kernel
theorem dL_1487 : decode code 1487 = .ok (.iconst 5, 1) := by decide +kernel
theorem dL_1488 : decode code 1488 = .ok (.iadd, 1) := by decide +kernel
theorem dL_1489 : decode code 1489 = .ok (.iaload, 1) := by decide +kernel
theorem dL_1490 : decode code 1490 = .ok (.invokevirtual 186, 3) := by decide +kernel
theorem dL_1493 : decode code 1493 = .ok (.aload_n 2, 1) := by decide +kernel
theorem dL_1494 : decode code 1494 = .ok (.aload_n 0, 1) := by decide +kernel
theorem dL_1495 : decode code 1495 = .ok (.iload_n 3, 1) := by decide +kernel
theorem dL_1496 : decode code 1496 = .ok (.iconst 1, 1) := by decide +kernel
theorem dL_1497 : decode code 1497 = .ok (.iadd, 1) := by decide +kernel
theorem dL_1498 : decode code 1498 = .ok (.iaload, 1) := by decide +kernel
theorem dL_1499 : decode code 1499 = .ok (.aload_n 0, 1) := by decide +kernel
theorem dL_1500 : decode code 1500 = .ok (.iload_n 3, 1) := by decide +kernel
theorem dL_1501 : decode code 1501 = .ok (.iconst 2, 1) := by decide +kernel
theorem dL_1502 : decode code 1502 = .ok (.iadd, 1) := by decide +kernel
theorem dL_1503 : decode code 1503 = .ok (.iaload, 1) := by decide +kernel
theorem dL_1504 : decode code 1504 = .ok (.aload_n 0, 1) := by decide +kernel
theorem dL_1505 : decode code 1505 = .ok (.iload_n 3, 1) := by decide +kernel
theorem dL_1506 : decode code 1506 = .ok (.iconst 3, 1) := by decide +kernel
theorem dL_1507 : decode code 1507 = .ok (.iadd, 1) := by decide +kernel
theorem dL_1508 : decode code 1508 = .ok (.iaload, 1) := by decide +kernel
theorem dL_1509 : decode code 1509 = .ok (.aload_n 0, 1) := by decide +kernel
theorem dL_1510 : decode code 1510 = .ok (.iload_n 3, 1) := by decide +kernel
theorem dL_1511 : decode code 1511 = .ok (.iconst 4, 1) := by decide +kernel
theorem dL_1512 : decode code 1512 = .ok (.iadd, 1) := by decide +kernel
theorem dL_1513 : decode code 1513 = .ok (.iaload, 1) := by decide +kernel
theorem dL_1514 : decode code 1514 = .ok (.aload_n 0, 1) := by decide +kernel
theorem dL_1515 : decode code 1515 = .ok (.iload_n 3, 1) := by decide +kernel
theorem dL_1516 : decode code 1516 = .ok (.iconst 5, 1) := by decide +kernel
theorem dL_1517 : decode code 1517 = .ok (.iadd, 1) := by decide +kernel
theorem dL_1518 : decode code 1518 = .ok (.iaload, 1) := by decide +kernel
theorem dL_1519 : decode code 1519 = .ok (.invokevirtual 190, 3) := by decide +kernel
theorem dL_1522 : decode code 1522 = .ok (.if_icmp .eq 166, 3) := by decide +kernel
theorem dL_1525 : decode code 1525 = .ok (.iconst 0, 1) := by decide +kernel
theorem dL_1526 : decode code 1526 = .ok (.ireturn, 1) := by decide +kernel
theorem dL_1527 : decode code 1527 = .ok (.aload_n 1, 1) := by decide +kernel
theorem dL_1528 : decode code 1528 = .ok (.aload_n 0, 1) := by decide +kernel
theorem dL_1529 : decode code 1529 = .ok (.iload_n 3, 1) := by decide +kernel
theorem dL_1530 : decode code 1530 = .ok (.iconst 1, 1) := by decide +kernel
theorem dL_1531 : decode code 1531 = .ok (.iadd, 1) := by decide +kernel
theorem dL_1532 : decode code 1532 = .ok (.iaload, 1) := by decide +kernel
theorem dL_1533 : decode code 1533 = .ok (.aload_n 0, 1) := by decide +kernel
theorem dL_1534 : decode code 1534 = .ok (.iload_n 3, 1) := by decide +kernel
theorem dL_1535 : decode code 1535 = .ok (.iconst 2, 1) := by decide +kernel
theorem dL_1536 : decode code 1536 = .ok (.iadd, 1) := by decide +kernel
theorem dL_1537 : decode code 1537 = .ok (.iaload, 1) := by decide +kernel
theorem dL_1538 : decode code 1538 = .ok (.aload_n 0, 1) := by decide +kernel
theorem dL_1539 : decode code 1539 = .ok (.iload_n 3, 1) := by decide +kernel
theorem dL_1540 : decode code 1540 = .ok (.iconst 3, 1) := by decide +kernel
theorem dL_1541 : decode code 1541 = .ok (.iadd, 1) := by decide +kernel
theorem dL_1542 : decode code 1542 = .ok (.iaload, 1) := by decide +kernel
theorem dL_1543 : decode code 1543 = .ok (.invokevirtual 191, 3) := by decide +kernel
theorem dL_1546 : decode code 1546 = .ok (.aload_n 2, 1) := by decide +kernel
theorem dL_1547 : decode code 1547 = .ok (.aload_n 0, 1) := by decide +kernel
theorem dL_1548 : decode code 1548 = .ok (.iload_n 3, 1) := by decide +kernel
theorem dL_1549 : decode code 1549 = .ok (.iconst 1, 1) := by decide +kernel
theorem dL_1550 : decode code 1550 = .ok (.iadd, 1) := by decide +kernel
theorem dL_1551 : decode code 1551 = .ok (.iaload, 1) := by decide +kernel
theorem dL_1552 : decode code 1552 = .ok (.aload_n 0, 1) := by decide +kernel
theorem dL_1553 : decode code 1553 = .ok (.iload_n 3, 1) := by decide +kernel
theorem dL_1554 : decode code 1554 = .ok (.iconst 2, 1) := by decide +kernel
theorem dL_1555 : decode code 1555 = .ok (.iadd, 1) := by decide +kernel
theorem dL_1556 : decode code 1556 = .ok (.iaload, 1) := by decide +kernel
theorem dL_1557 : decode code 1557 = .ok (.aload_n 0, 1) := by decide +kernel
theorem dL_1558 : decode code 1558 = .ok (.iload_n 3, 1) := by decide +kernel
theorem dL_1559 : decode code 1559 = .ok (.iconst 3, 1) := by decide +kernel
theorem dL_1560 : decode code 1560 = .ok (.iadd, 1) := by decide +kernel
theorem dL_1561 : decode code 1561 = .ok (.iaload, 1) := by decide +kernel
theorem dL_1562 : decode code 1562 = .ok (.invokevirtual 194, 3) := by decide +kernel
theorem dL_1565 : decode code 1565 = .ok (.if_icmp .eq 123, 3) := by decide +kernel
theorem dL_1568 : decode code 1568 = .ok (.iconst 0, 1) := by decide +kernel
theorem dL_1569 : decode code 1569 = .ok (.ireturn, 1) := by decide +kernel
