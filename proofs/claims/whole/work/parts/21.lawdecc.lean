theorem dL_law_1406 : decode code 1406 = .ok (.iload_n 3, 1) := by decide +kernel
theorem dL_law_1407 : decode code 1407 = .ok (.iconst 2, 1) := by decide +kernel
theorem dL_law_1408 : decode code 1408 = .ok (.iadd, 1) := by decide +kernel
theorem dL_law_1409 : decode code 1409 = .ok (.iaload, 1) := by decide +kernel
theorem dL_law_1410 : decode code 1410 = .ok (.aload_n 0, 1) := by decide +kernel
theorem dL_law_1411 : decode code 1411 = .ok (.iload_n 3, 1) := by decide +kernel
theorem dL_law_1412 : decode code 1412 = .ok (.iconst 3, 1) := by decide +kernel
theorem dL_law_1413 : decode code 1413 = .ok (.iadd, 1) := by decide +kernel
theorem dL_law_1414 : decode code 1414 = .ok (.iaload, 1) := by decide +kernel
theorem dL_law_1415 : decode code 1415 = .ok (.aload_n 0, 1) := by decide +kernel
theorem dL_law_1416 : decode code 1416 = .ok (.iload_n 3, 1) := by decide +kernel
theorem dL_law_1417 : decode code 1417 = .ok (.iconst 4, 1) := by decide +kernel
theorem dL_law_1418 : decode code 1418 = .ok (.iadd, 1) := by decide +kernel
theorem dL_law_1419 : decode code 1419 = .ok (.iaload, 1) := by decide +kernel
theorem dL_law_1420 : decode code 1420 = .ok (.invokevirtual 175, 3) := by decide +kernel
theorem dL_law_1423 : decode code 1423 = .ok (.if_icmp .eq 556, 3) := by decide +kernel
theorem dL_law_1426 : decode code 1426 = .ok (.iconst 0, 1) := by decide +kernel
theorem dL_law_1427 : decode code 1427 = .ok (.ireturn, 1) := by decide +kernel
theorem dL_law_1428 : decode code 1428 = .ok (.aload_n 1, 1) := by decide +kernel
theorem dL_law_1429 : decode code 1429 = .ok (.aload_n 0, 1) := by decide +kernel
theorem dL_law_1430 : decode code 1430 = .ok (.iload_n 3, 1) := by decide +kernel
theorem dL_law_1431 : decode code 1431 = .ok (.iconst 1, 1) := by decide +kernel
theorem dL_law_1432 : decode code 1432 = .ok (.iadd, 1) := by decide +kernel
theorem dL_law_1433 : decode code 1433 = .ok (.iaload, 1) := by decide +kernel
theorem dL_law_1434 : decode code 1434 = .ok (.aload_n 0, 1) := by decide +kernel
theorem dL_law_1435 : decode code 1435 = .ok (.iload_n 3, 1) := by decide +kernel
theorem dL_law_1436 : decode code 1436 = .ok (.iconst 2, 1) := by decide +kernel
theorem dL_law_1437 : decode code 1437 = .ok (.iadd, 1) := by decide +kernel
theorem dL_law_1438 : decode code 1438 = .ok (.iaload, 1) := by decide +kernel
theorem dL_law_1439 : decode code 1439 = .ok (.aload_n 0, 1) := by decide +kernel
theorem dL_law_1440 : decode code 1440 = .ok (.iload_n 3, 1) := by decide +kernel
theorem dL_law_1441 : decode code 1441 = .ok (.iconst 3, 1) := by decide +kernel
theorem dL_law_1442 : decode code 1442 = .ok (.iadd, 1) := by decide +kernel
theorem dL_law_1443 : decode code 1443 = .ok (.iaload, 1) := by decide +kernel
theorem dL_law_1444 : decode code 1444 = .ok (.invokevirtual 176, 3) := by decide +kernel
theorem dL_law_1447 : decode code 1447 = .ok (.aload_n 2, 1) := by decide +kernel
theorem dL_law_1448 : decode code 1448 = .ok (.aload_n 0, 1) := by decide +kernel
theorem dL_law_1449 : decode code 1449 = .ok (.iload_n 3, 1) := by decide +kernel
theorem dL_law_1450 : decode code 1450 = .ok (.iconst 1, 1) := by decide +kernel
theorem dL_law_1451 : decode code 1451 = .ok (.iadd, 1) := by decide +kernel
theorem dL_law_1452 : decode code 1452 = .ok (.iaload, 1) := by decide +kernel
theorem dL_law_1453 : decode code 1453 = .ok (.aload_n 0, 1) := by decide +kernel
theorem dL_law_1454 : decode code 1454 = .ok (.iload_n 3, 1) := by decide +kernel
theorem dL_law_1455 : decode code 1455 = .ok (.iconst 2, 1) := by decide +kernel
theorem dL_law_1456 : decode code 1456 = .ok (.iadd, 1) := by decide +kernel
theorem dL_law_1457 : decode code 1457 = .ok (.iaload, 1) := by decide +kernel
theorem dL_law_1458 : decode code 1458 = .ok (.aload_n 0, 1) := by decide +kernel
theorem dL_law_1459 : decode code 1459 = .ok (.iload_n 3, 1) := by decide +kernel
theorem dL_law_1460 : decode code 1460 = .ok (.iconst 3, 1) := by decide +kernel
theorem dL_law_1461 : decode code 1461 = .ok (.iadd, 1) := by decide +kernel
theorem dL_law_1462 : decode code 1462 = .ok (.iaload, 1) := by decide +kernel
theorem dL_law_1463 : decode code 1463 = .ok (.invokevirtual 179, 3) := by decide +kernel
theorem dL_law_1466 : decode code 1466 = .ok (.if_icmp .eq 513, 3) := by decide +kernel
theorem dL_law_1469 : decode code 1469 = .ok (.iconst 0, 1) := by decide +kernel
theorem dL_law_1470 : decode code 1470 = .ok (.ireturn, 1) := by decide +kernel
theorem dL_law_1471 : decode code 1471 = .ok (.aload_n 1, 1) := by decide +kernel
theorem dL_law_1472 : decode code 1472 = .ok (.aload_n 0, 1) := by decide +kernel
theorem dL_law_1473 : decode code 1473 = .ok (.iload_n 3, 1) := by decide +kernel
theorem dL_law_1474 : decode code 1474 = .ok (.iconst 1, 1) := by decide +kernel
theorem dL_law_1475 : decode code 1475 = .ok (.iadd, 1) := by decide +kernel
theorem dL_law_1476 : decode code 1476 = .ok (.iaload, 1) := by decide +kernel
theorem dL_law_1477 : decode code 1477 = .ok (.aload_n 0, 1) := by decide +kernel
theorem dL_law_1478 : decode code 1478 = .ok (.iload_n 3, 1) := by decide +kernel
theorem dL_law_1479 : decode code 1479 = .ok (.iconst 2, 1) := by decide +kernel
theorem dL_law_1480 : decode code 1480 = .ok (.iadd, 1) := by decide +kernel
theorem dL_law_1481 : decode code 1481 = .ok (.iaload, 1) := by decide +kernel
theorem dL_law_1482 : decode code 1482 = .ok (.aload_n 0, 1) := by decide +kernel
theorem dL_law_1483 : decode code 1483 = .ok (.iload_n 3, 1) := by decide +kernel
theorem dL_law_1484 : decode code 1484 = .ok (.iconst 3, 1) := by decide +kernel
theorem dL_law_1485 : decode code 1485 = .ok (.iadd, 1) := by decide +kernel
theorem dL_law_1486 : decode code 1486 = .ok (.iaload, 1) := by decide +kernel
theorem dL_law_1487 : decode code 1487 = .ok (.aload_n 0, 1) := by decide +kernel
theorem dL_law_1488 : decode code 1488 = .ok (.iload_n 3, 1) := by decide +kernel
theorem dL_law_1489 : decode code 1489 = .ok (.iconst 4, 1) := by decide +kernel
theorem dL_law_1490 : decode code 1490 = .ok (.iadd, 1) := by decide +kernel
theorem dL_law_1491 : decode code 1491 = .ok (.iaload, 1) := by decide +kernel
theorem dL_law_1492 : decode code 1492 = .ok (.invokevirtual 180, 3) := by decide +kernel
theorem dL_law_1495 : decode code 1495 = .ok (.aload_n 2, 1) := by decide +kernel
theorem dL_law_1496 : decode code 1496 = .ok (.aload_n 0, 1) := by decide +kernel
theorem dL_law_1497 : decode code 1497 = .ok (.iload_n 3, 1) := by decide +kernel
theorem dL_law_1498 : decode code 1498 = .ok (.iconst 1, 1) := by decide +kernel
theorem dL_law_1499 : decode code 1499 = .ok (.iadd, 1) := by decide +kernel
theorem dL_law_1500 : decode code 1500 = .ok (.iaload, 1) := by decide +kernel
theorem dL_law_1501 : decode code 1501 = .ok (.aload_n 0, 1) := by decide +kernel
theorem dL_law_1502 : decode code 1502 = .ok (.iload_n 3, 1) := by decide +kernel
theorem dL_law_1503 : decode code 1503 = .ok (.iconst 2, 1) := by decide +kernel
theorem dL_law_1504 : decode code 1504 = .ok (.iadd, 1) := by decide +kernel
theorem dL_law_1505 : decode code 1505 = .ok (.iaload, 1) := by decide +kernel
theorem dL_law_1506 : decode code 1506 = .ok (.aload_n 0, 1) := by decide +kernel
theorem dL_law_1507 : decode code 1507 = .ok (.iload_n 3, 1) := by decide +kernel
theorem dL_law_1508 : decode code 1508 = .ok (.iconst 3, 1) := by decide +kernel
theorem dL_law_1509 : decode code 1509 = .ok (.iadd, 1) := by decide +kernel
theorem dL_law_1510 : decode code 1510 = .ok (.iaload, 1) := by decide +kernel
theorem dL_law_1511 : decode code 1511 = .ok (.aload_n 0, 1) := by decide +kernel
theorem dL_law_1512 : decode code 1512 = .ok (.iload_n 3, 1) := by decide +kernel
theorem dL_law_1513 : decode code 1513 = .ok (.iconst 4, 1) := by decide +kernel
theorem dL_law_1514 : decode code 1514 = .ok (.iadd, 1) := by decide +kernel
theorem dL_law_1515 : decode code 1515 = .ok (.iaload, 1) := by decide +kernel
theorem dL_law_1516 : decode code 1516 = .ok (.invokevirtual 183, 3) := by decide +kernel
theorem dL_law_1519 : decode code 1519 = .ok (.if_icmp .eq 460, 3) := by decide +kernel
theorem dL_law_1522 : decode code 1522 = .ok (.iconst 0, 1) := by decide +kernel
theorem dL_law_1523 : decode code 1523 = .ok (.ireturn, 1) := by decide +kernel
theorem dL_law_1524 : decode code 1524 = .ok (.aload_n 1, 1) := by decide +kernel
theorem dL_law_1525 : decode code 1525 = .ok (.aload_n 0, 1) := by decide +kernel
theorem dL_law_1526 : decode code 1526 = .ok (.iload_n 3, 1) := by decide +kernel
theorem dL_law_1527 : decode code 1527 = .ok (.iconst 1, 1) := by decide +kernel
theorem dL_law_1528 : decode code 1528 = .ok (.iadd, 1) := by decide +kernel
theorem dL_law_1529 : decode code 1529 = .ok (.iaload, 1) := by decide +kernel
theorem dL_law_1530 : decode code 1530 = .ok (.aload_n 0, 1) := by decide +kernel
theorem dL_law_1531 : decode code 1531 = .ok (.iload_n 3, 1) := by decide +kernel
theorem dL_law_1532 : decode code 1532 = .ok (.iconst 2, 1) := by decide +kernel
theorem dL_law_1533 : decode code 1533 = .ok (.iadd, 1) := by decide +kernel
theorem dL_law_1534 : decode code 1534 = .ok (.iaload, 1) := by decide +kernel
theorem dL_law_1535 : decode code 1535 = .ok (.aload_n 0, 1) := by decide +kernel
theorem dL_law_1536 : decode code 1536 = .ok (.iload_n 3, 1) := by decide +kernel
theorem dL_law_1537 : decode code 1537 = .ok (.iconst 3, 1) := by decide +kernel
theorem dL_law_1538 : decode code 1538 = .ok (.iadd, 1) := by decide +kernel
theorem dL_law_1539 : decode code 1539 = .ok (.iaload, 1) := by decide +kernel
theorem dL_law_1540 : decode code 1540 = .ok (.invokevirtual 184, 3) := by decide +kernel
theorem dL_law_1543 : decode code 1543 = .ok (.aload_n 2, 1) := by decide +kernel
theorem dL_law_1544 : decode code 1544 = .ok (.aload_n 0, 1) := by decide +kernel
theorem dL_law_1545 : decode code 1545 = .ok (.iload_n 3, 1) := by decide +kernel
theorem dL_law_1546 : decode code 1546 = .ok (.iconst 1, 1) := by decide +kernel
theorem dL_law_1547 : decode code 1547 = .ok (.iadd, 1) := by decide +kernel
theorem dL_law_1548 : decode code 1548 = .ok (.iaload, 1) := by decide +kernel
theorem dL_law_1549 : decode code 1549 = .ok (.aload_n 0, 1) := by decide +kernel
theorem dL_law_1550 : decode code 1550 = .ok (.iload_n 3, 1) := by decide +kernel
theorem dL_law_1551 : decode code 1551 = .ok (.iconst 2, 1) := by decide +kernel
theorem dL_law_1552 : decode code 1552 = .ok (.iadd, 1) := by decide +kernel
theorem dL_law_1553 : decode code 1553 = .ok (.iaload, 1) := by decide +kernel
theorem dL_law_1554 : decode code 1554 = .ok (.aload_n 0, 1) := by decide +kernel
theorem dL_law_1555 : decode code 1555 = .ok (.iload_n 3, 1) := by decide +kernel
theorem dL_law_1556 : decode code 1556 = .ok (.iconst 3, 1) := by decide +kernel
theorem dL_law_1557 : decode code 1557 = .ok (.iadd, 1) := by decide +kernel
theorem dL_law_1558 : decode code 1558 = .ok (.iaload, 1) := by decide +kernel
theorem dL_law_1559 : decode code 1559 = .ok (.invokevirtual 187, 3) := by decide +kernel
theorem dL_law_1562 : decode code 1562 = .ok (.if_icmp .eq 417, 3) := by decide +kernel
theorem dL_law_1565 : decode code 1565 = .ok (.iconst 0, 1) := by decide +kernel
theorem dL_law_1566 : decode code 1566 = .ok (.ireturn, 1) := by decide +kernel
theorem dL_law_1567 : decode code 1567 = .ok (.aload_n 1, 1) := by decide +kernel
theorem dL_law_1568 : decode code 1568 = .ok (.aload_n 0, 1) := by decide +kernel
theorem dL_law_1569 : decode code 1569 = .ok (.iload_n 3, 1) := by decide +kernel
theorem dL_law_1570 : decode code 1570 = .ok (.iconst 1, 1) := by decide +kernel
theorem dL_law_1571 : decode code 1571 = .ok (.iadd, 1) := by decide +kernel
theorem dL_law_1572 : decode code 1572 = .ok (.iaload, 1) := by decide +kernel
theorem dL_law_1573 : decode code 1573 = .ok (.invokevirtual 188, 3) := by decide +kernel
theorem dL_law_1576 : decode code 1576 = .ok (.aload_n 2, 1) := by decide +kernel
theorem dL_law_1577 : decode code 1577 = .ok (.aload_n 0, 1) := by decide +kernel
theorem dL_law_1578 : decode code 1578 = .ok (.iload_n 3, 1) := by decide +kernel
theorem dL_law_1579 : decode code 1579 = .ok (.iconst 1, 1) := by decide +kernel
theorem dL_law_1580 : decode code 1580 = .ok (.iadd, 1) := by decide +kernel
theorem dL_law_1581 : decode code 1581 = .ok (.iaload, 1) := by decide +kernel
theorem dL_law_1582 : decode code 1582 = .ok (.invokevirtual 191, 3) := by decide +kernel
theorem dL_law_1585 : decode code 1585 = .ok (.if_icmp .eq 394, 3) := by decide +kernel
theorem dL_law_1588 : decode code 1588 = .ok (.iconst 0, 1) := by decide +kernel
theorem dL_law_1589 : decode code 1589 = .ok (.ireturn, 1) := by decide +kernel
theorem dL_law_1590 : decode code 1590 = .ok (.aload_n 1, 1) := by decide +kernel
theorem dL_law_1591 : decode code 1591 = .ok (.aload_n 0, 1) := by decide +kernel
theorem dL_law_1592 : decode code 1592 = .ok (.iload_n 3, 1) := by decide +kernel
theorem dL_law_1593 : decode code 1593 = .ok (.iconst 1, 1) := by decide +kernel
theorem dL_law_1594 : decode code 1594 = .ok (.iadd, 1) := by decide +kernel
theorem dL_law_1595 : decode code 1595 = .ok (.iaload, 1) := by decide +kernel
theorem dL_law_1596 : decode code 1596 = .ok (.invokevirtual 192, 3) := by decide +kernel
theorem dL_law_1599 : decode code 1599 = .ok (.aload_n 2, 1) := by decide +kernel
theorem dL_law_1600 : decode code 1600 = .ok (.aload_n 0, 1) := by decide +kernel
theorem dL_law_1601 : decode code 1601 = .ok (.iload_n 3, 1) := by decide +kernel
theorem dL_law_1602 : decode code 1602 = .ok (.iconst 1, 1) := by decide +kernel
theorem dL_law_1603 : decode code 1603 = .ok (.iadd, 1) := by decide +kernel
theorem dL_law_1604 : decode code 1604 = .ok (.iaload, 1) := by decide +kernel
theorem dL_law_1605 : decode code 1605 = .ok (.invokevirtual 195, 3) := by decide +kernel
theorem dL_law_1608 : decode code 1608 = .ok (.if_icmp .eq 371, 3) := by decide +kernel
theorem dL_law_1611 : decode code 1611 = .ok (.iconst 0, 1) := by decide +kernel
theorem dL_law_1612 : decode code 1612 = .ok (.ireturn, 1) := by decide +kernel
theorem dL_law_1613 : decode code 1613 = .ok (.aload_n 1, 1) := by decide +kernel
theorem dL_law_1614 : decode code 1614 = .ok (.aload_n 0, 1) := by decide +kernel
theorem dL_law_1615 : decode code 1615 = .ok (.iload_n 3, 1) := by decide +kernel
theorem dL_law_1616 : decode code 1616 = .ok (.iconst 1, 1) := by decide +kernel
theorem dL_law_1617 : decode code 1617 = .ok (.iadd, 1) := by decide +kernel
theorem dL_law_1618 : decode code 1618 = .ok (.iaload, 1) := by decide +kernel
theorem dL_law_1619 : decode code 1619 = .ok (.aload_n 0, 1) := by decide +kernel
theorem dL_law_1620 : decode code 1620 = .ok (.iload_n 3, 1) := by decide +kernel
theorem dL_law_1621 : decode code 1621 = .ok (.iconst 2, 1) := by decide +kernel
theorem dL_law_1622 : decode code 1622 = .ok (.iadd, 1) := by decide +kernel
theorem dL_law_1623 : decode code 1623 = .ok (.iaload, 1) := by decide +kernel
theorem dL_law_1624 : decode code 1624 = .ok (.invokevirtual 196, 3) := by decide +kernel
theorem dL_law_1627 : decode code 1627 = .ok (.aload_n 2, 1) := by decide +kernel
theorem dL_law_1628 : decode code 1628 = .ok (.aload_n 0, 1) := by decide +kernel
theorem dL_law_1629 : decode code 1629 = .ok (.iload_n 3, 1) := by decide +kernel
theorem dL_law_1630 : decode code 1630 = .ok (.iconst 1, 1) := by decide +kernel
theorem dL_law_1631 : decode code 1631 = .ok (.iadd, 1) := by decide +kernel
theorem dL_law_1632 : decode code 1632 = .ok (.iaload, 1) := by decide +kernel
theorem dL_law_1633 : decode code 1633 = .ok (.aload_n 0, 1) := by decide +kernel
theorem dL_law_1634 : decode code 1634 = .ok (.iload_n 3, 1) := by decide +kernel
theorem dL_law_1635 : decode code 1635 = .ok (.iconst 2, 1) := by decide +kernel
theorem dL_law_1636 : decode code 1636 = .ok (.iadd, 1) := by decide +kernel
theorem dL_law_1637 : decode code 1637 = .ok (.iaload, 1) := by decide +kernel
theorem dL_law_1638 : decode code 1638 = .ok (.invokevirtual 199, 3) := by decide +kernel
theorem dL_law_1641 : decode code 1641 = .ok (.if_icmp .eq 338, 3) := by decide +kernel
theorem dL_law_1644 : decode code 1644 = .ok (.iconst 0, 1) := by decide +kernel
theorem dL_law_1645 : decode code 1645 = .ok (.ireturn, 1) := by decide +kernel
theorem dL_law_1646 : decode code 1646 = .ok (.aload_n 1, 1) := by decide +kernel
theorem dL_law_1647 : decode code 1647 = .ok (.aload_n 0, 1) := by decide +kernel
theorem dL_law_1648 : decode code 1648 = .ok (.iload_n 3, 1) := by decide +kernel
theorem dL_law_1649 : decode code 1649 = .ok (.iconst 1, 1) := by decide +kernel
theorem dL_law_1650 : decode code 1650 = .ok (.iadd, 1) := by decide +kernel
theorem dL_law_1651 : decode code 1651 = .ok (.iaload, 1) := by decide +kernel
theorem dL_law_1652 : decode code 1652 = .ok (.aload_n 0, 1) := by decide +kernel
theorem dL_law_1653 : decode code 1653 = .ok (.iload_n 3, 1) := by decide +kernel
theorem dL_law_1654 : decode code 1654 = .ok (.iconst 2, 1) := by decide +kernel
theorem dL_law_1655 : decode code 1655 = .ok (.iadd, 1) := by decide +kernel
theorem dL_law_1656 : decode code 1656 = .ok (.iaload, 1) := by decide +kernel
theorem dL_law_1657 : decode code 1657 = .ok (.aload_n 0, 1) := by decide +kernel
theorem dL_law_1658 : decode code 1658 = .ok (.iload_n 3, 1) := by decide +kernel
theorem dL_law_1659 : decode code 1659 = .ok (.iconst 3, 1) := by decide +kernel
theorem dL_law_1660 : decode code 1660 = .ok (.iadd, 1) := by decide +kernel
theorem dL_law_1661 : decode code 1661 = .ok (.iaload, 1) := by decide +kernel
theorem dL_law_1662 : decode code 1662 = .ok (.aload_n 0, 1) := by decide +kernel
theorem dL_law_1663 : decode code 1663 = .ok (.iload_n 3, 1) := by decide +kernel
theorem dL_law_1664 : decode code 1664 = .ok (.iconst 4, 1) := by decide +kernel
theorem dL_law_1665 : decode code 1665 = .ok (.iadd, 1) := by decide +kernel
theorem dL_law_1666 : decode code 1666 = .ok (.iaload, 1) := by decide +kernel
theorem dL_law_1667 : decode code 1667 = .ok (.invokevirtual 200, 3) := by decide +kernel
theorem dL_law_1670 : decode code 1670 = .ok (.aload_n 2, 1) := by decide +kernel
theorem dL_law_1671 : decode code 1671 = .ok (.aload_n 0, 1) := by decide +kernel
theorem dL_law_1672 : decode code 1672 = .ok (.iload_n 3, 1) := by decide +kernel
theorem dL_law_1673 : decode code 1673 = .ok (.iconst 1, 1) := by decide +kernel
theorem dL_law_1674 : decode code 1674 = .ok (.iadd, 1) := by decide +kernel
theorem dL_law_1675 : decode code 1675 = .ok (.iaload, 1) := by decide +kernel
theorem dL_law_1676 : decode code 1676 = .ok (.aload_n 0, 1) := by decide +kernel
theorem dL_law_1677 : decode code 1677 = .ok (.iload_n 3, 1) := by decide +kernel
theorem dL_law_1678 : decode code 1678 = .ok (.iconst 2, 1) := by decide +kernel
theorem dL_law_1679 : decode code 1679 = .ok (.iadd, 1) := by decide +kernel
theorem dL_law_1680 : decode code 1680 = .ok (.iaload, 1) := by decide +kernel
theorem dL_law_1681 : decode code 1681 = .ok (.aload_n 0, 1) := by decide +kernel
theorem dL_law_1682 : decode code 1682 = .ok (.iload_n 3, 1) := by decide +kernel
theorem dL_law_1683 : decode code 1683 = .ok (.iconst 3, 1) := by decide +kernel
theorem dL_law_1684 : decode code 1684 = .ok (.iadd, 1) := by decide +kernel
theorem dL_law_1685 : decode code 1685 = .ok (.iaload, 1) := by decide +kernel
theorem dL_law_1686 : decode code 1686 = .ok (.aload_n 0, 1) := by decide +kernel
theorem dL_law_1687 : decode code 1687 = .ok (.iload_n 3, 1) := by decide +kernel
theorem dL_law_1688 : decode code 1688 = .ok (.iconst 4, 1) := by decide +kernel
theorem dL_law_1689 : decode code 1689 = .ok (.iadd, 1) := by decide +kernel
theorem dL_law_1690 : decode code 1690 = .ok (.iaload, 1) := by decide +kernel
theorem dL_law_1691 : decode code 1691 = .ok (.invokevirtual 203, 3) := by decide +kernel
theorem dL_law_1694 : decode code 1694 = .ok (.if_icmp .eq 285, 3) := by decide +kernel
theorem dL_law_1697 : decode code 1697 = .ok (.iconst 0, 1) := by decide +kernel
theorem dL_law_1698 : decode code 1698 = .ok (.ireturn, 1) := by decide +kernel
theorem dL_law_1699 : decode code 1699 = .ok (.aload_n 1, 1) := by decide +kernel
theorem dL_law_1700 : decode code 1700 = .ok (.aload_n 0, 1) := by decide +kernel
theorem dL_law_1701 : decode code 1701 = .ok (.iload_n 3, 1) := by decide +kernel
theorem dL_law_1702 : decode code 1702 = .ok (.iconst 1, 1) := by decide +kernel
theorem dL_law_1703 : decode code 1703 = .ok (.iadd, 1) := by decide +kernel
theorem dL_law_1704 : decode code 1704 = .ok (.iaload, 1) := by decide +kernel
theorem dL_law_1705 : decode code 1705 = .ok (.aload_n 0, 1) := by decide +kernel
theorem dL_law_1706 : decode code 1706 = .ok (.iload_n 3, 1) := by decide +kernel
theorem dL_law_1707 : decode code 1707 = .ok (.iconst 2, 1) := by decide +kernel
theorem dL_law_1708 : decode code 1708 = .ok (.iadd, 1) := by decide +kernel
theorem dL_law_1709 : decode code 1709 = .ok (.iaload, 1) := by decide +kernel
theorem dL_law_1710 : decode code 1710 = .ok (.aload_n 0, 1) := by decide +kernel
theorem dL_law_1711 : decode code 1711 = .ok (.iload_n 3, 1) := by decide +kernel
theorem dL_law_1712 : decode code 1712 = .ok (.iconst 3, 1) := by decide +kernel
theorem dL_law_1713 : decode code 1713 = .ok (.iadd, 1) := by decide +kernel
theorem dL_law_1714 : decode code 1714 = .ok (.iaload, 1) := by decide +kernel
theorem dL_law_1715 : decode code 1715 = .ok (.aload_n 0, 1) := by decide +kernel
theorem dL_law_1716 : decode code 1716 = .ok (.iload_n 3, 1) := by decide +kernel
theorem dL_law_1717 : decode code 1717 = .ok (.iconst 4, 1) := by decide +kernel
theorem dL_law_1718 : decode code 1718 = .ok (.iadd, 1) := by decide +kernel
theorem dL_law_1719 : decode code 1719 = .ok (.iaload, 1) := by decide +kernel
theorem dL_law_1720 : decode code 1720 = .ok (.invokevirtual 204, 3) := by decide +kernel
theorem dL_law_1723 : decode code 1723 = .ok (.aload_n 2, 1) := by decide +kernel
theorem dL_law_1724 : decode code 1724 = .ok (.aload_n 0, 1) := by decide +kernel
theorem dL_law_1725 : decode code 1725 = .ok (.iload_n 3, 1) := by decide +kernel
theorem dL_law_1726 : decode code 1726 = .ok (.iconst 1, 1) := by decide +kernel
theorem dL_law_1727 : decode code 1727 = .ok (.iadd, 1) := by decide +kernel
theorem dL_law_1728 : decode code 1728 = .ok (.iaload, 1) := by decide +kernel
theorem dL_law_1729 : decode code 1729 = .ok (.aload_n 0, 1) := by decide +kernel
theorem dL_law_1730 : decode code 1730 = .ok (.iload_n 3, 1) := by decide +kernel
theorem dL_law_1731 : decode code 1731 = .ok (.iconst 2, 1) := by decide +kernel
theorem dL_law_1732 : decode code 1732 = .ok (.iadd, 1) := by decide +kernel
theorem dL_law_1733 : decode code 1733 = .ok (.iaload, 1) := by decide +kernel
theorem dL_law_1734 : decode code 1734 = .ok (.aload_n 0, 1) := by decide +kernel
theorem dL_law_1735 : decode code 1735 = .ok (.iload_n 3, 1) := by decide +kernel
theorem dL_law_1736 : decode code 1736 = .ok (.iconst 3, 1) := by decide +kernel
theorem dL_law_1737 : decode code 1737 = .ok (.iadd, 1) := by decide +kernel
theorem dL_law_1738 : decode code 1738 = .ok (.iaload, 1) := by decide +kernel
theorem dL_law_1739 : decode code 1739 = .ok (.aload_n 0, 1) := by decide +kernel
theorem dL_law_1740 : decode code 1740 = .ok (.iload_n 3, 1) := by decide +kernel
theorem dL_law_1741 : decode code 1741 = .ok (.iconst 4, 1) := by decide +kernel
theorem dL_law_1742 : decode code 1742 = .ok (.iadd, 1) := by decide +kernel
theorem dL_law_1743 : decode code 1743 = .ok (.iaload, 1) := by decide +kernel
theorem dL_law_1744 : decode code 1744 = .ok (.invokevirtual 207, 3) := by decide +kernel
theorem dL_law_1747 : decode code 1747 = .ok (.if_icmp .eq 232, 3) := by decide +kernel
theorem dL_law_1750 : decode code 1750 = .ok (.iconst 0, 1) := by decide +kernel
theorem dL_law_1751 : decode code 1751 = .ok (.ireturn, 1) := by decide +kernel
theorem dL_law_1752 : decode code 1752 = .ok (.aload_n 1, 1) := by decide +kernel
theorem dL_law_1753 : decode code 1753 = .ok (.aload_n 0, 1) := by decide +kernel
theorem dL_law_1754 : decode code 1754 = .ok (.iload_n 3, 1) := by decide +kernel
theorem dL_law_1755 : decode code 1755 = .ok (.iconst 1, 1) := by decide +kernel
theorem dL_law_1756 : decode code 1756 = .ok (.iadd, 1) := by decide +kernel
theorem dL_law_1757 : decode code 1757 = .ok (.iaload, 1) := by decide +kernel
theorem dL_law_1758 : decode code 1758 = .ok (.aload_n 0, 1) := by decide +kernel
theorem dL_law_1759 : decode code 1759 = .ok (.iload_n 3, 1) := by decide +kernel
theorem dL_law_1760 : decode code 1760 = .ok (.iconst 2, 1) := by decide +kernel
theorem dL_law_1761 : decode code 1761 = .ok (.iadd, 1) := by decide +kernel
theorem dL_law_1762 : decode code 1762 = .ok (.iaload, 1) := by decide +kernel
theorem dL_law_1763 : decode code 1763 = .ok (.aload_n 0, 1) := by decide +kernel
theorem dL_law_1764 : decode code 1764 = .ok (.iload_n 3, 1) := by decide +kernel
theorem dL_law_1765 : decode code 1765 = .ok (.iconst 3, 1) := by decide +kernel
theorem dL_law_1766 : decode code 1766 = .ok (.iadd, 1) := by decide +kernel
theorem dL_law_1767 : decode code 1767 = .ok (.iaload, 1) := by decide +kernel
theorem dL_law_1768 : decode code 1768 = .ok (.invokevirtual 208, 3) := by decide +kernel
theorem dL_law_1771 : decode code 1771 = .ok (.aload_n 2, 1) := by decide +kernel
theorem dL_law_1772 : decode code 1772 = .ok (.aload_n 0, 1) := by decide +kernel
theorem dL_law_1773 : decode code 1773 = .ok (.iload_n 3, 1) := by decide +kernel
theorem dL_law_1774 : decode code 1774 = .ok (.iconst 1, 1) := by decide +kernel
theorem dL_law_1775 : decode code 1775 = .ok (.iadd, 1) := by decide +kernel
theorem dL_law_1776 : decode code 1776 = .ok (.iaload, 1) := by decide +kernel
theorem dL_law_1777 : decode code 1777 = .ok (.aload_n 0, 1) := by decide +kernel
theorem dL_law_1778 : decode code 1778 = .ok (.iload_n 3, 1) := by decide +kernel
theorem dL_law_1779 : decode code 1779 = .ok (.iconst 2, 1) := by decide +kernel
theorem dL_law_1780 : decode code 1780 = .ok (.iadd, 1) := by decide +kernel
theorem dL_law_1781 : decode code 1781 = .ok (.iaload, 1) := by decide +kernel
theorem dL_law_1782 : decode code 1782 = .ok (.aload_n 0, 1) := by decide +kernel
theorem dL_law_1783 : decode code 1783 = .ok (.iload_n 3, 1) := by decide +kernel
theorem dL_law_1784 : decode code 1784 = .ok (.iconst 3, 1) := by decide +kernel
theorem dL_law_1785 : decode code 1785 = .ok (.iadd, 1) := by decide +kernel
theorem dL_law_1786 : decode code 1786 = .ok (.iaload, 1) := by decide +kernel
theorem dL_law_1787 : decode code 1787 = .ok (.invokevirtual 211, 3) := by decide +kernel
theorem dL_law_1790 : decode code 1790 = .ok (.if_icmp .eq 189, 3) := by decide +kernel
theorem dL_law_1793 : decode code 1793 = .ok (.iconst 0, 1) := by decide +kernel
theorem dL_law_1794 : decode code 1794 = .ok (.ireturn, 1) := by decide +kernel
theorem dL_law_1795 : decode code 1795 = .ok (.aload_n 1, 1) := by decide +kernel
theorem dL_law_1796 : decode code 1796 = .ok (.aload_n 0, 1) := by decide +kernel
theorem dL_law_1797 : decode code 1797 = .ok (.iload_n 3, 1) := by decide +kernel
theorem dL_law_1798 : decode code 1798 = .ok (.iconst 1, 1) := by decide +kernel
theorem dL_law_1799 : decode code 1799 = .ok (.iadd, 1) := by decide +kernel
theorem dL_law_1800 : decode code 1800 = .ok (.iaload, 1) := by decide +kernel
theorem dL_law_1801 : decode code 1801 = .ok (.aload_n 0, 1) := by decide +kernel
theorem dL_law_1802 : decode code 1802 = .ok (.iload_n 3, 1) := by decide +kernel
theorem dL_law_1803 : decode code 1803 = .ok (.iconst 2, 1) := by decide +kernel
theorem dL_law_1804 : decode code 1804 = .ok (.iadd, 1) := by decide +kernel
theorem dL_law_1805 : decode code 1805 = .ok (.iaload, 1) := by decide +kernel
theorem dL_law_1806 : decode code 1806 = .ok (.invokevirtual 212, 3) := by decide +kernel
theorem dL_law_1809 : decode code 1809 = .ok (.aload_n 2, 1) := by decide +kernel
theorem dL_law_1810 : decode code 1810 = .ok (.aload_n 0, 1) := by decide +kernel
theorem dL_law_1811 : decode code 1811 = .ok (.iload_n 3, 1) := by decide +kernel
theorem dL_law_1812 : decode code 1812 = .ok (.iconst 1, 1) := by decide +kernel
theorem dL_law_1813 : decode code 1813 = .ok (.iadd, 1) := by decide +kernel
theorem dL_law_1814 : decode code 1814 = .ok (.iaload, 1) := by decide +kernel
theorem dL_law_1815 : decode code 1815 = .ok (.aload_n 0, 1) := by decide +kernel
theorem dL_law_1816 : decode code 1816 = .ok (.iload_n 3, 1) := by decide +kernel
theorem dL_law_1817 : decode code 1817 = .ok (.iconst 2, 1) := by decide +kernel
theorem dL_law_1818 : decode code 1818 = .ok (.iadd, 1) := by decide +kernel
theorem dL_law_1819 : decode code 1819 = .ok (.iaload, 1) := by decide +kernel
theorem dL_law_1820 : decode code 1820 = .ok (.invokevirtual 215, 3) := by decide +kernel
theorem dL_law_1823 : decode code 1823 = .ok (.if_icmp .eq 156, 3) := by decide +kernel
theorem dL_law_1826 : decode code 1826 = .ok (.iconst 0, 1) := by decide +kernel
theorem dL_law_1827 : decode code 1827 = .ok (.ireturn, 1) := by decide +kernel
theorem dL_law_1828 : decode code 1828 = .ok (.aload_n 1, 1) := by decide +kernel
theorem dL_law_1829 : decode code 1829 = .ok (.invokevirtual 216, 3) := by decide +kernel
theorem dL_law_1832 : decode code 1832 = .ok (.aload_n 2, 1) := by decide +kernel
theorem dL_law_1833 : decode code 1833 = .ok (.invokevirtual 219, 3) := by decide +kernel
theorem dL_law_1836 : decode code 1836 = .ok (.if_icmp .eq 143, 3) := by decide +kernel
theorem dL_law_1839 : decode code 1839 = .ok (.iconst 0, 1) := by decide +kernel
theorem dL_law_1840 : decode code 1840 = .ok (.ireturn, 1) := by decide +kernel
theorem dL_law_1841 : decode code 1841 = .ok (.aload_n 1, 1) := by decide +kernel
theorem dL_law_1842 : decode code 1842 = .ok (.aload_n 0, 1) := by decide +kernel
theorem dL_law_1843 : decode code 1843 = .ok (.iload_n 3, 1) := by decide +kernel
theorem dL_law_1844 : decode code 1844 = .ok (.iconst 1, 1) := by decide +kernel
theorem dL_law_1845 : decode code 1845 = .ok (.iadd, 1) := by decide +kernel
theorem dL_law_1846 : decode code 1846 = .ok (.iaload, 1) := by decide +kernel
theorem dL_law_1847 : decode code 1847 = .ok (.invokevirtual 220, 3) := by decide +kernel
theorem dL_law_1850 : decode code 1850 = .ok (.aload_n 2, 1) := by decide +kernel
theorem dL_law_1851 : decode code 1851 = .ok (.aload_n 0, 1) := by decide +kernel
theorem dL_law_1852 : decode code 1852 = .ok (.iload_n 3, 1) := by decide +kernel
theorem dL_law_1853 : decode code 1853 = .ok (.iconst 1, 1) := by decide +kernel
theorem dL_law_1854 : decode code 1854 = .ok (.iadd, 1) := by decide +kernel
theorem dL_law_1855 : decode code 1855 = .ok (.iaload, 1) := by decide +kernel
theorem dL_law_1856 : decode code 1856 = .ok (.invokevirtual 223, 3) := by decide +kernel
theorem dL_law_1859 : decode code 1859 = .ok (.if_icmp .eq 120, 3) := by decide +kernel
theorem dL_law_1862 : decode code 1862 = .ok (.iconst 0, 1) := by decide +kernel
theorem dL_law_1863 : decode code 1863 = .ok (.ireturn, 1) := by decide +kernel
theorem dL_law_1864 : decode code 1864 = .ok (.aload_n 1, 1) := by decide +kernel
theorem dL_law_1865 : decode code 1865 = .ok (.aload_n 0, 1) := by decide +kernel
theorem dL_law_1866 : decode code 1866 = .ok (.iload_n 3, 1) := by decide +kernel
theorem dL_law_1867 : decode code 1867 = .ok (.iconst 1, 1) := by decide +kernel
theorem dL_law_1868 : decode code 1868 = .ok (.iadd, 1) := by decide +kernel
theorem dL_law_1869 : decode code 1869 = .ok (.iaload, 1) := by decide +kernel
theorem dL_law_1870 : decode code 1870 = .ok (.invokevirtual 224, 3) := by decide +kernel
theorem dL_law_1873 : decode code 1873 = .ok (.aload_n 2, 1) := by decide +kernel
theorem dL_law_1874 : decode code 1874 = .ok (.aload_n 0, 1) := by decide +kernel
theorem dL_law_1875 : decode code 1875 = .ok (.iload_n 3, 1) := by decide +kernel
theorem dL_law_1876 : decode code 1876 = .ok (.iconst 1, 1) := by decide +kernel
theorem dL_law_1877 : decode code 1877 = .ok (.iadd, 1) := by decide +kernel
theorem dL_law_1878 : decode code 1878 = .ok (.iaload, 1) := by decide +kernel
theorem dL_law_1879 : decode code 1879 = .ok (.invokevirtual 227, 3) := by decide +kernel
theorem dL_law_1882 : decode code 1882 = .ok (.if_icmp .eq 97, 3) := by decide +kernel
theorem dL_law_1885 : decode code 1885 = .ok (.iconst 0, 1) := by decide +kernel
theorem dL_law_1886 : decode code 1886 = .ok (.ireturn, 1) := by decide +kernel
theorem dL_law_1887 : decode code 1887 = .ok (.aload_n 1, 1) := by decide +kernel
theorem dL_law_1888 : decode code 1888 = .ok (.aload_n 0, 1) := by decide +kernel
theorem dL_law_1889 : decode code 1889 = .ok (.iload_n 3, 1) := by decide +kernel
theorem dL_law_1890 : decode code 1890 = .ok (.iconst 1, 1) := by decide +kernel
theorem dL_law_1891 : decode code 1891 = .ok (.iadd, 1) := by decide +kernel
theorem dL_law_1892 : decode code 1892 = .ok (.iaload, 1) := by decide +kernel
theorem dL_law_1893 : decode code 1893 = .ok (.invokevirtual 228, 3) := by decide +kernel
theorem dL_law_1896 : decode code 1896 = .ok (.aload_n 2, 1) := by decide +kernel
theorem dL_law_1897 : decode code 1897 = .ok (.aload_n 0, 1) := by decide +kernel
theorem dL_law_1898 : decode code 1898 = .ok (.iload_n 3, 1) := by decide +kernel
theorem dL_law_1899 : decode code 1899 = .ok (.iconst 1, 1) := by decide +kernel
theorem dL_law_1900 : decode code 1900 = .ok (.iadd, 1) := by decide +kernel
theorem dL_law_1901 : decode code 1901 = .ok (.iaload, 1) := by decide +kernel
theorem dL_law_1902 : decode code 1902 = .ok (.invokevirtual 231, 3) := by decide +kernel
theorem dL_law_1905 : decode code 1905 = .ok (.if_icmp .eq 74, 3) := by decide +kernel
theorem dL_law_1908 : decode code 1908 = .ok (.iconst 0, 1) := by decide +kernel
theorem dL_law_1909 : decode code 1909 = .ok (.ireturn, 1) := by decide +kernel
theorem dL_law_1910 : decode code 1910 = .ok (.aload_n 1, 1) := by decide +kernel
theorem dL_law_1911 : decode code 1911 = .ok (.aload_n 0, 1) := by decide +kernel
theorem dL_law_1912 : decode code 1912 = .ok (.iload_n 3, 1) := by decide +kernel
theorem dL_law_1913 : decode code 1913 = .ok (.iconst 1, 1) := by decide +kernel
theorem dL_law_1914 : decode code 1914 = .ok (.iadd, 1) := by decide +kernel
theorem dL_law_1915 : decode code 1915 = .ok (.iaload, 1) := by decide +kernel
theorem dL_law_1916 : decode code 1916 = .ok (.aload_n 0, 1) := by decide +kernel
theorem dL_law_1917 : decode code 1917 = .ok (.iload_n 3, 1) := by decide +kernel
theorem dL_law_1918 : decode code 1918 = .ok (.iconst 2, 1) := by decide +kernel
theorem dL_law_1919 : decode code 1919 = .ok (.iadd, 1) := by decide +kernel
theorem dL_law_1920 : decode code 1920 = .ok (.iaload, 1) := by decide +kernel
theorem dL_law_1921 : decode code 1921 = .ok (.aload_n 0, 1) := by decide +kernel
theorem dL_law_1922 : decode code 1922 = .ok (.iload_n 3, 1) := by decide +kernel
theorem dL_law_1923 : decode code 1923 = .ok (.iconst 3, 1) := by decide +kernel
theorem dL_law_1924 : decode code 1924 = .ok (.iadd, 1) := by decide +kernel
theorem dL_law_1925 : decode code 1925 = .ok (.iaload, 1) := by decide +kernel
theorem dL_law_1926 : decode code 1926 = .ok (.invokevirtual 232, 3) := by decide +kernel
theorem dL_law_1929 : decode code 1929 = .ok (.aload_n 2, 1) := by decide +kernel
theorem dL_law_1930 : decode code 1930 = .ok (.aload_n 0, 1) := by decide +kernel
theorem dL_law_1931 : decode code 1931 = .ok (.iload_n 3, 1) := by decide +kernel
theorem dL_law_1932 : decode code 1932 = .ok (.iconst 1, 1) := by decide +kernel
theorem dL_law_1933 : decode code 1933 = .ok (.iadd, 1) := by decide +kernel
theorem dL_law_1934 : decode code 1934 = .ok (.iaload, 1) := by decide +kernel
theorem dL_law_1935 : decode code 1935 = .ok (.aload_n 0, 1) := by decide +kernel
theorem dL_law_1936 : decode code 1936 = .ok (.iload_n 3, 1) := by decide +kernel
theorem dL_law_1937 : decode code 1937 = .ok (.iconst 2, 1) := by decide +kernel
theorem dL_law_1938 : decode code 1938 = .ok (.iadd, 1) := by decide +kernel
theorem dL_law_1939 : decode code 1939 = .ok (.iaload, 1) := by decide +kernel
theorem dL_law_1940 : decode code 1940 = .ok (.aload_n 0, 1) := by decide +kernel
theorem dL_law_1941 : decode code 1941 = .ok (.iload_n 3, 1) := by decide +kernel
theorem dL_law_1942 : decode code 1942 = .ok (.iconst 3, 1) := by decide +kernel
theorem dL_law_1943 : decode code 1943 = .ok (.iadd, 1) := by decide +kernel
theorem dL_law_1944 : decode code 1944 = .ok (.iaload, 1) := by decide +kernel
theorem dL_law_1945 : decode code 1945 = .ok (.invokevirtual 235, 3) := by decide +kernel
theorem dL_law_1948 : decode code 1948 = .ok (.if_icmp .eq 31, 3) := by decide +kernel
theorem dL_law_1951 : decode code 1951 = .ok (.iconst 0, 1) := by decide +kernel
theorem dL_law_1952 : decode code 1952 = .ok (.ireturn, 1) := by decide +kernel
theorem dL_law_1953 : decode code 1953 = .ok (.aload_n 1, 1) := by decide +kernel
theorem dL_law_1954 : decode code 1954 = .ok (.invokevirtual 236, 3) := by decide +kernel
theorem dL_law_1957 : decode code 1957 = .ok (.aload_n 2, 1) := by decide +kernel
theorem dL_law_1958 : decode code 1958 = .ok (.invokevirtual 239, 3) := by decide +kernel
theorem dL_law_1961 : decode code 1961 = .ok (.if_icmp .eq 18, 3) := by decide +kernel
theorem dL_law_1964 : decode code 1964 = .ok (.iconst 0, 1) := by decide +kernel
theorem dL_law_1965 : decode code 1965 = .ok (.ireturn, 1) := by decide +kernel
theorem dL_law_1966 : decode code 1966 = .ok (.aload_n 1, 1) := by decide +kernel
theorem dL_law_1967 : decode code 1967 = .ok (.invokevirtual 240, 3) := by decide +kernel
theorem dL_law_1970 : decode code 1970 = .ok (.aload_n 2, 1) := by decide +kernel
theorem dL_law_1971 : decode code 1971 = .ok (.invokevirtual 243, 3) := by decide +kernel
theorem dL_law_1974 : decode code 1974 = .ok (.if_icmp .eq 5, 3) := by decide +kernel
theorem dL_law_1977 : decode code 1977 = .ok (.iconst 0, 1) := by decide +kernel
theorem dL_law_1978 : decode code 1978 = .ok (.ireturn, 1) := by decide +kernel
theorem dL_law_1979 : decode code 1979 = .ok (.iinc 3 6, 3) := by decide +kernel
theorem dL_law_1982 : decode code 1982 = .ok (.goto (-1964), 3) := by decide +kernel
theorem dL_law_1985 : decode code 1985 = .ok (.iconst 1, 1) := by decide +kernel
theorem dL_law_1986 : decode code 1986 = .ok (.ireturn, 1) := by decide +kernel
