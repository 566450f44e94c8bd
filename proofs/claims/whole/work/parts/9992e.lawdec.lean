theorem dL_law_1413 : decode code 1413 = .ok (.iload 5, 2) := by decide +kernel
theorem dL_law_1415 : decode code 1415 = .ok (.if_icmp .eq 5, 3) := by decide +kernel
theorem dL_law_1418 : decode code 1418 = .ok (.iconst 0, 1) := by decide +kernel
theorem dL_law_1419 : decode code 1419 = .ok (.ireturn, 1) := by decide +kernel
theorem dL_law_1420 : decode code 1420 = .ok (.iload 5, 2) := by decide +kernel
theorem dL_law_1422 : decode code 1422 = .ok (.ifCond .ne 15, 3) := by decide +kernel
theorem dL_law_1425 : decode code 1425 = .ok (.aload_n 3, 1) := by decide +kernel
theorem dL_law_1426 : decode code 1426 = .ok (.iconst 0, 1) := by decide +kernel
theorem dL_law_1427 : decode code 1427 = .ok (.laload, 1) := by decide +kernel
theorem dL_law_1428 : decode code 1428 = .ok (.iload 6, 2) := by decide +kernel
theorem dL_law_1430 : decode code 1430 = .ok (.i2l, 1) := by decide +kernel
theorem dL_law_1431 : decode code 1431 = .ok (.lcmp, 1) := by decide +kernel
theorem dL_law_1432 : decode code 1432 = .ok (.ifCond .eq 5, 3) := by decide +kernel
theorem dL_law_1435 : decode code 1435 = .ok (.iconst 0, 1) := by decide +kernel
theorem dL_law_1436 : decode code 1436 = .ok (.ireturn, 1) := by decide +kernel
theorem dL_law_1437 : decode code 1437 = .ok (.goto 369, 3) := by decide +kernel
theorem dL_law_1440 : decode code 1440 = .ok (.aload_n 1, 1) := by decide +kernel
theorem dL_law_1441 : decode code 1441 = .ok (.aload_n 0, 1) := by decide +kernel
theorem dL_law_1442 : decode code 1442 = .ok (.iload 4, 2) := by decide +kernel
theorem dL_law_1444 : decode code 1444 = .ok (.iconst 1, 1) := by decide +kernel
theorem dL_law_1445 : decode code 1445 = .ok (.iadd, 1) := by decide +kernel
theorem dL_law_1446 : decode code 1446 = .ok (.iaload, 1) := by decide +kernel
theorem dL_law_1447 : decode code 1447 = .ok (.aload_n 0, 1) := by decide +kernel
theorem dL_law_1448 : decode code 1448 = .ok (.iload 4, 2) := by decide +kernel
theorem dL_law_1450 : decode code 1450 = .ok (.iconst 2, 1) := by decide +kernel
theorem dL_law_1451 : decode code 1451 = .ok (.iadd, 1) := by decide +kernel
theorem dL_law_1452 : decode code 1452 = .ok (.iaload, 1) := by decide +kernel
theorem dL_law_1453 : decode code 1453 = .ok (.aload_n 0, 1) := by decide +kernel
theorem dL_law_1454 : decode code 1454 = .ok (.iload 4, 2) := by decide +kernel
theorem dL_law_1456 : decode code 1456 = .ok (.iconst 3, 1) := by decide +kernel
theorem dL_law_1457 : decode code 1457 = .ok (.iadd, 1) := by decide +kernel
theorem dL_law_1458 : decode code 1458 = .ok (.iaload, 1) := by decide +kernel
theorem dL_law_1459 : decode code 1459 = .ok (.invokestatic 182, 3) := by decide +kernel
theorem dL_law_1462 : decode code 1462 = .ok (.istore 5, 2) := by decide +kernel
theorem dL_law_1464 : decode code 1464 = .ok (.aload_n 2, 1) := by decide +kernel
theorem dL_law_1465 : decode code 1465 = .ok (.aload_n 0, 1) := by decide +kernel
theorem dL_law_1466 : decode code 1466 = .ok (.iload 4, 2) := by decide +kernel
theorem dL_law_1468 : decode code 1468 = .ok (.iconst 1, 1) := by decide +kernel
theorem dL_law_1469 : decode code 1469 = .ok (.iadd, 1) := by decide +kernel
theorem dL_law_1470 : decode code 1470 = .ok (.iaload, 1) := by decide +kernel
theorem dL_law_1471 : decode code 1471 = .ok (.aload_n 0, 1) := by decide +kernel
theorem dL_law_1472 : decode code 1472 = .ok (.iload 4, 2) := by decide +kernel
theorem dL_law_1474 : decode code 1474 = .ok (.iconst 2, 1) := by decide +kernel
theorem dL_law_1475 : decode code 1475 = .ok (.iadd, 1) := by decide +kernel
theorem dL_law_1476 : decode code 1476 = .ok (.iaload, 1) := by decide +kernel
theorem dL_law_1477 : decode code 1477 = .ok (.aload_n 0, 1) := by decide +kernel
theorem dL_law_1478 : decode code 1478 = .ok (.iload 4, 2) := by decide +kernel
theorem dL_law_1480 : decode code 1480 = .ok (.iconst 3, 1) := by decide +kernel
theorem dL_law_1481 : decode code 1481 = .ok (.iadd, 1) := by decide +kernel
theorem dL_law_1482 : decode code 1482 = .ok (.iaload, 1) := by decide +kernel
theorem dL_law_1483 : decode code 1483 = .ok (.invokevirtual 184, 3) := by decide +kernel
theorem dL_law_1486 : decode code 1486 = .ok (.aload_n 2, 1) := by decide +kernel
theorem dL_law_1487 : decode code 1487 = .ok (.invokevirtual 118, 3) := by decide +kernel
theorem dL_law_1490 : decode code 1490 = .ok (.iload 5, 2) := by decide +kernel
theorem dL_law_1492 : decode code 1492 = .ok (.if_icmp .eq 5, 3) := by decide +kernel
theorem dL_law_1495 : decode code 1495 = .ok (.iconst 0, 1) := by decide +kernel
theorem dL_law_1496 : decode code 1496 = .ok (.ireturn, 1) := by decide +kernel
theorem dL_law_1497 : decode code 1497 = .ok (.goto 309, 3) := by decide +kernel
theorem dL_law_1500 : decode code 1500 = .ok (.aload_n 1, 1) := by decide +kernel
theorem dL_law_1501 : decode code 1501 = .ok (.invokevirtual 185, 3) := by decide +kernel
theorem dL_law_1504 : decode code 1504 = .ok (.aload_n 2, 1) := by decide +kernel
theorem dL_law_1505 : decode code 1505 = .ok (.invokevirtual 188, 3) := by decide +kernel
theorem dL_law_1508 : decode code 1508 = .ok (.if_icmp .eq 298, 3) := by decide +kernel
theorem dL_law_1511 : decode code 1511 = .ok (.iconst 0, 1) := by decide +kernel
theorem dL_law_1512 : decode code 1512 = .ok (.ireturn, 1) := by decide +kernel
theorem dL_law_1513 : decode code 1513 = .ok (.aload_n 1, 1) := by decide +kernel
theorem dL_law_1514 : decode code 1514 = .ok (.aload_n 0, 1) := by decide +kernel
theorem dL_law_1515 : decode code 1515 = .ok (.iload 4, 2) := by decide +kernel
theorem dL_law_1517 : decode code 1517 = .ok (.iconst 1, 1) := by decide +kernel
theorem dL_law_1518 : decode code 1518 = .ok (.iadd, 1) := by decide +kernel
theorem dL_law_1519 : decode code 1519 = .ok (.iaload, 1) := by decide +kernel
theorem dL_law_1520 : decode code 1520 = .ok (.ifCond .eq 7, 3) := by decide +kernel
theorem dL_law_1523 : decode code 1523 = .ok (.iconst 1, 1) := by decide +kernel
theorem dL_law_1524 : decode code 1524 = .ok (.goto 4, 3) := by decide +kernel
theorem dL_law_1527 : decode code 1527 = .ok (.iconst 0, 1) := by decide +kernel
theorem dL_law_1528 : decode code 1528 = .ok (.invokevirtual 189, 3) := by decide +kernel
theorem dL_law_1531 : decode code 1531 = .ok (.aload_n 2, 1) := by decide +kernel
theorem dL_law_1532 : decode code 1532 = .ok (.aload_n 0, 1) := by decide +kernel
theorem dL_law_1533 : decode code 1533 = .ok (.iload 4, 2) := by decide +kernel
theorem dL_law_1535 : decode code 1535 = .ok (.iconst 1, 1) := by decide +kernel
theorem dL_law_1536 : decode code 1536 = .ok (.iadd, 1) := by decide +kernel
theorem dL_law_1537 : decode code 1537 = .ok (.iaload, 1) := by decide +kernel
theorem dL_law_1538 : decode code 1538 = .ok (.ifCond .eq 7, 3) := by decide +kernel
theorem dL_law_1541 : decode code 1541 = .ok (.iconst 1, 1) := by decide +kernel
theorem dL_law_1542 : decode code 1542 = .ok (.goto 4, 3) := by decide +kernel
theorem dL_law_1545 : decode code 1545 = .ok (.iconst 0, 1) := by decide +kernel
theorem dL_law_1546 : decode code 1546 = .ok (.invokevirtual 193, 3) := by decide +kernel
theorem dL_law_1549 : decode code 1549 = .ok (.goto 257, 3) := by decide +kernel
theorem dL_law_1552 : decode code 1552 = .ok (.aload_n 1, 1) := by decide +kernel
theorem dL_law_1553 : decode code 1553 = .ok (.aload_n 0, 1) := by decide +kernel
theorem dL_law_1554 : decode code 1554 = .ok (.iload 4, 2) := by decide +kernel
theorem dL_law_1556 : decode code 1556 = .ok (.iconst 1, 1) := by decide +kernel
theorem dL_law_1557 : decode code 1557 = .ok (.iadd, 1) := by decide +kernel
theorem dL_law_1558 : decode code 1558 = .ok (.iaload, 1) := by decide +kernel
theorem dL_law_1559 : decode code 1559 = .ok (.aload_n 0, 1) := by decide +kernel
theorem dL_law_1560 : decode code 1560 = .ok (.iload 4, 2) := by decide +kernel
theorem dL_law_1562 : decode code 1562 = .ok (.iconst 2, 1) := by decide +kernel
theorem dL_law_1563 : decode code 1563 = .ok (.iadd, 1) := by decide +kernel
theorem dL_law_1564 : decode code 1564 = .ok (.iaload, 1) := by decide +kernel
theorem dL_law_1565 : decode code 1565 = .ok (.aload_n 3, 1) := by decide +kernel
theorem dL_law_1566 : decode code 1566 = .ok (.invokestatic 194, 3) := by decide +kernel
theorem dL_law_1569 : decode code 1569 = .ok (.istore 5, 2) := by decide +kernel
theorem dL_law_1571 : decode code 1571 = .ok (.aload_n 2, 1) := by decide +kernel
theorem dL_law_1572 : decode code 1572 = .ok (.aload_n 0, 1) := by decide +kernel
theorem dL_law_1573 : decode code 1573 = .ok (.iload 4, 2) := by decide +kernel
theorem dL_law_1575 : decode code 1575 = .ok (.iconst 1, 1) := by decide +kernel
theorem dL_law_1576 : decode code 1576 = .ok (.iadd, 1) := by decide +kernel
theorem dL_law_1577 : decode code 1577 = .ok (.iaload, 1) := by decide +kernel
theorem dL_law_1578 : decode code 1578 = .ok (.aload_n 0, 1) := by decide +kernel
theorem dL_law_1579 : decode code 1579 = .ok (.iload 4, 2) := by decide +kernel
theorem dL_law_1581 : decode code 1581 = .ok (.iconst 2, 1) := by decide +kernel
theorem dL_law_1582 : decode code 1582 = .ok (.iadd, 1) := by decide +kernel
theorem dL_law_1583 : decode code 1583 = .ok (.iaload, 1) := by decide +kernel
theorem dL_law_1584 : decode code 1584 = .ok (.invokevirtual 196, 3) := by decide +kernel
theorem dL_law_1587 : decode code 1587 = .ok (.istore 6, 2) := by decide +kernel
theorem dL_law_1589 : decode code 1589 = .ok (.aload_n 2, 1) := by decide +kernel
theorem dL_law_1590 : decode code 1590 = .ok (.invokevirtual 118, 3) := by decide +kernel
theorem dL_law_1593 : decode code 1593 = .ok (.iload 5, 2) := by decide +kernel
theorem dL_law_1595 : decode code 1595 = .ok (.if_icmp .eq 5, 3) := by decide +kernel
theorem dL_law_1598 : decode code 1598 = .ok (.iconst 0, 1) := by decide +kernel
theorem dL_law_1599 : decode code 1599 = .ok (.ireturn, 1) := by decide +kernel
theorem dL_law_1600 : decode code 1600 = .ok (.iload 5, 2) := by decide +kernel
theorem dL_law_1602 : decode code 1602 = .ok (.ifCond .ne 15, 3) := by decide +kernel
theorem dL_law_1605 : decode code 1605 = .ok (.aload_n 3, 1) := by decide +kernel
theorem dL_law_1606 : decode code 1606 = .ok (.iconst 0, 1) := by decide +kernel
theorem dL_law_1607 : decode code 1607 = .ok (.laload, 1) := by decide +kernel
theorem dL_law_1608 : decode code 1608 = .ok (.iload 6, 2) := by decide +kernel
theorem dL_law_1610 : decode code 1610 = .ok (.i2l, 1) := by decide +kernel
theorem dL_law_1611 : decode code 1611 = .ok (.lcmp, 1) := by decide +kernel
theorem dL_law_1612 : decode code 1612 = .ok (.ifCond .eq 5, 3) := by decide +kernel
theorem dL_law_1615 : decode code 1615 = .ok (.iconst 0, 1) := by decide +kernel
theorem dL_law_1616 : decode code 1616 = .ok (.ireturn, 1) := by decide +kernel
theorem dL_law_1617 : decode code 1617 = .ok (.goto 189, 3) := by decide +kernel
theorem dL_law_1620 : decode code 1620 = .ok (.aload_n 1, 1) := by decide +kernel
theorem dL_law_1621 : decode code 1621 = .ok (.aload_n 0, 1) := by decide +kernel
theorem dL_law_1622 : decode code 1622 = .ok (.iload 4, 2) := by decide +kernel
theorem dL_law_1624 : decode code 1624 = .ok (.iconst 1, 1) := by decide +kernel
theorem dL_law_1625 : decode code 1625 = .ok (.iadd, 1) := by decide +kernel
theorem dL_law_1626 : decode code 1626 = .ok (.iaload, 1) := by decide +kernel
theorem dL_law_1627 : decode code 1627 = .ok (.aload_n 3, 1) := by decide +kernel
theorem dL_law_1628 : decode code 1628 = .ok (.invokestatic 197, 3) := by decide +kernel
theorem dL_law_1631 : decode code 1631 = .ok (.istore 5, 2) := by decide +kernel
theorem dL_law_1633 : decode code 1633 = .ok (.aload_n 2, 1) := by decide +kernel
theorem dL_law_1634 : decode code 1634 = .ok (.aload_n 0, 1) := by decide +kernel
theorem dL_law_1635 : decode code 1635 = .ok (.iload 4, 2) := by decide +kernel
theorem dL_law_1637 : decode code 1637 = .ok (.iconst 1, 1) := by decide +kernel
theorem dL_law_1638 : decode code 1638 = .ok (.iadd, 1) := by decide +kernel
theorem dL_law_1639 : decode code 1639 = .ok (.iaload, 1) := by decide +kernel
theorem dL_law_1640 : decode code 1640 = .ok (.invokevirtual 200, 3) := by decide +kernel
theorem dL_law_1643 : decode code 1643 = .ok (.lstore 6, 2) := by decide +kernel
theorem dL_law_1645 : decode code 1645 = .ok (.aload_n 2, 1) := by decide +kernel
theorem dL_law_1646 : decode code 1646 = .ok (.invokevirtual 118, 3) := by decide +kernel
theorem dL_law_1649 : decode code 1649 = .ok (.iload 5, 2) := by decide +kernel
theorem dL_law_1651 : decode code 1651 = .ok (.if_icmp .eq 5, 3) := by decide +kernel
theorem dL_law_1654 : decode code 1654 = .ok (.iconst 0, 1) := by decide +kernel
theorem dL_law_1655 : decode code 1655 = .ok (.ireturn, 1) := by decide +kernel
theorem dL_law_1656 : decode code 1656 = .ok (.iload 5, 2) := by decide +kernel
theorem dL_law_1658 : decode code 1658 = .ok (.ifCond .ne 14, 3) := by decide +kernel
theorem dL_law_1661 : decode code 1661 = .ok (.aload_n 3, 1) := by decide +kernel
theorem dL_law_1662 : decode code 1662 = .ok (.iconst 0, 1) := by decide +kernel
theorem dL_law_1663 : decode code 1663 = .ok (.laload, 1) := by decide +kernel
theorem dL_law_1664 : decode code 1664 = .ok (.lload 6, 2) := by decide +kernel
theorem dL_law_1666 : decode code 1666 = .ok (.lcmp, 1) := by decide +kernel
theorem dL_law_1667 : decode code 1667 = .ok (.ifCond .eq 5, 3) := by decide +kernel
theorem dL_law_1670 : decode code 1670 = .ok (.iconst 0, 1) := by decide +kernel
theorem dL_law_1671 : decode code 1671 = .ok (.ireturn, 1) := by decide +kernel
theorem dL_law_1672 : decode code 1672 = .ok (.goto 134, 3) := by decide +kernel
theorem dL_law_1675 : decode code 1675 = .ok (.aload_n 1, 1) := by decide +kernel
theorem dL_law_1676 : decode code 1676 = .ok (.aload_n 0, 1) := by decide +kernel
theorem dL_law_1677 : decode code 1677 = .ok (.iload 4, 2) := by decide +kernel
theorem dL_law_1679 : decode code 1679 = .ok (.iconst 1, 1) := by decide +kernel
theorem dL_law_1680 : decode code 1680 = .ok (.iadd, 1) := by decide +kernel
theorem dL_law_1681 : decode code 1681 = .ok (.iaload, 1) := by decide +kernel
theorem dL_law_1682 : decode code 1682 = .ok (.aload_n 0, 1) := by decide +kernel
theorem dL_law_1683 : decode code 1683 = .ok (.iload 4, 2) := by decide +kernel
theorem dL_law_1685 : decode code 1685 = .ok (.iconst 2, 1) := by decide +kernel
theorem dL_law_1686 : decode code 1686 = .ok (.iadd, 1) := by decide +kernel
theorem dL_law_1687 : decode code 1687 = .ok (.iaload, 1) := by decide +kernel
theorem dL_law_1688 : decode code 1688 = .ok (.aload_n 3, 1) := by decide +kernel
theorem dL_law_1689 : decode code 1689 = .ok (.invokestatic 201, 3) := by decide +kernel
theorem dL_law_1692 : decode code 1692 = .ok (.istore 5, 2) := by decide +kernel
theorem dL_law_1694 : decode code 1694 = .ok (.aload_n 2, 1) := by decide +kernel
theorem dL_law_1695 : decode code 1695 = .ok (.aload_n 0, 1) := by decide +kernel
theorem dL_law_1696 : decode code 1696 = .ok (.iload 4, 2) := by decide +kernel
theorem dL_law_1698 : decode code 1698 = .ok (.iconst 1, 1) := by decide +kernel
theorem dL_law_1699 : decode code 1699 = .ok (.iadd, 1) := by decide +kernel
theorem dL_law_1700 : decode code 1700 = .ok (.iaload, 1) := by decide +kernel
theorem dL_law_1701 : decode code 1701 = .ok (.aload_n 0, 1) := by decide +kernel
theorem dL_law_1702 : decode code 1702 = .ok (.iload 4, 2) := by decide +kernel
theorem dL_law_1704 : decode code 1704 = .ok (.iconst 2, 1) := by decide +kernel
theorem dL_law_1705 : decode code 1705 = .ok (.iadd, 1) := by decide +kernel
theorem dL_law_1706 : decode code 1706 = .ok (.iaload, 1) := by decide +kernel
theorem dL_law_1707 : decode code 1707 = .ok (.invokevirtual 203, 3) := by decide +kernel
theorem dL_law_1710 : decode code 1710 = .ok (.istore 6, 2) := by decide +kernel
theorem dL_law_1712 : decode code 1712 = .ok (.aload_n 2, 1) := by decide +kernel
theorem dL_law_1713 : decode code 1713 = .ok (.invokevirtual 118, 3) := by decide +kernel
theorem dL_law_1716 : decode code 1716 = .ok (.iload 5, 2) := by decide +kernel
theorem dL_law_1718 : decode code 1718 = .ok (.if_icmp .eq 5, 3) := by decide +kernel
theorem dL_law_1721 : decode code 1721 = .ok (.iconst 0, 1) := by decide +kernel
theorem dL_law_1722 : decode code 1722 = .ok (.ireturn, 1) := by decide +kernel
theorem dL_law_1723 : decode code 1723 = .ok (.iload 5, 2) := by decide +kernel
theorem dL_law_1725 : decode code 1725 = .ok (.ifCond .ne 22, 3) := by decide +kernel
theorem dL_law_1728 : decode code 1728 = .ok (.aload_n 3, 1) := by decide +kernel
theorem dL_law_1729 : decode code 1729 = .ok (.iconst 0, 1) := by decide +kernel
theorem dL_law_1730 : decode code 1730 = .ok (.laload, 1) := by decide +kernel
theorem dL_law_1731 : decode code 1731 = .ok (.iload 6, 2) := by decide +kernel
theorem dL_law_1733 : decode code 1733 = .ok (.ifCond .eq 7, 3) := by decide +kernel
theorem dL_law_1736 : decode code 1736 = .ok (.lconst 1, 1) := by decide +kernel
theorem dL_law_1737 : decode code 1737 = .ok (.goto 4, 3) := by decide +kernel
theorem dL_law_1740 : decode code 1740 = .ok (.lconst 0, 1) := by decide +kernel
theorem dL_law_1741 : decode code 1741 = .ok (.lcmp, 1) := by decide +kernel
theorem dL_law_1742 : decode code 1742 = .ok (.ifCond .eq 5, 3) := by decide +kernel
theorem dL_law_1745 : decode code 1745 = .ok (.iconst 0, 1) := by decide +kernel
theorem dL_law_1746 : decode code 1746 = .ok (.ireturn, 1) := by decide +kernel
theorem dL_law_1747 : decode code 1747 = .ok (.goto 59, 3) := by decide +kernel
theorem dL_law_1750 : decode code 1750 = .ok (.aload_n 1, 1) := by decide +kernel
theorem dL_law_1751 : decode code 1751 = .ok (.aload_n 0, 1) := by decide +kernel
theorem dL_law_1752 : decode code 1752 = .ok (.iload 4, 2) := by decide +kernel
theorem dL_law_1754 : decode code 1754 = .ok (.iconst 1, 1) := by decide +kernel
theorem dL_law_1755 : decode code 1755 = .ok (.iadd, 1) := by decide +kernel
