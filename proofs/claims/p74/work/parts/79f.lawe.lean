theorem xl_d_1410 : decode code 1410 = .ok (.iload_n 3, 1) := by decide +kernel
theorem xl_d_1411 : decode code 1411 = .ok (.iconst 1, 1) := by decide +kernel
theorem xl_d_1412 : decode code 1412 = .ok (.iadd, 1) := by decide +kernel
theorem xl_d_1413 : decode code 1413 = .ok (.iaload, 1) := by decide +kernel
theorem xl_d_1414 : decode code 1414 = .ok (.invokevirtual 210, 3) := by decide +kernel
theorem xl_d_1417 : decode code 1417 = .ok (.pop, 1) := by decide +kernel
theorem xl_d_1418 : decode code 1418 = .ok (.aload_n 2, 1) := by decide +kernel
theorem xl_d_1419 : decode code 1419 = .ok (.aload_n 0, 1) := by decide +kernel
theorem xl_d_1420 : decode code 1420 = .ok (.iload_n 3, 1) := by decide +kernel
theorem xl_d_1421 : decode code 1421 = .ok (.iconst 1, 1) := by decide +kernel
theorem xl_d_1422 : decode code 1422 = .ok (.iadd, 1) := by decide +kernel
theorem xl_d_1423 : decode code 1423 = .ok (.iaload, 1) := by decide +kernel
theorem xl_d_1424 : decode code 1424 = .ok (.invokevirtual 213, 3) := by decide +kernel
theorem xl_d_1427 : decode code 1427 = .ok (.pop, 1) := by decide +kernel
theorem xl_d_1428 : decode code 1428 = .ok (.goto 708, 3) := by decide +kernel
theorem xl_d_1431 : decode code 1431 = .ok (.aload_n 1, 1) := by decide +kernel
theorem xl_d_1432 : decode code 1432 = .ok (.aload_n 0, 1) := by decide +kernel
theorem xl_d_1433 : decode code 1433 = .ok (.iload_n 3, 1) := by decide +kernel
theorem xl_d_1434 : decode code 1434 = .ok (.iconst 1, 1) := by decide +kernel
theorem xl_d_1435 : decode code 1435 = .ok (.iadd, 1) := by decide +kernel
theorem xl_d_1436 : decode code 1436 = .ok (.iaload, 1) := by decide +kernel
theorem xl_d_1437 : decode code 1437 = .ok (.invokevirtual 214, 3) := by decide +kernel
theorem xl_d_1440 : decode code 1440 = .ok (.pop, 1) := by decide +kernel
theorem xl_d_1441 : decode code 1441 = .ok (.aload_n 2, 1) := by decide +kernel
theorem xl_d_1442 : decode code 1442 = .ok (.aload_n 0, 1) := by decide +kernel
theorem xl_d_1443 : decode code 1443 = .ok (.iload_n 3, 1) := by decide +kernel
theorem xl_d_1444 : decode code 1444 = .ok (.iconst 1, 1) := by decide +kernel
theorem xl_d_1445 : decode code 1445 = .ok (.iadd, 1) := by decide +kernel
theorem xl_d_1446 : decode code 1446 = .ok (.iaload, 1) := by decide +kernel
theorem xl_d_1447 : decode code 1447 = .ok (.invokevirtual 217, 3) := by decide +kernel
theorem xl_d_1450 : decode code 1450 = .ok (.pop, 1) := by decide +kernel
theorem xl_d_1451 : decode code 1451 = .ok (.goto 685, 3) := by decide +kernel
theorem xl_d_1454 : decode code 1454 = .ok (.aload_n 1, 1) := by decide +kernel
theorem xl_d_1455 : decode code 1455 = .ok (.invokevirtual 218, 3) := by decide +kernel
theorem xl_d_1458 : decode code 1458 = .ok (.pop, 1) := by decide +kernel
theorem xl_d_1459 : decode code 1459 = .ok (.aload_n 2, 1) := by decide +kernel
theorem xl_d_1460 : decode code 1460 = .ok (.invokevirtual 221, 3) := by decide +kernel
theorem xl_d_1463 : decode code 1463 = .ok (.pop, 1) := by decide +kernel
theorem xl_d_1464 : decode code 1464 = .ok (.goto 672, 3) := by decide +kernel
theorem xl_d_1467 : decode code 1467 = .ok (.aload_n 1, 1) := by decide +kernel
theorem xl_d_1468 : decode code 1468 = .ok (.invokevirtual 222, 3) := by decide +kernel
theorem xl_d_1471 : decode code 1471 = .ok (.pop, 1) := by decide +kernel
theorem xl_d_1472 : decode code 1472 = .ok (.aload_n 2, 1) := by decide +kernel
theorem xl_d_1473 : decode code 1473 = .ok (.invokevirtual 225, 3) := by decide +kernel
theorem xl_d_1476 : decode code 1476 = .ok (.pop, 1) := by decide +kernel
theorem xl_d_1477 : decode code 1477 = .ok (.goto 659, 3) := by decide +kernel
theorem xl_d_1480 : decode code 1480 = .ok (.aload_n 1, 1) := by decide +kernel
theorem xl_d_1481 : decode code 1481 = .ok (.invokevirtual 226, 3) := by decide +kernel
theorem xl_d_1484 : decode code 1484 = .ok (.pop, 1) := by decide +kernel
theorem xl_d_1485 : decode code 1485 = .ok (.aload_n 2, 1) := by decide +kernel
theorem xl_d_1486 : decode code 1486 = .ok (.invokevirtual 229, 3) := by decide +kernel
theorem xl_d_1489 : decode code 1489 = .ok (.pop, 1) := by decide +kernel
theorem xl_d_1490 : decode code 1490 = .ok (.goto 646, 3) := by decide +kernel
theorem xl_d_1493 : decode code 1493 = .ok (.aload_n 1, 1) := by decide +kernel
theorem xl_d_1494 : decode code 1494 = .ok (.invokevirtual 230, 3) := by decide +kernel
theorem xl_d_1497 : decode code 1497 = .ok (.pop, 1) := by decide +kernel
theorem xl_d_1498 : decode code 1498 = .ok (.aload_n 2, 1) := by decide +kernel
theorem xl_d_1499 : decode code 1499 = .ok (.invokevirtual 233, 3) := by decide +kernel
theorem xl_d_1502 : decode code 1502 = .ok (.pop, 1) := by decide +kernel
theorem xl_d_1503 : decode code 1503 = .ok (.goto 633, 3) := by decide +kernel
theorem xl_d_1506 : decode code 1506 = .ok (.aload_n 1, 1) := by decide +kernel
theorem xl_d_1507 : decode code 1507 = .ok (.aload_n 0, 1) := by decide +kernel
theorem xl_d_1508 : decode code 1508 = .ok (.iload_n 3, 1) := by decide +kernel
theorem xl_d_1509 : decode code 1509 = .ok (.iconst 1, 1) := by decide +kernel
theorem xl_d_1510 : decode code 1510 = .ok (.iadd, 1) := by decide +kernel
theorem xl_d_1511 : decode code 1511 = .ok (.iaload, 1) := by decide +kernel
theorem xl_d_1512 : decode code 1512 = .ok (.invokevirtual 234, 3) := by decide +kernel
theorem xl_d_1515 : decode code 1515 = .ok (.pop, 1) := by decide +kernel
theorem xl_d_1516 : decode code 1516 = .ok (.aload_n 2, 1) := by decide +kernel
theorem xl_d_1517 : decode code 1517 = .ok (.aload_n 0, 1) := by decide +kernel
theorem xl_d_1518 : decode code 1518 = .ok (.iload_n 3, 1) := by decide +kernel
theorem xl_d_1519 : decode code 1519 = .ok (.iconst 1, 1) := by decide +kernel
theorem xl_d_1520 : decode code 1520 = .ok (.iadd, 1) := by decide +kernel
theorem xl_d_1521 : decode code 1521 = .ok (.iaload, 1) := by decide +kernel
theorem xl_d_1522 : decode code 1522 = .ok (.invokevirtual 237, 3) := by decide +kernel
theorem xl_d_1525 : decode code 1525 = .ok (.pop, 1) := by decide +kernel
theorem xl_d_1526 : decode code 1526 = .ok (.goto 610, 3) := by decide +kernel
theorem xl_d_1529 : decode code 1529 = .ok (.aload_n 1, 1) := by decide +kernel
theorem xl_d_1530 : decode code 1530 = .ok (.invokevirtual 238, 3) := by decide +kernel
theorem xl_d_1533 : decode code 1533 = .ok (.pop, 1) := by decide +kernel
theorem xl_d_1534 : decode code 1534 = .ok (.aload_n 2, 1) := by decide +kernel
theorem xl_d_1535 : decode code 1535 = .ok (.invokevirtual 241, 3) := by decide +kernel
theorem xl_d_1538 : decode code 1538 = .ok (.pop, 1) := by decide +kernel
theorem xl_d_1539 : decode code 1539 = .ok (.goto 597, 3) := by decide +kernel
theorem xl_d_1542 : decode code 1542 = .ok (.aload_n 1, 1) := by decide +kernel
theorem xl_d_1543 : decode code 1543 = .ok (.invokevirtual 242, 3) := by decide +kernel
theorem xl_d_1546 : decode code 1546 = .ok (.pop, 1) := by decide +kernel
theorem xl_d_1547 : decode code 1547 = .ok (.aload_n 2, 1) := by decide +kernel
theorem xl_d_1548 : decode code 1548 = .ok (.invokevirtual 245, 3) := by decide +kernel
theorem xl_d_1551 : decode code 1551 = .ok (.pop, 1) := by decide +kernel
theorem xl_d_1552 : decode code 1552 = .ok (.goto 584, 3) := by decide +kernel
theorem xl_d_1555 : decode code 1555 = .ok (.aload_n 1, 1) := by decide +kernel
theorem xl_d_1556 : decode code 1556 = .ok (.aload_n 0, 1) := by decide +kernel
theorem xl_d_1557 : decode code 1557 = .ok (.iload_n 3, 1) := by decide +kernel
theorem xl_d_1558 : decode code 1558 = .ok (.iconst 1, 1) := by decide +kernel
theorem xl_d_1559 : decode code 1559 = .ok (.iadd, 1) := by decide +kernel
theorem xl_d_1560 : decode code 1560 = .ok (.iaload, 1) := by decide +kernel
theorem xl_d_1561 : decode code 1561 = .ok (.invokevirtual 246, 3) := by decide +kernel
theorem xl_d_1564 : decode code 1564 = .ok (.pop, 1) := by decide +kernel
theorem xl_d_1565 : decode code 1565 = .ok (.aload_n 2, 1) := by decide +kernel
theorem xl_d_1566 : decode code 1566 = .ok (.aload_n 0, 1) := by decide +kernel
theorem xl_d_1567 : decode code 1567 = .ok (.iload_n 3, 1) := by decide +kernel
theorem xl_d_1568 : decode code 1568 = .ok (.iconst 1, 1) := by decide +kernel
theorem xl_d_1569 : decode code 1569 = .ok (.iadd, 1) := by decide +kernel
theorem xl_d_1570 : decode code 1570 = .ok (.iaload, 1) := by decide +kernel
theorem xl_d_1571 : decode code 1571 = .ok (.invokevirtual 249, 3) := by decide +kernel
theorem xl_d_1574 : decode code 1574 = .ok (.pop, 1) := by decide +kernel
theorem xl_d_1575 : decode code 1575 = .ok (.goto 561, 3) := by decide +kernel
theorem xl_d_1578 : decode code 1578 = .ok (.aload_n 1, 1) := by decide +kernel
theorem xl_d_1579 : decode code 1579 = .ok (.invokevirtual 250, 3) := by decide +kernel
theorem xl_d_1582 : decode code 1582 = .ok (.pop, 1) := by decide +kernel
theorem xl_d_1583 : decode code 1583 = .ok (.aload_n 2, 1) := by decide +kernel
theorem xl_d_1584 : decode code 1584 = .ok (.invokevirtual 253, 3) := by decide +kernel
theorem xl_d_1587 : decode code 1587 = .ok (.pop, 1) := by decide +kernel
theorem xl_d_1588 : decode code 1588 = .ok (.goto 548, 3) := by decide +kernel
theorem xl_d_1591 : decode code 1591 = .ok (.aload_n 1, 1) := by decide +kernel
theorem xl_d_1592 : decode code 1592 = .ok (.invokevirtual 254, 3) := by decide +kernel
theorem xl_d_1595 : decode code 1595 = .ok (.pop, 1) := by decide +kernel
theorem xl_d_1596 : decode code 1596 = .ok (.aload_n 2, 1) := by decide +kernel
theorem xl_d_1597 : decode code 1597 = .ok (.invokevirtual 257, 3) := by decide +kernel
theorem xl_d_1600 : decode code 1600 = .ok (.pop, 1) := by decide +kernel
theorem xl_d_1601 : decode code 1601 = .ok (.goto 535, 3) := by decide +kernel
theorem xl_d_1604 : decode code 1604 = .ok (.aload_n 1, 1) := by decide +kernel
theorem xl_d_1605 : decode code 1605 = .ok (.aload_n 0, 1) := by decide +kernel
theorem xl_d_1606 : decode code 1606 = .ok (.iload_n 3, 1) := by decide +kernel
theorem xl_d_1607 : decode code 1607 = .ok (.iconst 1, 1) := by decide +kernel
theorem xl_d_1608 : decode code 1608 = .ok (.iadd, 1) := by decide +kernel
theorem xl_d_1609 : decode code 1609 = .ok (.iaload, 1) := by decide +kernel
theorem xl_d_1610 : decode code 1610 = .ok (.invokevirtual 258, 3) := by decide +kernel
theorem xl_d_1613 : decode code 1613 = .ok (.pop, 1) := by decide +kernel
theorem xl_d_1614 : decode code 1614 = .ok (.aload_n 2, 1) := by decide +kernel
theorem xl_d_1615 : decode code 1615 = .ok (.aload_n 0, 1) := by decide +kernel
theorem xl_d_1616 : decode code 1616 = .ok (.iload_n 3, 1) := by decide +kernel
theorem xl_d_1617 : decode code 1617 = .ok (.iconst 1, 1) := by decide +kernel
theorem xl_d_1618 : decode code 1618 = .ok (.iadd, 1) := by decide +kernel
theorem xl_d_1619 : decode code 1619 = .ok (.iaload, 1) := by decide +kernel
theorem xl_d_1620 : decode code 1620 = .ok (.invokevirtual 261, 3) := by decide +kernel
theorem xl_d_1623 : decode code 1623 = .ok (.pop, 1) := by decide +kernel
theorem xl_d_1624 : decode code 1624 = .ok (.goto 512, 3) := by decide +kernel
theorem xl_d_1627 : decode code 1627 = .ok (.aload_n 1, 1) := by decide +kernel
theorem xl_d_1628 : decode code 1628 = .ok (.aload_n 0, 1) := by decide +kernel
theorem xl_d_1629 : decode code 1629 = .ok (.iload_n 3, 1) := by decide +kernel
theorem xl_d_1630 : decode code 1630 = .ok (.iconst 1, 1) := by decide +kernel
theorem xl_d_1631 : decode code 1631 = .ok (.iadd, 1) := by decide +kernel
theorem xl_d_1632 : decode code 1632 = .ok (.iaload, 1) := by decide +kernel
theorem xl_d_1633 : decode code 1633 = .ok (.invokevirtual 262, 3) := by decide +kernel
theorem xl_d_1636 : decode code 1636 = .ok (.pop, 1) := by decide +kernel
theorem xl_d_1637 : decode code 1637 = .ok (.aload_n 2, 1) := by decide +kernel
theorem xl_d_1638 : decode code 1638 = .ok (.aload_n 0, 1) := by decide +kernel
theorem xl_d_1639 : decode code 1639 = .ok (.iload_n 3, 1) := by decide +kernel
theorem xl_d_1640 : decode code 1640 = .ok (.iconst 1, 1) := by decide +kernel
theorem xl_d_1641 : decode code 1641 = .ok (.iadd, 1) := by decide +kernel
theorem xl_d_1642 : decode code 1642 = .ok (.iaload, 1) := by decide +kernel
theorem xl_d_1643 : decode code 1643 = .ok (.invokevirtual 265, 3) := by decide +kernel
theorem xl_d_1646 : decode code 1646 = .ok (.pop, 1) := by decide +kernel
theorem xl_d_1647 : decode code 1647 = .ok (.goto 489, 3) := by decide +kernel
theorem xl_d_1650 : decode code 1650 = .ok (.aload_n 1, 1) := by decide +kernel
theorem xl_d_1651 : decode code 1651 = .ok (.aload_n 0, 1) := by decide +kernel
theorem xl_d_1652 : decode code 1652 = .ok (.iload_n 3, 1) := by decide +kernel
theorem xl_d_1653 : decode code 1653 = .ok (.iconst 1, 1) := by decide +kernel
theorem xl_d_1654 : decode code 1654 = .ok (.iadd, 1) := by decide +kernel
theorem xl_d_1655 : decode code 1655 = .ok (.iaload, 1) := by decide +kernel
theorem xl_d_1656 : decode code 1656 = .ok (.invokevirtual 266, 3) := by decide +kernel
theorem xl_d_1659 : decode code 1659 = .ok (.pop, 1) := by decide +kernel
theorem xl_d_1660 : decode code 1660 = .ok (.aload_n 2, 1) := by decide +kernel
theorem xl_d_1661 : decode code 1661 = .ok (.aload_n 0, 1) := by decide +kernel
theorem xl_d_1662 : decode code 1662 = .ok (.iload_n 3, 1) := by decide +kernel
theorem xl_d_1663 : decode code 1663 = .ok (.iconst 1, 1) := by decide +kernel
theorem xl_d_1664 : decode code 1664 = .ok (.iadd, 1) := by decide +kernel
theorem xl_d_1665 : decode code 1665 = .ok (.iaload, 1) := by decide +kernel
theorem xl_d_1666 : decode code 1666 = .ok (.invokevirtual 269, 3) := by decide +kernel
theorem xl_d_1669 : decode code 1669 = .ok (.pop, 1) := by decide +kernel
theorem xl_d_1670 : decode code 1670 = .ok (.goto 466, 3) := by decide +kernel
theorem xl_d_1673 : decode code 1673 = .ok (.aload_n 1, 1) := by decide +kernel
theorem xl_d_1674 : decode code 1674 = .ok (.aload_n 0, 1) := by decide +kernel
theorem xl_d_1675 : decode code 1675 = .ok (.iload_n 3, 1) := by decide +kernel
theorem xl_d_1676 : decode code 1676 = .ok (.iconst 1, 1) := by decide +kernel
theorem xl_d_1677 : decode code 1677 = .ok (.iadd, 1) := by decide +kernel
theorem xl_d_1678 : decode code 1678 = .ok (.iaload, 1) := by decide +kernel
theorem xl_d_1679 : decode code 1679 = .ok (.aload_n 0, 1) := by decide +kernel
theorem xl_d_1680 : decode code 1680 = .ok (.iload_n 3, 1) := by decide +kernel
theorem xl_d_1681 : decode code 1681 = .ok (.iconst 2, 1) := by decide +kernel
theorem xl_d_1682 : decode code 1682 = .ok (.iadd, 1) := by decide +kernel
theorem xl_d_1683 : decode code 1683 = .ok (.iaload, 1) := by decide +kernel
theorem xl_d_1684 : decode code 1684 = .ok (.aload_n 0, 1) := by decide +kernel
theorem xl_d_1685 : decode code 1685 = .ok (.iload_n 3, 1) := by decide +kernel
theorem xl_d_1686 : decode code 1686 = .ok (.iconst 3, 1) := by decide +kernel
theorem xl_d_1687 : decode code 1687 = .ok (.iadd, 1) := by decide +kernel
theorem xl_d_1688 : decode code 1688 = .ok (.iaload, 1) := by decide +kernel
theorem xl_d_1689 : decode code 1689 = .ok (.aload_n 0, 1) := by decide +kernel
theorem xl_d_1690 : decode code 1690 = .ok (.iload_n 3, 1) := by decide +kernel
theorem xl_d_1691 : decode code 1691 = .ok (.iconst 4, 1) := by decide +kernel
theorem xl_d_1692 : decode code 1692 = .ok (.iadd, 1) := by decide +kernel
theorem xl_d_1693 : decode code 1693 = .ok (.iaload, 1) := by decide +kernel
theorem xl_d_1694 : decode code 1694 = .ok (.invokevirtual 270, 3) := by decide +kernel
theorem xl_d_1697 : decode code 1697 = .ok (.pop, 1) := by decide +kernel
theorem xl_d_1698 : decode code 1698 = .ok (.aload_n 2, 1) := by decide +kernel
theorem xl_d_1699 : decode code 1699 = .ok (.aload_n 0, 1) := by decide +kernel
theorem xl_d_1700 : decode code 1700 = .ok (.iload_n 3, 1) := by decide +kernel
theorem xl_d_1701 : decode code 1701 = .ok (.iconst 1, 1) := by decide +kernel
theorem xl_d_1702 : decode code 1702 = .ok (.iadd, 1) := by decide +kernel
theorem xl_d_1703 : decode code 1703 = .ok (.iaload, 1) := by decide +kernel
theorem xl_d_1704 : decode code 1704 = .ok (.aload_n 0, 1) := by decide +kernel
theorem xl_d_1705 : decode code 1705 = .ok (.iload_n 3, 1) := by decide +kernel
theorem xl_d_1706 : decode code 1706 = .ok (.iconst 2, 1) := by decide +kernel
theorem xl_d_1707 : decode code 1707 = .ok (.iadd, 1) := by decide +kernel
theorem xl_d_1708 : decode code 1708 = .ok (.iaload, 1) := by decide +kernel
theorem xl_d_1709 : decode code 1709 = .ok (.aload_n 0, 1) := by decide +kernel
theorem xl_d_1710 : decode code 1710 = .ok (.iload_n 3, 1) := by decide +kernel
theorem xl_d_1711 : decode code 1711 = .ok (.iconst 3, 1) := by decide +kernel
theorem xl_d_1712 : decode code 1712 = .ok (.iadd, 1) := by decide +kernel
theorem xl_d_1713 : decode code 1713 = .ok (.iaload, 1) := by decide +kernel
theorem xl_d_1714 : decode code 1714 = .ok (.aload_n 0, 1) := by decide +kernel
theorem xl_d_1715 : decode code 1715 = .ok (.iload_n 3, 1) := by decide +kernel
theorem xl_d_1716 : decode code 1716 = .ok (.iconst 4, 1) := by decide +kernel
theorem xl_d_1717 : decode code 1717 = .ok (.iadd, 1) := by decide +kernel
theorem xl_d_1718 : decode code 1718 = .ok (.iaload, 1) := by decide +kernel
theorem xl_d_1719 : decode code 1719 = .ok (.invokevirtual 274, 3) := by decide +kernel
theorem xl_d_1722 : decode code 1722 = .ok (.pop, 1) := by decide +kernel
theorem xl_d_1723 : decode code 1723 = .ok (.goto 413, 3) := by decide +kernel
theorem xl_d_1726 : decode code 1726 = .ok (.aload_n 1, 1) := by decide +kernel
theorem xl_d_1727 : decode code 1727 = .ok (.aload_n 0, 1) := by decide +kernel
theorem xl_d_1728 : decode code 1728 = .ok (.iload_n 3, 1) := by decide +kernel
theorem xl_d_1729 : decode code 1729 = .ok (.iconst 1, 1) := by decide +kernel
theorem xl_d_1730 : decode code 1730 = .ok (.iadd, 1) := by decide +kernel
theorem xl_d_1731 : decode code 1731 = .ok (.iaload, 1) := by decide +kernel
theorem xl_d_1732 : decode code 1732 = .ok (.aload_n 0, 1) := by decide +kernel
theorem xl_d_1733 : decode code 1733 = .ok (.iload_n 3, 1) := by decide +kernel
theorem xl_d_1734 : decode code 1734 = .ok (.iconst 2, 1) := by decide +kernel
theorem xl_d_1735 : decode code 1735 = .ok (.iadd, 1) := by decide +kernel
theorem xl_d_1736 : decode code 1736 = .ok (.iaload, 1) := by decide +kernel
theorem xl_d_1737 : decode code 1737 = .ok (.aload_n 0, 1) := by decide +kernel
theorem xl_d_1738 : decode code 1738 = .ok (.iload_n 3, 1) := by decide +kernel
theorem xl_d_1739 : decode code 1739 = .ok (.iconst 3, 1) := by decide +kernel
theorem xl_d_1740 : decode code 1740 = .ok (.iadd, 1) := by decide +kernel
theorem xl_d_1741 : decode code 1741 = .ok (.iaload, 1) := by decide +kernel
theorem xl_d_1742 : decode code 1742 = .ok (.aload_n 0, 1) := by decide +kernel
theorem xl_d_1743 : decode code 1743 = .ok (.iload_n 3, 1) := by decide +kernel
theorem xl_d_1744 : decode code 1744 = .ok (.iconst 4, 1) := by decide +kernel
theorem xl_d_1745 : decode code 1745 = .ok (.iadd, 1) := by decide +kernel
theorem xl_d_1746 : decode code 1746 = .ok (.iaload, 1) := by decide +kernel
theorem xl_d_1747 : decode code 1747 = .ok (.invokevirtual 275, 3) := by decide +kernel
theorem xl_d_1750 : decode code 1750 = .ok (.pop, 1) := by decide +kernel
theorem xl_d_1751 : decode code 1751 = .ok (.aload_n 2, 1) := by decide +kernel
theorem xl_d_1752 : decode code 1752 = .ok (.aload_n 0, 1) := by decide +kernel
theorem xl_d_1753 : decode code 1753 = .ok (.iload_n 3, 1) := by decide +kernel
theorem xl_d_1754 : decode code 1754 = .ok (.iconst 1, 1) := by decide +kernel
theorem xl_d_1755 : decode code 1755 = .ok (.iadd, 1) := by decide +kernel
theorem xl_d_1756 : decode code 1756 = .ok (.iaload, 1) := by decide +kernel
theorem xl_d_1757 : decode code 1757 = .ok (.aload_n 0, 1) := by decide +kernel
theorem xl_d_1758 : decode code 1758 = .ok (.iload_n 3, 1) := by decide +kernel
theorem xl_d_1759 : decode code 1759 = .ok (.iconst 2, 1) := by decide +kernel
theorem xl_d_1760 : decode code 1760 = .ok (.iadd, 1) := by decide +kernel
theorem xl_d_1761 : decode code 1761 = .ok (.iaload, 1) := by decide +kernel
theorem xl_d_1762 : decode code 1762 = .ok (.aload_n 0, 1) := by decide +kernel
theorem xl_d_1763 : decode code 1763 = .ok (.iload_n 3, 1) := by decide +kernel
theorem xl_d_1764 : decode code 1764 = .ok (.iconst 3, 1) := by decide +kernel
theorem xl_d_1765 : decode code 1765 = .ok (.iadd, 1) := by decide +kernel
theorem xl_d_1766 : decode code 1766 = .ok (.iaload, 1) := by decide +kernel
theorem xl_d_1767 : decode code 1767 = .ok (.aload_n 0, 1) := by decide +kernel
theorem xl_d_1768 : decode code 1768 = .ok (.iload_n 3, 1) := by decide +kernel
theorem xl_d_1769 : decode code 1769 = .ok (.iconst 4, 1) := by decide +kernel
theorem xl_d_1770 : decode code 1770 = .ok (.iadd, 1) := by decide +kernel
theorem xl_d_1771 : decode code 1771 = .ok (.iaload, 1) := by decide +kernel
theorem xl_d_1772 : decode code 1772 = .ok (.invokevirtual 278, 3) := by decide +kernel
theorem xl_d_1775 : decode code 1775 = .ok (.pop, 1) := by decide +kernel
theorem xl_d_1776 : decode code 1776 = .ok (.goto 360, 3) := by decide +kernel
theorem xl_d_1779 : decode code 1779 = .ok (.aload_n 1, 1) := by decide +kernel
theorem xl_d_1780 : decode code 1780 = .ok (.aload_n 0, 1) := by decide +kernel
theorem xl_d_1781 : decode code 1781 = .ok (.iload_n 3, 1) := by decide +kernel
theorem xl_d_1782 : decode code 1782 = .ok (.iconst 1, 1) := by decide +kernel
theorem xl_d_1783 : decode code 1783 = .ok (.iadd, 1) := by decide +kernel
theorem xl_d_1784 : decode code 1784 = .ok (.iaload, 1) := by decide +kernel
theorem xl_d_1785 : decode code 1785 = .ok (.aload_n 0, 1) := by decide +kernel
theorem xl_d_1786 : decode code 1786 = .ok (.iload_n 3, 1) := by decide +kernel
theorem xl_d_1787 : decode code 1787 = .ok (.iconst 2, 1) := by decide +kernel
theorem xl_d_1788 : decode code 1788 = .ok (.iadd, 1) := by decide +kernel
theorem xl_d_1789 : decode code 1789 = .ok (.iaload, 1) := by decide +kernel
theorem xl_d_1790 : decode code 1790 = .ok (.invokevirtual 279, 3) := by decide +kernel
theorem xl_d_1793 : decode code 1793 = .ok (.pop, 1) := by decide +kernel
theorem xl_d_1794 : decode code 1794 = .ok (.aload_n 2, 1) := by decide +kernel
theorem xl_d_1795 : decode code 1795 = .ok (.aload_n 0, 1) := by decide +kernel
theorem xl_d_1796 : decode code 1796 = .ok (.iload_n 3, 1) := by decide +kernel
theorem xl_d_1797 : decode code 1797 = .ok (.iconst 1, 1) := by decide +kernel
theorem xl_d_1798 : decode code 1798 = .ok (.iadd, 1) := by decide +kernel
theorem xl_d_1799 : decode code 1799 = .ok (.iaload, 1) := by decide +kernel
theorem xl_d_1800 : decode code 1800 = .ok (.aload_n 0, 1) := by decide +kernel
theorem xl_d_1801 : decode code 1801 = .ok (.iload_n 3, 1) := by decide +kernel
theorem xl_d_1802 : decode code 1802 = .ok (.iconst 2, 1) := by decide +kernel
theorem xl_d_1803 : decode code 1803 = .ok (.iadd, 1) := by decide +kernel
theorem xl_d_1804 : decode code 1804 = .ok (.iaload, 1) := by decide +kernel
theorem xl_d_1805 : decode code 1805 = .ok (.invokevirtual 282, 3) := by decide +kernel
theorem xl_d_1808 : decode code 1808 = .ok (.pop, 1) := by decide +kernel
theorem xl_d_1809 : decode code 1809 = .ok (.goto 327, 3) := by decide +kernel
theorem xl_d_1812 : decode code 1812 = .ok (.aload_n 1, 1) := by decide +kernel
theorem xl_d_1813 : decode code 1813 = .ok (.aload_n 0, 1) := by decide +kernel
theorem xl_d_1814 : decode code 1814 = .ok (.iload_n 3, 1) := by decide +kernel
theorem xl_d_1815 : decode code 1815 = .ok (.iconst 1, 1) := by decide +kernel
theorem xl_d_1816 : decode code 1816 = .ok (.iadd, 1) := by decide +kernel
theorem xl_d_1817 : decode code 1817 = .ok (.iaload, 1) := by decide +kernel
theorem xl_d_1818 : decode code 1818 = .ok (.aload_n 0, 1) := by decide +kernel
theorem xl_d_1819 : decode code 1819 = .ok (.iload_n 3, 1) := by decide +kernel
theorem xl_d_1820 : decode code 1820 = .ok (.iconst 2, 1) := by decide +kernel
theorem xl_d_1821 : decode code 1821 = .ok (.iadd, 1) := by decide +kernel
theorem xl_d_1822 : decode code 1822 = .ok (.iaload, 1) := by decide +kernel
theorem xl_d_1823 : decode code 1823 = .ok (.invokevirtual 283, 3) := by decide +kernel
theorem xl_d_1826 : decode code 1826 = .ok (.pop, 1) := by decide +kernel
theorem xl_d_1827 : decode code 1827 = .ok (.aload_n 2, 1) := by decide +kernel
theorem xl_d_1828 : decode code 1828 = .ok (.aload_n 0, 1) := by decide +kernel
theorem xl_d_1829 : decode code 1829 = .ok (.iload_n 3, 1) := by decide +kernel
theorem xl_d_1830 : decode code 1830 = .ok (.iconst 1, 1) := by decide +kernel
theorem xl_d_1831 : decode code 1831 = .ok (.iadd, 1) := by decide +kernel
theorem xl_d_1832 : decode code 1832 = .ok (.iaload, 1) := by decide +kernel
theorem xl_d_1833 : decode code 1833 = .ok (.aload_n 0, 1) := by decide +kernel
theorem xl_d_1834 : decode code 1834 = .ok (.iload_n 3, 1) := by decide +kernel
theorem xl_d_1835 : decode code 1835 = .ok (.iconst 2, 1) := by decide +kernel
theorem xl_d_1836 : decode code 1836 = .ok (.iadd, 1) := by decide +kernel
theorem xl_d_1837 : decode code 1837 = .ok (.iaload, 1) := by decide +kernel
theorem xl_d_1838 : decode code 1838 = .ok (.invokevirtual 286, 3) := by decide +kernel
theorem xl_d_1841 : decode code 1841 = .ok (.pop, 1) := by decide +kernel
theorem xl_d_1842 : decode code 1842 = .ok (.goto 294, 3) := by decide +kernel
theorem xl_d_1845 : decode code 1845 = .ok (.aload_n 1, 1) := by decide +kernel
theorem xl_d_1846 : decode code 1846 = .ok (.aload_n 0, 1) := by decide +kernel
theorem xl_d_1847 : decode code 1847 = .ok (.iload_n 3, 1) := by decide +kernel
theorem xl_d_1848 : decode code 1848 = .ok (.iconst 1, 1) := by decide +kernel
theorem xl_d_1849 : decode code 1849 = .ok (.iadd, 1) := by decide +kernel
theorem xl_d_1850 : decode code 1850 = .ok (.iaload, 1) := by decide +kernel
theorem xl_d_1851 : decode code 1851 = .ok (.aload_n 0, 1) := by decide +kernel
theorem xl_d_1852 : decode code 1852 = .ok (.iload_n 3, 1) := by decide +kernel
theorem xl_d_1853 : decode code 1853 = .ok (.iconst 2, 1) := by decide +kernel
theorem xl_d_1854 : decode code 1854 = .ok (.iadd, 1) := by decide +kernel
theorem xl_d_1855 : decode code 1855 = .ok (.iaload, 1) := by decide +kernel
theorem xl_d_1856 : decode code 1856 = .ok (.aload_n 0, 1) := by decide +kernel
theorem xl_d_1857 : decode code 1857 = .ok (.iload_n 3, 1) := by decide +kernel
theorem xl_d_1858 : decode code 1858 = .ok (.iconst 3, 1) := by decide +kernel
theorem xl_d_1859 : decode code 1859 = .ok (.iadd, 1) := by decide +kernel
theorem xl_d_1860 : decode code 1860 = .ok (.iaload, 1) := by decide +kernel
theorem xl_d_1861 : decode code 1861 = .ok (.invokevirtual 287, 3) := by decide +kernel
theorem xl_d_1864 : decode code 1864 = .ok (.pop, 1) := by decide +kernel
theorem xl_d_1865 : decode code 1865 = .ok (.aload_n 2, 1) := by decide +kernel
theorem xl_d_1866 : decode code 1866 = .ok (.aload_n 0, 1) := by decide +kernel
theorem xl_d_1867 : decode code 1867 = .ok (.iload_n 3, 1) := by decide +kernel
theorem xl_d_1868 : decode code 1868 = .ok (.iconst 1, 1) := by decide +kernel
theorem xl_d_1869 : decode code 1869 = .ok (.iadd, 1) := by decide +kernel
theorem xl_d_1870 : decode code 1870 = .ok (.iaload, 1) := by decide +kernel
theorem xl_d_1871 : decode code 1871 = .ok (.aload_n 0, 1) := by decide +kernel
theorem xl_d_1872 : decode code 1872 = .ok (.iload_n 3, 1) := by decide +kernel
theorem xl_d_1873 : decode code 1873 = .ok (.iconst 2, 1) := by decide +kernel
theorem xl_d_1874 : decode code 1874 = .ok (.iadd, 1) := by decide +kernel
theorem xl_d_1875 : decode code 1875 = .ok (.iaload, 1) := by decide +kernel
theorem xl_d_1876 : decode code 1876 = .ok (.aload_n 0, 1) := by decide +kernel
theorem xl_d_1877 : decode code 1877 = .ok (.iload_n 3, 1) := by decide +kernel
theorem xl_d_1878 : decode code 1878 = .ok (.iconst 3, 1) := by decide +kernel
theorem xl_d_1879 : decode code 1879 = .ok (.iadd, 1) := by decide +kernel
theorem xl_d_1880 : decode code 1880 = .ok (.iaload, 1) := by decide +kernel
theorem xl_d_1881 : decode code 1881 = .ok (.invokevirtual 291, 3) := by decide +kernel
theorem xl_d_1884 : decode code 1884 = .ok (.pop, 1) := by decide +kernel
theorem xl_d_1885 : decode code 1885 = .ok (.goto 251, 3) := by decide +kernel
theorem xl_d_1888 : decode code 1888 = .ok (.aload_n 1, 1) := by decide +kernel
theorem xl_d_1889 : decode code 1889 = .ok (.aload_n 0, 1) := by decide +kernel
theorem xl_d_1890 : decode code 1890 = .ok (.iload_n 3, 1) := by decide +kernel
theorem xl_d_1891 : decode code 1891 = .ok (.iconst 1, 1) := by decide +kernel
theorem xl_d_1892 : decode code 1892 = .ok (.iadd, 1) := by decide +kernel
theorem xl_d_1893 : decode code 1893 = .ok (.iaload, 1) := by decide +kernel
theorem xl_d_1894 : decode code 1894 = .ok (.invokevirtual 292, 3) := by decide +kernel
theorem xl_d_1897 : decode code 1897 = .ok (.pop, 1) := by decide +kernel
theorem xl_d_1898 : decode code 1898 = .ok (.aload_n 2, 1) := by decide +kernel
theorem xl_d_1899 : decode code 1899 = .ok (.aload_n 0, 1) := by decide +kernel
theorem xl_d_1900 : decode code 1900 = .ok (.iload_n 3, 1) := by decide +kernel
theorem xl_d_1901 : decode code 1901 = .ok (.iconst 1, 1) := by decide +kernel
theorem xl_d_1902 : decode code 1902 = .ok (.iadd, 1) := by decide +kernel
theorem xl_d_1903 : decode code 1903 = .ok (.iaload, 1) := by decide +kernel
theorem xl_d_1904 : decode code 1904 = .ok (.invokevirtual 295, 3) := by decide +kernel
theorem xl_d_1907 : decode code 1907 = .ok (.pop, 1) := by decide +kernel
theorem xl_d_1908 : decode code 1908 = .ok (.goto 228, 3) := by decide +kernel
theorem xl_d_1911 : decode code 1911 = .ok (.aload_n 1, 1) := by decide +kernel
theorem xl_d_1912 : decode code 1912 = .ok (.aload_n 0, 1) := by decide +kernel
theorem xl_d_1913 : decode code 1913 = .ok (.iload_n 3, 1) := by decide +kernel
theorem xl_d_1914 : decode code 1914 = .ok (.iconst 1, 1) := by decide +kernel
theorem xl_d_1915 : decode code 1915 = .ok (.iadd, 1) := by decide +kernel
theorem xl_d_1916 : decode code 1916 = .ok (.iaload, 1) := by decide +kernel
theorem xl_d_1917 : decode code 1917 = .ok (.invokevirtual 296, 3) := by decide +kernel
theorem xl_d_1920 : decode code 1920 = .ok (.pop, 1) := by decide +kernel
theorem xl_d_1921 : decode code 1921 = .ok (.aload_n 2, 1) := by decide +kernel
theorem xl_d_1922 : decode code 1922 = .ok (.aload_n 0, 1) := by decide +kernel
theorem xl_d_1923 : decode code 1923 = .ok (.iload_n 3, 1) := by decide +kernel
theorem xl_d_1924 : decode code 1924 = .ok (.iconst 1, 1) := by decide +kernel
theorem xl_d_1925 : decode code 1925 = .ok (.iadd, 1) := by decide +kernel
theorem xl_d_1926 : decode code 1926 = .ok (.iaload, 1) := by decide +kernel
theorem xl_d_1927 : decode code 1927 = .ok (.invokevirtual 299, 3) := by decide +kernel
theorem xl_d_1930 : decode code 1930 = .ok (.pop, 1) := by decide +kernel
theorem xl_d_1931 : decode code 1931 = .ok (.goto 205, 3) := by decide +kernel
theorem xl_d_1934 : decode code 1934 = .ok (.aload_n 1, 1) := by decide +kernel
theorem xl_d_1935 : decode code 1935 = .ok (.aload_n 0, 1) := by decide +kernel
theorem xl_d_1936 : decode code 1936 = .ok (.iload_n 3, 1) := by decide +kernel
theorem xl_d_1937 : decode code 1937 = .ok (.iconst 1, 1) := by decide +kernel
theorem xl_d_1938 : decode code 1938 = .ok (.iadd, 1) := by decide +kernel
theorem xl_d_1939 : decode code 1939 = .ok (.iaload, 1) := by decide +kernel
theorem xl_d_1940 : decode code 1940 = .ok (.invokevirtual 300, 3) := by decide +kernel
theorem xl_d_1943 : decode code 1943 = .ok (.pop, 1) := by decide +kernel
