/-! the law, decoded -/
theorem dL_1570 : decode code 1570 = .ok (.aload_n 1, 1) := by decide +kernel
theorem dL_1571 : decode code 1571 = .ok (.aload_n 0, 1) := by decide +kernel
theorem dL_1572 : decode code 1572 = .ok (.iload_n 3, 1) := by decide +kernel
theorem dL_1573 : decode code 1573 = .ok (.iconst 1, 1) := by decide +kernel
theorem dL_1574 : decode code 1574 = .ok (.iadd, 1) := by decide +kernel
theorem dL_1575 : decode code 1575 = .ok (.iaload, 1) := by decide +kernel
theorem dL_1576 : decode code 1576 = .ok (.aload_n 0, 1) := by decide +kernel
theorem dL_1577 : decode code 1577 = .ok (.iload_n 3, 1) := by decide +kernel
theorem dL_1578 : decode code 1578 = .ok (.iconst 2, 1) := by decide +kernel
theorem dL_1579 : decode code 1579 = .ok (.iadd, 1) := by decide +kernel
theorem dL_1580 : decode code 1580 = .ok (.iaload, 1) := by decide +kernel
theorem dL_1581 : decode code 1581 = .ok (.invokevirtual 195, 3) := by decide +kernel
theorem dL_1584 : decode code 1584 = .ok (.aload_n 2, 1) := by decide +kernel
theorem dL_1585 : decode code 1585 = .ok (.aload_n 0, 1) := by decide +kernel
theorem dL_1586 : decode code 1586 = .ok (.iload_n 3, 1) := by decide +kernel
theorem dL_1587 : decode code 1587 = .ok (.iconst 1, 1) := by decide +kernel
theorem dL_1588 : decode code 1588 = .ok (.iadd, 1) := by decide +kernel
theorem dL_1589 : decode code 1589 = .ok (.iaload, 1) := by decide +kernel
theorem dL_1590 : decode code 1590 = .ok (.aload_n 0, 1) := by decide +kernel
theorem dL_1591 : decode code 1591 = .ok (.iload_n 3, 1) := by decide +kernel
theorem dL_1592 : decode code 1592 = .ok (.iconst 2, 1) := by decide +kernel
theorem dL_1593 : decode code 1593 = .ok (.iadd, 1) := by decide +kernel
theorem dL_1594 : decode code 1594 = .ok (.iaload, 1) := by decide +kernel
theorem dL_1595 : decode code 1595 = .ok (.invokevirtual 198, 3) := by decide +kernel
theorem dL_1598 : decode code 1598 = .ok (.if_icmp .eq 90, 3) := by decide +kernel
theorem dL_1601 : decode code 1601 = .ok (.iconst 0, 1) := by decide +kernel
theorem dL_1602 : decode code 1602 = .ok (.ireturn, 1) := by decide +kernel
theorem dL_1603 : decode code 1603 = .ok (.aload_n 1, 1) := by decide +kernel
theorem dL_1604 : decode code 1604 = .ok (.invokevirtual 199, 3) := by decide +kernel
theorem dL_1607 : decode code 1607 = .ok (.aload_n 2, 1) := by decide +kernel
theorem dL_1608 : decode code 1608 = .ok (.invokevirtual 202, 3) := by decide +kernel
theorem dL_1611 : decode code 1611 = .ok (.if_icmp .eq 77, 3) := by decide +kernel
theorem dL_1614 : decode code 1614 = .ok (.iconst 0, 1) := by decide +kernel
theorem dL_1615 : decode code 1615 = .ok (.ireturn, 1) := by decide +kernel
theorem dL_1616 : decode code 1616 = .ok (.aload_n 1, 1) := by decide +kernel
theorem dL_1617 : decode code 1617 = .ok (.invokevirtual 203, 3) := by decide +kernel
theorem dL_1620 : decode code 1620 = .ok (.aload_n 2, 1) := by decide +kernel
theorem dL_1621 : decode code 1621 = .ok (.invokevirtual 206, 3) := by decide +kernel
theorem dL_1624 : decode code 1624 = .ok (.if_icmp .eq 64, 3) := by decide +kernel
theorem dL_1627 : decode code 1627 = .ok (.iconst 0, 1) := by decide +kernel
theorem dL_1628 : decode code 1628 = .ok (.ireturn, 1) := by decide +kernel
theorem dL_1629 : decode code 1629 = .ok (.aload_n 1, 1) := by decide +kernel
theorem dL_1630 : decode code 1630 = .ok (.invokevirtual 207, 3) := by decide +kernel
theorem dL_1633 : decode code 1633 = .ok (.aload_n 2, 1) := by decide +kernel
theorem dL_1634 : decode code 1634 = .ok (.invokevirtual 210, 3) := by decide +kernel
theorem dL_1637 : decode code 1637 = .ok (.if_icmp .eq 51, 3) := by decide +kernel
theorem dL_1640 : decode code 1640 = .ok (.iconst 0, 1) := by decide +kernel
theorem dL_1641 : decode code 1641 = .ok (.ireturn, 1) := by decide +kernel
theorem dL_1642 : decode code 1642 = .ok (.aload_n 1, 1) := by decide +kernel
theorem dL_1643 : decode code 1643 = .ok (.aload_n 0, 1) := by decide +kernel
theorem dL_1644 : decode code 1644 = .ok (.iload_n 3, 1) := by decide +kernel
theorem dL_1645 : decode code 1645 = .ok (.iconst 1, 1) := by decide +kernel
theorem dL_1646 : decode code 1646 = .ok (.iadd, 1) := by decide +kernel
theorem dL_1647 : decode code 1647 = .ok (.iaload, 1) := by decide +kernel
theorem dL_1648 : decode code 1648 = .ok (.invokevirtual 211, 3) := by decide +kernel
theorem dL_1651 : decode code 1651 = .ok (.aload_n 2, 1) := by decide +kernel
theorem dL_1652 : decode code 1652 = .ok (.aload_n 0, 1) := by decide +kernel
theorem dL_1653 : decode code 1653 = .ok (.iload_n 3, 1) := by decide +kernel
theorem dL_1654 : decode code 1654 = .ok (.iconst 1, 1) := by decide +kernel
theorem dL_1655 : decode code 1655 = .ok (.iadd, 1) := by decide +kernel
theorem dL_1656 : decode code 1656 = .ok (.iaload, 1) := by decide +kernel
theorem dL_1657 : decode code 1657 = .ok (.invokevirtual 214, 3) := by decide +kernel
theorem dL_1660 : decode code 1660 = .ok (.if_icmp .eq 28, 3) := by decide +kernel
theorem dL_1663 : decode code 1663 = .ok (.iconst 0, 1) := by decide +kernel
theorem dL_1664 : decode code 1664 = .ok (.ireturn, 1) := by decide +kernel
theorem dL_1665 : decode code 1665 = .ok (.aload_n 1, 1) := by decide +kernel
theorem dL_1666 : decode code 1666 = .ok (.aload_n 0, 1) := by decide +kernel
theorem dL_1667 : decode code 1667 = .ok (.iload_n 3, 1) := by decide +kernel
theorem dL_1668 : decode code 1668 = .ok (.iconst 1, 1) := by decide +kernel
theorem dL_1669 : decode code 1669 = .ok (.iadd, 1) := by decide +kernel
theorem dL_1670 : decode code 1670 = .ok (.iaload, 1) := by decide +kernel
theorem dL_1671 : decode code 1671 = .ok (.invokevirtual 215, 3) := by decide +kernel
theorem dL_1674 : decode code 1674 = .ok (.aload_n 2, 1) := by decide +kernel
theorem dL_1675 : decode code 1675 = .ok (.aload_n 0, 1) := by decide +kernel
theorem dL_1676 : decode code 1676 = .ok (.iload_n 3, 1) := by decide +kernel
theorem dL_1677 : decode code 1677 = .ok (.iconst 1, 1) := by decide +kernel
theorem dL_1678 : decode code 1678 = .ok (.iadd, 1) := by decide +kernel
theorem dL_1679 : decode code 1679 = .ok (.iaload, 1) := by decide +kernel
theorem dL_1680 : decode code 1680 = .ok (.invokevirtual 218, 3) := by decide +kernel
theorem dL_1683 : decode code 1683 = .ok (.if_icmp .eq 5, 3) := by decide +kernel
theorem dL_1686 : decode code 1686 = .ok (.iconst 0, 1) := by decide +kernel
theorem dL_1687 : decode code 1687 = .ok (.ireturn, 1) := by decide +kernel
theorem dL_1688 : decode code 1688 = .ok (.iinc 3 6, 3) := by decide +kernel
theorem dL_1691 : decode code 1691 = .ok (.goto (-1673), 3) := by decide +kernel
theorem dL_1694 : decode code 1694 = .ok (.iconst 1, 1) := by decide +kernel
theorem dL_1695 : decode code 1695 = .ok (.ireturn, 1) := by decide +kernel
