/-! the law (by wip/tools/gen_law.py) -/
section TA4
variable {xs : Nat → Int32} {L N K i d mc ms c s : Nat} {D : am_D} {Q : am_O → am_AH → Prop}
theorem g_mean2 (hF3 : q_F3) (hN : 2000 ≤ N) (hI : q_I D) : ∃ f, m30 N D = some f ∧ m145 N D = some (f, am_uI D 106 0 0) ∧ q_I (am_uI D 106 0 0) ∧ vf_n64 (FP.f2d f) := by
  obtain ⟨f, h1, h2, h3⟩ := g_mean hN hI
  obtain ⟨n, p, T, V, hK⟩ := q_I_K hI
  have ha := q_a168 (k_pw hK)
  have hb := q_part (k_pw hK)
  have e := q30 hN hK
  rw [h1] at e
  cases e
  exact ⟨_, h1, h2, h3, (hF3 N hN _ (by omega) _ (by omega)).1⟩
theorem r287_1502 : am_at 287 1502 = some (.aload_n 1, 1, [1]) := by decide +kernel
theorem r287_1503 : am_at 287 1503 = some (.aload_n 0, 1, [0]) := by decide +kernel
theorem r287_1504 : am_at 287 1504 = some (.iload 5, 2, [5]) := by decide +kernel
theorem r287_1506 : am_at 287 1506 = some (.iconst (1), 1, []) := by decide +kernel
theorem r287_1507 : am_at 287 1507 = some (.iadd, 1, []) := by decide +kernel
theorem r287_1508 : am_at 287 1508 = some (.iaload, 1, []) := by decide +kernel
theorem r287_1509 : am_at 287 1509 = some (.aload_n 0, 1, [0]) := by decide +kernel
theorem r287_1510 : am_at 287 1510 = some (.iload 5, 2, [5]) := by decide +kernel
theorem r287_1512 : am_at 287 1512 = some (.iconst (2), 1, []) := by decide +kernel
theorem r287_1513 : am_at 287 1513 = some (.iadd, 1, []) := by decide +kernel
theorem r287_1514 : am_at 287 1514 = some (.iaload, 1, []) := by decide +kernel
theorem r287_1515 : am_at 287 1515 = some (.aload_n 0, 1, [0]) := by decide +kernel
theorem r287_1516 : am_at 287 1516 = some (.iload 5, 2, [5]) := by decide +kernel
theorem r287_1518 : am_at 287 1518 = some (.iconst (3), 1, []) := by decide +kernel
theorem r287_1519 : am_at 287 1519 = some (.iadd, 1, []) := by decide +kernel
theorem r287_1520 : am_at 287 1520 = some (.iaload, 1, []) := by decide +kernel
theorem r287_1521 : am_at 287 1521 = some (.aload_n 3, 1, [3]) := by decide +kernel
theorem r287_1522 : am_at 287 1522 = some (.invokestatic 189, 3, [282, 5, 1171, 0]) := by decide +kernel
theorem r287_1525 : am_at 287 1525 = some (.istore 6, 2, [6]) := by decide +kernel
theorem r287_1527 : am_at 287 1527 = some (.aload_n 2, 1, [2]) := by decide +kernel
theorem r287_1528 : am_at 287 1528 = some (.aload_n 0, 1, [0]) := by decide +kernel
theorem r287_1529 : am_at 287 1529 = some (.iload 5, 2, [5]) := by decide +kernel
theorem r287_1531 : am_at 287 1531 = some (.iconst (1), 1, []) := by decide +kernel
theorem r287_1532 : am_at 287 1532 = some (.iadd, 1, []) := by decide +kernel
theorem r287_1533 : am_at 287 1533 = some (.iaload, 1, []) := by decide +kernel
theorem r287_1534 : am_at 287 1534 = some (.aload_n 0, 1, [0]) := by decide +kernel
theorem r287_1535 : am_at 287 1535 = some (.iload 5, 2, [5]) := by decide +kernel
theorem r287_1537 : am_at 287 1537 = some (.iconst (2), 1, []) := by decide +kernel
theorem r287_1538 : am_at 287 1538 = some (.iadd, 1, []) := by decide +kernel
theorem r287_1539 : am_at 287 1539 = some (.iaload, 1, []) := by decide +kernel
theorem r287_1540 : am_at 287 1540 = some (.aload_n 0, 1, [0]) := by decide +kernel
theorem r287_1541 : am_at 287 1541 = some (.iload 5, 2, [5]) := by decide +kernel
theorem r287_1543 : am_at 287 1543 = some (.iconst (3), 1, []) := by decide +kernel
theorem r287_1544 : am_at 287 1544 = some (.iadd, 1, []) := by decide +kernel
theorem r287_1545 : am_at 287 1545 = some (.iaload, 1, []) := by decide +kernel
theorem r287_1546 : am_at 287 1546 = some (.invokevirtual 191, 3, [125, 4, 1604, 0]) := by decide +kernel
theorem r287_1549 : am_at 287 1549 = some (.istore 7, 2, [7]) := by decide +kernel
theorem r287_1551 : am_at 287 1551 = some (.aload_n 2, 1, [2]) := by decide +kernel
theorem r287_1552 : am_at 287 1552 = some (.invokevirtual 112, 3, [45, 1, 1294, 0]) := by decide +kernel
theorem r287_1555 : am_at 287 1555 = some (.iload 6, 2, [6]) := by decide +kernel
theorem r287_1557 : am_at 287 1557 = some (.if_icmp .eq (5), 3, [1562]) := by decide +kernel
theorem r287_1560 : am_at 287 1560 = some (.iconst (0), 1, []) := by decide +kernel
theorem r287_1561 : am_at 287 1561 = some (.ireturn, 1, []) := by decide +kernel
theorem r287_1562 : am_at 287 1562 = some (.iload 6, 2, [6]) := by decide +kernel
theorem r287_1564 : am_at 287 1564 = some (.ifCond .ne (15), 3, [1579]) := by decide +kernel
theorem r287_1567 : am_at 287 1567 = some (.aload_n 3, 1, [3]) := by decide +kernel
theorem r287_1568 : am_at 287 1568 = some (.iconst (0), 1, []) := by decide +kernel
theorem r287_1569 : am_at 287 1569 = some (.laload, 1, []) := by decide +kernel
theorem r287_1570 : am_at 287 1570 = some (.iload 7, 2, [7]) := by decide +kernel
theorem r287_1572 : am_at 287 1572 = some (.i2l, 1, []) := by decide +kernel
theorem r287_1573 : am_at 287 1573 = some (.lcmp, 1, []) := by decide +kernel
theorem r287_1574 : am_at 287 1574 = some (.ifCond .eq (5), 3, [1579]) := by decide +kernel
theorem r287_1577 : am_at 287 1577 = some (.iconst (0), 1, []) := by decide +kernel
theorem r287_1578 : am_at 287 1578 = some (.ireturn, 1, []) := by decide +kernel
theorem r287_1579 : am_at 287 1579 = some (.goto (377), 3, [1956]) := by decide +kernel
theorem r287_1582 : am_at 287 1582 = some (.aload_n 1, 1, [1]) := by decide +kernel
theorem r287_1583 : am_at 287 1583 = some (.aload_n 0, 1, [0]) := by decide +kernel
theorem r287_1584 : am_at 287 1584 = some (.iload 5, 2, [5]) := by decide +kernel
theorem r287_1586 : am_at 287 1586 = some (.iconst (1), 1, []) := by decide +kernel
theorem r287_1587 : am_at 287 1587 = some (.iadd, 1, []) := by decide +kernel
theorem r287_1588 : am_at 287 1588 = some (.iaload, 1, []) := by decide +kernel
theorem r287_1589 : am_at 287 1589 = some (.aload_n 0, 1, [0]) := by decide +kernel
theorem r287_1590 : am_at 287 1590 = some (.iload 5, 2, [5]) := by decide +kernel
theorem r287_1592 : am_at 287 1592 = some (.iconst (2), 1, []) := by decide +kernel
theorem r287_1593 : am_at 287 1593 = some (.iadd, 1, []) := by decide +kernel
theorem r287_1594 : am_at 287 1594 = some (.iaload, 1, []) := by decide +kernel
theorem r287_1595 : am_at 287 1595 = some (.aload_n 3, 1, [3]) := by decide +kernel
theorem r287_1596 : am_at 287 1596 = some (.invokestatic 192, 3, [283, 4, 1175, 0]) := by decide +kernel
theorem r287_1599 : am_at 287 1599 = some (.istore 6, 2, [6]) := by decide +kernel
theorem r287_1601 : am_at 287 1601 = some (.aload_n 2, 1, [2]) := by decide +kernel
theorem r287_1602 : am_at 287 1602 = some (.aload_n 0, 1, [0]) := by decide +kernel
theorem r287_1603 : am_at 287 1603 = some (.iload 5, 2, [5]) := by decide +kernel
theorem r287_1605 : am_at 287 1605 = some (.iconst (1), 1, []) := by decide +kernel
theorem r287_1606 : am_at 287 1606 = some (.iadd, 1, []) := by decide +kernel
theorem r287_1607 : am_at 287 1607 = some (.iaload, 1, []) := by decide +kernel
theorem r287_1608 : am_at 287 1608 = some (.aload_n 0, 1, [0]) := by decide +kernel
theorem r287_1609 : am_at 287 1609 = some (.iload 5, 2, [5]) := by decide +kernel
theorem r287_1611 : am_at 287 1611 = some (.iconst (2), 1, []) := by decide +kernel
theorem r287_1612 : am_at 287 1612 = some (.iadd, 1, []) := by decide +kernel
theorem r287_1613 : am_at 287 1613 = some (.iaload, 1, []) := by decide +kernel
theorem r287_1614 : am_at 287 1614 = some (.invokevirtual 194, 3, [127, 3, 1612, 0]) := by decide +kernel
theorem r287_1617 : am_at 287 1617 = some (.istore 7, 2, [7]) := by decide +kernel
theorem r287_1619 : am_at 287 1619 = some (.aload_n 2, 1, [2]) := by decide +kernel
theorem r287_1620 : am_at 287 1620 = some (.invokevirtual 112, 3, [45, 1, 1294, 0]) := by decide +kernel
theorem r287_1623 : am_at 287 1623 = some (.iload 6, 2, [6]) := by decide +kernel
theorem r287_1625 : am_at 287 1625 = some (.if_icmp .eq (5), 3, [1630]) := by decide +kernel
theorem r287_1628 : am_at 287 1628 = some (.iconst (0), 1, []) := by decide +kernel
theorem r287_1629 : am_at 287 1629 = some (.ireturn, 1, []) := by decide +kernel
theorem r287_1630 : am_at 287 1630 = some (.iload 6, 2, [6]) := by decide +kernel
theorem r287_1632 : am_at 287 1632 = some (.ifCond .ne (15), 3, [1647]) := by decide +kernel
theorem r287_1635 : am_at 287 1635 = some (.aload_n 3, 1, [3]) := by decide +kernel
theorem r287_1636 : am_at 287 1636 = some (.iconst (0), 1, []) := by decide +kernel
theorem r287_1637 : am_at 287 1637 = some (.laload, 1, []) := by decide +kernel
theorem r287_1638 : am_at 287 1638 = some (.iload 7, 2, [7]) := by decide +kernel
theorem r287_1640 : am_at 287 1640 = some (.i2l, 1, []) := by decide +kernel
theorem r287_1641 : am_at 287 1641 = some (.lcmp, 1, []) := by decide +kernel
theorem r287_1642 : am_at 287 1642 = some (.ifCond .eq (5), 3, [1647]) := by decide +kernel
theorem r287_1645 : am_at 287 1645 = some (.iconst (0), 1, []) := by decide +kernel
theorem r287_1646 : am_at 287 1646 = some (.ireturn, 1, []) := by decide +kernel
theorem r287_1647 : am_at 287 1647 = some (.goto (309), 3, [1956]) := by decide +kernel
theorem r287_1650 : am_at 287 1650 = some (.aload_n 1, 1, [1]) := by decide +kernel
theorem r287_1651 : am_at 287 1651 = some (.aload_n 0, 1, [0]) := by decide +kernel
theorem r287_1652 : am_at 287 1652 = some (.iload 5, 2, [5]) := by decide +kernel
theorem r287_1654 : am_at 287 1654 = some (.iconst (1), 1, []) := by decide +kernel
theorem r287_1655 : am_at 287 1655 = some (.iadd, 1, []) := by decide +kernel
theorem r287_1656 : am_at 287 1656 = some (.iaload, 1, []) := by decide +kernel
theorem r287_1657 : am_at 287 1657 = some (.aload_n 0, 1, [0]) := by decide +kernel
theorem r287_1658 : am_at 287 1658 = some (.iload 5, 2, [5]) := by decide +kernel
theorem r287_1660 : am_at 287 1660 = some (.iconst (2), 1, []) := by decide +kernel
theorem r287_1661 : am_at 287 1661 = some (.iadd, 1, []) := by decide +kernel
theorem r287_1662 : am_at 287 1662 = some (.iaload, 1, []) := by decide +kernel
theorem r287_1663 : am_at 287 1663 = some (.aload_n 0, 1, [0]) := by decide +kernel
theorem r287_1664 : am_at 287 1664 = some (.iload 5, 2, [5]) := by decide +kernel
theorem r287_1666 : am_at 287 1666 = some (.iconst (3), 1, []) := by decide +kernel
theorem r287_1667 : am_at 287 1667 = some (.iadd, 1, []) := by decide +kernel
theorem r287_1668 : am_at 287 1668 = some (.iaload, 1, []) := by decide +kernel
theorem r287_1669 : am_at 287 1669 = some (.aload 4, 2, [4]) := by decide +kernel
theorem r287_1671 : am_at 287 1671 = some (.invokestatic 195, 3, [284, 5, 1179, 0]) := by decide +kernel
theorem r287_1674 : am_at 287 1674 = some (.istore 6, 2, [6]) := by decide +kernel
theorem r287_1676 : am_at 287 1676 = some (.aload_n 2, 1, [2]) := by decide +kernel
theorem r287_1677 : am_at 287 1677 = some (.aload_n 0, 1, [0]) := by decide +kernel
theorem r287_1678 : am_at 287 1678 = some (.iload 5, 2, [5]) := by decide +kernel
theorem r287_1680 : am_at 287 1680 = some (.iconst (1), 1, []) := by decide +kernel
theorem r287_1681 : am_at 287 1681 = some (.iadd, 1, []) := by decide +kernel
theorem r287_1682 : am_at 287 1682 = some (.iaload, 1, []) := by decide +kernel
theorem r287_1683 : am_at 287 1683 = some (.aload_n 0, 1, [0]) := by decide +kernel
theorem r287_1684 : am_at 287 1684 = some (.iload 5, 2, [5]) := by decide +kernel
theorem r287_1686 : am_at 287 1686 = some (.iconst (2), 1, []) := by decide +kernel
theorem r287_1687 : am_at 287 1687 = some (.iadd, 1, []) := by decide +kernel
theorem r287_1688 : am_at 287 1688 = some (.iaload, 1, []) := by decide +kernel
theorem r287_1689 : am_at 287 1689 = some (.aload_n 0, 1, [0]) := by decide +kernel
theorem r287_1690 : am_at 287 1690 = some (.iload 5, 2, [5]) := by decide +kernel
theorem r287_1692 : am_at 287 1692 = some (.iconst (3), 1, []) := by decide +kernel
theorem r287_1693 : am_at 287 1693 = some (.iadd, 1, []) := by decide +kernel
theorem r287_1694 : am_at 287 1694 = some (.iaload, 1, []) := by decide +kernel
theorem r287_1695 : am_at 287 1695 = some (.invokevirtual 198, 3, [129, 4, 1620, 0]) := by decide +kernel
theorem r287_1698 : am_at 287 1698 = some (.dstore 7, 2, [7]) := by decide +kernel
theorem r287_1700 : am_at 287 1700 = some (.aload_n 2, 1, [2]) := by decide +kernel
theorem r287_1701 : am_at 287 1701 = some (.invokevirtual 112, 3, [45, 1, 1294, 0]) := by decide +kernel
theorem r287_1704 : am_at 287 1704 = some (.iload 6, 2, [6]) := by decide +kernel
theorem r287_1706 : am_at 287 1706 = some (.if_icmp .eq (5), 3, [1711]) := by decide +kernel
theorem r287_1709 : am_at 287 1709 = some (.iconst (0), 1, []) := by decide +kernel
theorem r287_1710 : am_at 287 1710 = some (.ireturn, 1, []) := by decide +kernel
theorem r287_1711 : am_at 287 1711 = some (.iload 6, 2, [6]) := by decide +kernel
theorem r287_1713 : am_at 287 1713 = some (.ifCond .ne (35), 3, [1748]) := by decide +kernel
theorem r287_1716 : am_at 287 1716 = some (.aload 4, 2, [4]) := by decide +kernel
theorem r287_1718 : am_at 287 1718 = some (.iconst (0), 1, []) := by decide +kernel
theorem r287_1719 : am_at 287 1719 = some (.daload, 1, []) := by decide +kernel
theorem r287_1720 : am_at 287 1720 = some (.dload 7, 2, [7]) := by decide +kernel
theorem r287_1722 : am_at 287 1722 = some (.dcmp .l, 1, []) := by decide +kernel
theorem r287_1723 : am_at 287 1723 = some (.ifCond .eq (25), 3, [1748]) := by decide +kernel
theorem r287_1726 : am_at 287 1726 = some (.aload 4, 2, [4]) := by decide +kernel
theorem r287_1728 : am_at 287 1728 = some (.iconst (0), 1, []) := by decide +kernel
theorem r287_1729 : am_at 287 1729 = some (.daload, 1, []) := by decide +kernel
theorem r287_1730 : am_at 287 1730 = some (.aload 4, 2, [4]) := by decide +kernel
theorem r287_1732 : am_at 287 1732 = some (.iconst (0), 1, []) := by decide +kernel
theorem r287_1733 : am_at 287 1733 = some (.daload, 1, []) := by decide +kernel
theorem r287_1734 : am_at 287 1734 = some (.dcmp .l, 1, []) := by decide +kernel
theorem r287_1735 : am_at 287 1735 = some (.ifCond .eq (11), 3, [1746]) := by decide +kernel
theorem r287_1738 : am_at 287 1738 = some (.dload 7, 2, [7]) := by decide +kernel
theorem r287_1740 : am_at 287 1740 = some (.dload 7, 2, [7]) := by decide +kernel
theorem r287_1742 : am_at 287 1742 = some (.dcmp .l, 1, []) := by decide +kernel
theorem r287_1743 : am_at 287 1743 = some (.ifCond .ne (5), 3, [1748]) := by decide +kernel
theorem r287_1746 : am_at 287 1746 = some (.iconst (0), 1, []) := by decide +kernel
theorem r287_1747 : am_at 287 1747 = some (.ireturn, 1, []) := by decide +kernel
theorem r287_1748 : am_at 287 1748 = some (.goto (208), 3, [1956]) := by decide +kernel
theorem r287_1751 : am_at 287 1751 = some (.aload_n 1, 1, [1]) := by decide +kernel
theorem r287_1752 : am_at 287 1752 = some (.aload_n 0, 1, [0]) := by decide +kernel
theorem r287_1753 : am_at 287 1753 = some (.iload 5, 2, [5]) := by decide +kernel
theorem r287_1755 : am_at 287 1755 = some (.iconst (1), 1, []) := by decide +kernel
theorem r287_1756 : am_at 287 1756 = some (.iadd, 1, []) := by decide +kernel
theorem r287_1757 : am_at 287 1757 = some (.iaload, 1, []) := by decide +kernel
theorem r287_1758 : am_at 287 1758 = some (.aload_n 0, 1, [0]) := by decide +kernel
theorem r287_1759 : am_at 287 1759 = some (.iload 5, 2, [5]) := by decide +kernel
theorem r287_1761 : am_at 287 1761 = some (.iconst (2), 1, []) := by decide +kernel
theorem r287_1762 : am_at 287 1762 = some (.iadd, 1, []) := by decide +kernel
theorem r287_1763 : am_at 287 1763 = some (.iaload, 1, []) := by decide +kernel
theorem r287_1764 : am_at 287 1764 = some (.aload_n 0, 1, [0]) := by decide +kernel
theorem r287_1765 : am_at 287 1765 = some (.iload 5, 2, [5]) := by decide +kernel
theorem r287_1767 : am_at 287 1767 = some (.iconst (3), 1, []) := by decide +kernel
theorem r287_1768 : am_at 287 1768 = some (.iadd, 1, []) := by decide +kernel
theorem r287_1769 : am_at 287 1769 = some (.iaload, 1, []) := by decide +kernel
theorem r287_1770 : am_at 287 1770 = some (.aload_n 0, 1, [0]) := by decide +kernel
theorem r287_1771 : am_at 287 1771 = some (.iload 5, 2, [5]) := by decide +kernel
theorem r287_1773 : am_at 287 1773 = some (.iconst (4), 1, []) := by decide +kernel
theorem r287_1774 : am_at 287 1774 = some (.iadd, 1, []) := by decide +kernel
theorem r287_1775 : am_at 287 1775 = some (.iaload, 1, []) := by decide +kernel
theorem r287_1776 : am_at 287 1776 = some (.aload_n 3, 1, [3]) := by decide +kernel
theorem r287_1777 : am_at 287 1777 = some (.invokestatic 199, 3, [285, 6, 1183, 0]) := by decide +kernel
theorem r287_1780 : am_at 287 1780 = some (.istore 6, 2, [6]) := by decide +kernel
theorem r287_1782 : am_at 287 1782 = some (.aload_n 2, 1, [2]) := by decide +kernel
theorem r287_1783 : am_at 287 1783 = some (.aload_n 0, 1, [0]) := by decide +kernel
theorem r287_1784 : am_at 287 1784 = some (.iload 5, 2, [5]) := by decide +kernel
theorem r287_1786 : am_at 287 1786 = some (.iconst (1), 1, []) := by decide +kernel
theorem r287_1787 : am_at 287 1787 = some (.iadd, 1, []) := by decide +kernel
theorem r287_1788 : am_at 287 1788 = some (.iaload, 1, []) := by decide +kernel
theorem r287_1789 : am_at 287 1789 = some (.aload_n 0, 1, [0]) := by decide +kernel
theorem r287_1790 : am_at 287 1790 = some (.iload 5, 2, [5]) := by decide +kernel
theorem r287_1792 : am_at 287 1792 = some (.iconst (2), 1, []) := by decide +kernel
theorem r287_1793 : am_at 287 1793 = some (.iadd, 1, []) := by decide +kernel
theorem r287_1794 : am_at 287 1794 = some (.iaload, 1, []) := by decide +kernel
theorem r287_1795 : am_at 287 1795 = some (.aload_n 0, 1, [0]) := by decide +kernel
theorem r287_1796 : am_at 287 1796 = some (.iload 5, 2, [5]) := by decide +kernel
theorem r287_1798 : am_at 287 1798 = some (.iconst (3), 1, []) := by decide +kernel
theorem r287_1799 : am_at 287 1799 = some (.iadd, 1, []) := by decide +kernel
theorem r287_1800 : am_at 287 1800 = some (.iaload, 1, []) := by decide +kernel
theorem r287_1801 : am_at 287 1801 = some (.aload_n 0, 1, [0]) := by decide +kernel
theorem r287_1802 : am_at 287 1802 = some (.iload 5, 2, [5]) := by decide +kernel
theorem r287_1804 : am_at 287 1804 = some (.iconst (4), 1, []) := by decide +kernel
theorem r287_1805 : am_at 287 1805 = some (.iadd, 1, []) := by decide +kernel
theorem r287_1806 : am_at 287 1806 = some (.iaload, 1, []) := by decide +kernel
theorem r287_1807 : am_at 287 1807 = some (.invokevirtual 202, 3, [134, 5, 1628, 0]) := by decide +kernel
theorem r287_1810 : am_at 287 1810 = some (.istore 7, 2, [7]) := by decide +kernel
theorem r287_1812 : am_at 287 1812 = some (.aload_n 2, 1, [2]) := by decide +kernel
theorem r287_1813 : am_at 287 1813 = some (.invokevirtual 112, 3, [45, 1, 1294, 0]) := by decide +kernel
theorem r287_1816 : am_at 287 1816 = some (.iload 6, 2, [6]) := by decide +kernel
theorem r287_1818 : am_at 287 1818 = some (.if_icmp .eq (5), 3, [1823]) := by decide +kernel
theorem r287_1821 : am_at 287 1821 = some (.iconst (0), 1, []) := by decide +kernel
theorem r287_1822 : am_at 287 1822 = some (.ireturn, 1, []) := by decide +kernel
theorem r287_1823 : am_at 287 1823 = some (.iload 6, 2, [6]) := by decide +kernel
theorem r287_1825 : am_at 287 1825 = some (.ifCond .ne (15), 3, [1840]) := by decide +kernel
theorem r287_1828 : am_at 287 1828 = some (.aload_n 3, 1, [3]) := by decide +kernel
theorem r287_1829 : am_at 287 1829 = some (.iconst (0), 1, []) := by decide +kernel
theorem r287_1830 : am_at 287 1830 = some (.laload, 1, []) := by decide +kernel
theorem r287_1831 : am_at 287 1831 = some (.iload 7, 2, [7]) := by decide +kernel
theorem r287_1833 : am_at 287 1833 = some (.i2l, 1, []) := by decide +kernel
theorem r287_1834 : am_at 287 1834 = some (.lcmp, 1, []) := by decide +kernel
theorem r287_1835 : am_at 287 1835 = some (.ifCond .eq (5), 3, [1840]) := by decide +kernel
theorem r287_1838 : am_at 287 1838 = some (.iconst (0), 1, []) := by decide +kernel
theorem r287_1839 : am_at 287 1839 = some (.ireturn, 1, []) := by decide +kernel
theorem r287_1840 : am_at 287 1840 = some (.goto (116), 3, [1956]) := by decide +kernel
theorem r287_1843 : am_at 287 1843 = some (.aload_n 1, 1, [1]) := by decide +kernel
theorem r287_1844 : am_at 287 1844 = some (.aload_n 0, 1, [0]) := by decide +kernel
theorem r287_1845 : am_at 287 1845 = some (.iload 5, 2, [5]) := by decide +kernel
theorem r287_1847 : am_at 287 1847 = some (.iconst (1), 1, []) := by decide +kernel
theorem r287_1848 : am_at 287 1848 = some (.iadd, 1, []) := by decide +kernel
theorem r287_1849 : am_at 287 1849 = some (.iaload, 1, []) := by decide +kernel
theorem r287_1850 : am_at 287 1850 = some (.aload_n 3, 1, [3]) := by decide +kernel
theorem r287_1851 : am_at 287 1851 = some (.invokestatic 203, 3, [286, 3, 1205, 0]) := by decide +kernel
theorem r287_1854 : am_at 287 1854 = some (.istore 6, 2, [6]) := by decide +kernel
theorem r287_1856 : am_at 287 1856 = some (.aload_n 2, 1, [2]) := by decide +kernel
theorem r287_1857 : am_at 287 1857 = some (.aload_n 0, 1, [0]) := by decide +kernel
theorem r287_1858 : am_at 287 1858 = some (.iload 5, 2, [5]) := by decide +kernel
theorem r287_1860 : am_at 287 1860 = some (.iconst (1), 1, []) := by decide +kernel
theorem r287_1861 : am_at 287 1861 = some (.iadd, 1, []) := by decide +kernel
theorem r287_1862 : am_at 287 1862 = some (.iaload, 1, []) := by decide +kernel
theorem r287_1863 : am_at 287 1863 = some (.invokevirtual 205, 3, [143, 2, 1647, 0]) := by decide +kernel
theorem r287_1866 : am_at 287 1866 = some (.istore 7, 2, [7]) := by decide +kernel
theorem r287_1868 : am_at 287 1868 = some (.aload_n 2, 1, [2]) := by decide +kernel
theorem r287_1869 : am_at 287 1869 = some (.invokevirtual 112, 3, [45, 1, 1294, 0]) := by decide +kernel
theorem r287_1872 : am_at 287 1872 = some (.iload 6, 2, [6]) := by decide +kernel
theorem r287_1874 : am_at 287 1874 = some (.if_icmp .eq (5), 3, [1879]) := by decide +kernel
theorem r287_1877 : am_at 287 1877 = some (.iconst (0), 1, []) := by decide +kernel
theorem r287_1878 : am_at 287 1878 = some (.ireturn, 1, []) := by decide +kernel
theorem r287_1879 : am_at 287 1879 = some (.iload 6, 2, [6]) := by decide +kernel
theorem r287_1881 : am_at 287 1881 = some (.ifCond .ne (15), 3, [1896]) := by decide +kernel
theorem r287_1884 : am_at 287 1884 = some (.aload_n 3, 1, [3]) := by decide +kernel
theorem r287_1885 : am_at 287 1885 = some (.iconst (0), 1, []) := by decide +kernel
theorem r287_1886 : am_at 287 1886 = some (.laload, 1, []) := by decide +kernel
theorem r287_1887 : am_at 287 1887 = some (.iload 7, 2, [7]) := by decide +kernel
theorem r287_1889 : am_at 287 1889 = some (.i2l, 1, []) := by decide +kernel
theorem r287_1890 : am_at 287 1890 = some (.lcmp, 1, []) := by decide +kernel
theorem r287_1891 : am_at 287 1891 = some (.ifCond .eq (5), 3, [1896]) := by decide +kernel
theorem r287_1894 : am_at 287 1894 = some (.iconst (0), 1, []) := by decide +kernel
theorem r287_1895 : am_at 287 1895 = some (.ireturn, 1, []) := by decide +kernel
theorem r287_1896 : am_at 287 1896 = some (.goto (60), 3, [1956]) := by decide +kernel
theorem r287_1899 : am_at 287 1899 = some (.aload_n 1, 1, [1]) := by decide +kernel
theorem r287_1900 : am_at 287 1900 = some (.invokevirtual 206, 3, [30, 1, 387, 0]) := by decide +kernel
theorem r287_1903 : am_at 287 1903 = some (.f2d, 1, []) := by decide +kernel
theorem r287_1904 : am_at 287 1904 = some (.dstore 6, 2, [6]) := by decide +kernel
theorem r287_1906 : am_at 287 1906 = some (.aload_n 2, 1, [2]) := by decide +kernel
theorem r287_1907 : am_at 287 1907 = some (.invokevirtual 210, 3, [145, 1, 1683, 0]) := by decide +kernel
theorem r287_1910 : am_at 287 1910 = some (.f2d, 1, []) := by decide +kernel
theorem r287_1911 : am_at 287 1911 = some (.dstore 8, 2, [8]) := by decide +kernel
theorem r287_1913 : am_at 287 1913 = some (.dload 6, 2, [6]) := by decide +kernel
theorem r287_1915 : am_at 287 1915 = some (.dload 8, 2, [8]) := by decide +kernel
theorem r287_1917 : am_at 287 1917 = some (.dcmp .l, 1, []) := by decide +kernel
theorem r287_1918 : am_at 287 1918 = some (.ifCond .eq (21), 3, [1939]) := by decide +kernel
theorem r287_1921 : am_at 287 1921 = some (.dload 6, 2, [6]) := by decide +kernel
theorem r287_1923 : am_at 287 1923 = some (.dload 6, 2, [6]) := by decide +kernel
theorem r287_1925 : am_at 287 1925 = some (.dcmp .l, 1, []) := by decide +kernel
theorem r287_1926 : am_at 287 1926 = some (.ifCond .eq (11), 3, [1937]) := by decide +kernel
theorem r287_1929 : am_at 287 1929 = some (.dload 8, 2, [8]) := by decide +kernel
theorem r287_1931 : am_at 287 1931 = some (.dload 8, 2, [8]) := by decide +kernel
theorem r287_1933 : am_at 287 1933 = some (.dcmp .l, 1, []) := by decide +kernel
theorem r287_1934 : am_at 287 1934 = some (.ifCond .ne (5), 3, [1939]) := by decide +kernel
theorem r287_1937 : am_at 287 1937 = some (.iconst (0), 1, []) := by decide +kernel
theorem r287_1938 : am_at 287 1938 = some (.ireturn, 1, []) := by decide +kernel
theorem r287_1939 : am_at 287 1939 = some (.goto (17), 3, [1956]) := by decide +kernel
theorem r287_1942 : am_at 287 1942 = some (.aload_n 1, 1, [1]) := by decide +kernel
theorem r287_1943 : am_at 287 1943 = some (.invokevirtual 211, 3, [31, 1, 414, 0]) := by decide +kernel
theorem r287_1946 : am_at 287 1946 = some (.aload_n 2, 1, [2]) := by decide +kernel
theorem r287_1947 : am_at 287 1947 = some (.invokevirtual 215, 3, [150, 1, 1691, 0]) := by decide +kernel
theorem r287_1950 : am_at 287 1950 = some (.lcmp, 1, []) := by decide +kernel
theorem r287_1951 : am_at 287 1951 = some (.ifCond .eq (5), 3, [1956]) := by decide +kernel
theorem r287_1954 : am_at 287 1954 = some (.iconst (0), 1, []) := by decide +kernel
theorem r287_1955 : am_at 287 1955 = some (.ireturn, 1, []) := by decide +kernel
theorem r287_1956 : am_at 287 1956 = some (.iinc 5 (5), 3, [5]) := by decide +kernel
theorem r287_1959 : am_at 287 1959 = some (.goto (-1931), 3, [28]) := by decide +kernel
theorem r287_1962 : am_at 287 1962 = some (.iconst (1), 1, []) := by decide +kernel
theorem r287_1963 : am_at 287 1963 = some (.ireturn, 1, []) := by decide +kernel
theorem law_24 (hi : i + 5 ≤ L) (hL : L ≤ 2560) (hN : 2000 ≤ N) (hI : q_I D) (hc : c + 1 ≤ mc) (hs : s + 6 ≤ ms) (hd : 57 ≤ d) (nx : ∀ D' c' s', q_I D' → c' ≤ c + 1 → s' ≤ s + 6 → am_X xs L 287 d mc ms 1956 [.ref 1000002, .ref 0, .ref 106, .ref 124, .ref 125, .int (Int32.ofNat i), am_dead, am_dead, am_dead, am_dead] [] (am_mk D') c' s' Q) : am_X xs L 287 d mc ms 1502 [.ref 1000002, .ref 0, .ref 106, .ref 124, .ref 125, .int (Int32.ofNat i), am_dead, am_dead, am_dead, am_dead] [] (am_mk D) c s Q := by
  obtain ⟨r, D1, b, D2, h1, h2, h3, h4, h5⟩ := g_having hN hI (xs (i + 1)) (xs (i + 2)) (xs (i + 3))
  refine x_ld (v := .ref 0) r287_1502 rfl rfl rfl ?_
  refine x_ld (v := .ref 1000002) r287_1503 rfl rfl rfl ?_
  refine x_ld (v := .int (Int32.ofNat i)) r287_1504 rfl rfl rfl ?_
  refine x_ic (v := 1) r287_1506 rfl rfl ?_
  refine x_ar r287_1507 rfl trivial rfl ?_
  refine am_topI (v := Int32.ofNat (i + 1)) (q_add i 1).symm ?_
  refine y_ialX (e := (i + 1)) r287_1508 (q_vx hL (by omega)) (q_tn (by omega)) rfl ?_
  refine x_ld (v := .ref 1000002) r287_1509 rfl rfl rfl ?_
  refine x_ld (v := .int (Int32.ofNat i)) r287_1510 rfl rfl rfl ?_
  refine x_ic (v := 2) r287_1512 rfl rfl ?_
  refine x_ar r287_1513 rfl trivial rfl ?_
  refine am_topI (v := Int32.ofNat (i + 2)) (q_add i 2).symm ?_
  refine y_ialX (e := (i + 2)) r287_1514 (q_vx hL (by omega)) (q_tn (by omega)) rfl ?_
  refine x_ld (v := .ref 1000002) r287_1515 rfl rfl rfl ?_
  refine x_ld (v := .int (Int32.ofNat i)) r287_1516 rfl rfl rfl ?_
  refine x_ic (v := 3) r287_1518 rfl rfl ?_
  refine x_ar r287_1519 rfl trivial rfl ?_
  refine am_topI (v := Int32.ofNat (i + 3)) (q_add i 3).symm ?_
  refine y_ialX (e := (i + 3)) r287_1520 (q_vx hL (by omega)) (q_tn (by omega)) rfl ?_
  refine x_ld (v := .ref 124) r287_1521 rfl rfl rfl ?_
  refine x_call1 (as := [.ref 0, .int (xs (i + 1)), .int (xs (i + 2)), .int (xs (i + 3)), .ref 124]) (rest := []) r287_1522 rfl rfl rfl (by decide) (Nat.le_of_ble_eq_true rfl) (m282_ok h1) (Nat.le_trans (by decide) hd) hc hs rfl ?_
  refine x_sto (lc' := [.ref 1000002, .ref 0, .ref 106, .ref 124, .ref 125, .int (Int32.ofNat i), .int r, am_dead, am_dead, am_dead]) (st' := []) r287_1525 rfl rfl rfl rfl ?_
  refine x_ld (v := .ref 106) r287_1527 rfl rfl rfl ?_
  refine x_ld (v := .ref 1000002) r287_1528 rfl rfl rfl ?_
  refine x_ld (v := .int (Int32.ofNat i)) r287_1529 rfl rfl rfl ?_
  refine x_ic (v := 1) r287_1531 rfl rfl ?_
  refine x_ar r287_1532 rfl trivial rfl ?_
  refine am_topI (v := Int32.ofNat (i + 1)) (q_add i 1).symm ?_
  refine y_ialX (e := (i + 1)) r287_1533 (q_vx hL (by omega)) (q_tn (by omega)) rfl ?_
  refine x_ld (v := .ref 1000002) r287_1534 rfl rfl rfl ?_
  refine x_ld (v := .int (Int32.ofNat i)) r287_1535 rfl rfl rfl ?_
  refine x_ic (v := 2) r287_1537 rfl rfl ?_
  refine x_ar r287_1538 rfl trivial rfl ?_
  refine am_topI (v := Int32.ofNat (i + 2)) (q_add i 2).symm ?_
  refine y_ialX (e := (i + 2)) r287_1539 (q_vx hL (by omega)) (q_tn (by omega)) rfl ?_
  refine x_ld (v := .ref 1000002) r287_1540 rfl rfl rfl ?_
  refine x_ld (v := .int (Int32.ofNat i)) r287_1541 rfl rfl rfl ?_
  refine x_ic (v := 3) r287_1543 rfl rfl ?_
  refine x_ar r287_1544 rfl trivial rfl ?_
  refine am_topI (v := Int32.ofNat (i + 3)) (q_add i 3).symm ?_
  refine y_ialX (e := (i + 3)) r287_1545 (q_vx hL (by omega)) (q_tn (by omega)) rfl ?_
  refine x_call1 (as := [.ref 106, .int (xs (i + 1)), .int (xs (i + 2)), .int (xs (i + 3))]) (rest := []) r287_1546 rfl rfl rfl (by decide) (Nat.le_of_ble_eq_true rfl) (m125_ok h2) (Nat.le_trans (by decide) hd) hc hs rfl ?_
  refine x_sto (lc' := [.ref 1000002, .ref 0, .ref 106, .ref 124, .ref 125, .int (Int32.ofNat i), .int r, .int b, am_dead, am_dead]) (st' := []) r287_1549 rfl rfl rfl rfl ?_
  refine x_ld (v := .ref 106) r287_1551 rfl rfl rfl ?_
  refine x_call1 (as := [.ref 106]) (rest := []) r287_1552 rfl rfl rfl (by decide) (Nat.le_of_ble_eq_true rfl) (m45_ok (r := D2.1 106 0) rfl) (Nat.le_trans (by decide) hd) hc hs rfl ?_
  refine x_ld (v := .int r) r287_1555 rfl rfl rfl ?_
  refine x_iceqT r287_1557 h3 ?_
  refine x_ld (v := .int r) r287_1562 rfl rfl rfl ?_
  by_cases q : r = 0
  · refine x_ifneT r287_1564 q rfl ?_
    refine x_ld (v := .ref 124) r287_1567 rfl rfl rfl ?_
    refine x_ic (v := 0) r287_1568 rfl rfl ?_
    refine y_lal (n := 1) (e := 0) r287_1569 rfl (by decide) (by decide) rfl rfl ?_
    refine x_ld (v := .int b) r287_1570 rfl rfl rfl ?_
    refine x_ar r287_1572 rfl trivial rfl ?_
    refine x_ar r287_1573 rfl trivial rfl ?_
    refine am_topI (v := 0) (by rw [h4 q, q_lgc]) ?_
    refine x_ifeqT r287_1574 rfl ?_
    refine x_goto r287_1579 ?_
    exact x_forget (lc0 := [.ref 1000002, .ref 0, .ref 106, .ref 124, .ref 125, .int (Int32.ofNat i), am_dead, am_dead, am_dead, am_dead]) ⟨Or.inl rfl, Or.inl rfl, Or.inl rfl, Or.inl rfl, Or.inl rfl, Or.inl rfl, Or.inr ⟨rfl, rfl⟩, Or.inr ⟨rfl, rfl⟩, Or.inl rfl, Or.inl rfl, trivial⟩ (nx D2 _ _ h5 (Nat.le_refl _) (Nat.le_refl _))
  · refine x_ifneF r287_1564 q ?_
    refine x_goto r287_1579 ?_
    exact x_forget (lc0 := [.ref 1000002, .ref 0, .ref 106, .ref 124, .ref 125, .int (Int32.ofNat i), am_dead, am_dead, am_dead, am_dead]) ⟨Or.inl rfl, Or.inl rfl, Or.inl rfl, Or.inl rfl, Or.inl rfl, Or.inl rfl, Or.inr ⟨rfl, rfl⟩, Or.inr ⟨rfl, rfl⟩, Or.inl rfl, Or.inl rfl, trivial⟩ (nx D2 _ _ h5 (Nat.le_refl _) (Nat.le_refl _))
theorem law_25 (hi : i + 5 ≤ L) (hL : L ≤ 2560) (hN : 2000 ≤ N) (hI : q_I D) (hc : c + 1 ≤ mc) (hs : s + 6 ≤ ms) (hd : 57 ≤ d) (nx : ∀ D' c' s', q_I D' → c' ≤ c + 1 → s' ≤ s + 6 → am_X xs L 287 d mc ms 1956 [.ref 1000002, .ref 0, .ref 106, .ref 124, .ref 125, .int (Int32.ofNat i), am_dead, am_dead, am_dead, am_dead] [] (am_mk D') c' s' Q) : am_X xs L 287 d mc ms 1582 [.ref 1000002, .ref 0, .ref 106, .ref 124, .ref 125, .int (Int32.ofNat i), am_dead, am_dead, am_dead, am_dead] [] (am_mk D) c s Q := by
  obtain ⟨r, D1, b, D2, h1, h2, h3, h4, h5⟩ := g_sure hN hI (xs (i + 1)) (xs (i + 2))
  refine x_ld (v := .ref 0) r287_1582 rfl rfl rfl ?_
  refine x_ld (v := .ref 1000002) r287_1583 rfl rfl rfl ?_
  refine x_ld (v := .int (Int32.ofNat i)) r287_1584 rfl rfl rfl ?_
  refine x_ic (v := 1) r287_1586 rfl rfl ?_
  refine x_ar r287_1587 rfl trivial rfl ?_
  refine am_topI (v := Int32.ofNat (i + 1)) (q_add i 1).symm ?_
  refine y_ialX (e := (i + 1)) r287_1588 (q_vx hL (by omega)) (q_tn (by omega)) rfl ?_
  refine x_ld (v := .ref 1000002) r287_1589 rfl rfl rfl ?_
  refine x_ld (v := .int (Int32.ofNat i)) r287_1590 rfl rfl rfl ?_
  refine x_ic (v := 2) r287_1592 rfl rfl ?_
  refine x_ar r287_1593 rfl trivial rfl ?_
  refine am_topI (v := Int32.ofNat (i + 2)) (q_add i 2).symm ?_
  refine y_ialX (e := (i + 2)) r287_1594 (q_vx hL (by omega)) (q_tn (by omega)) rfl ?_
  refine x_ld (v := .ref 124) r287_1595 rfl rfl rfl ?_
  refine x_call1 (as := [.ref 0, .int (xs (i + 1)), .int (xs (i + 2)), .ref 124]) (rest := []) r287_1596 rfl rfl rfl (by decide) (Nat.le_of_ble_eq_true rfl) (m283_ok h1) (Nat.le_trans (by decide) hd) hc hs rfl ?_
  refine x_sto (lc' := [.ref 1000002, .ref 0, .ref 106, .ref 124, .ref 125, .int (Int32.ofNat i), .int r, am_dead, am_dead, am_dead]) (st' := []) r287_1599 rfl rfl rfl rfl ?_
  refine x_ld (v := .ref 106) r287_1601 rfl rfl rfl ?_
  refine x_ld (v := .ref 1000002) r287_1602 rfl rfl rfl ?_
  refine x_ld (v := .int (Int32.ofNat i)) r287_1603 rfl rfl rfl ?_
  refine x_ic (v := 1) r287_1605 rfl rfl ?_
  refine x_ar r287_1606 rfl trivial rfl ?_
  refine am_topI (v := Int32.ofNat (i + 1)) (q_add i 1).symm ?_
  refine y_ialX (e := (i + 1)) r287_1607 (q_vx hL (by omega)) (q_tn (by omega)) rfl ?_
  refine x_ld (v := .ref 1000002) r287_1608 rfl rfl rfl ?_
  refine x_ld (v := .int (Int32.ofNat i)) r287_1609 rfl rfl rfl ?_
  refine x_ic (v := 2) r287_1611 rfl rfl ?_
  refine x_ar r287_1612 rfl trivial rfl ?_
  refine am_topI (v := Int32.ofNat (i + 2)) (q_add i 2).symm ?_
  refine y_ialX (e := (i + 2)) r287_1613 (q_vx hL (by omega)) (q_tn (by omega)) rfl ?_
  refine x_call1 (as := [.ref 106, .int (xs (i + 1)), .int (xs (i + 2))]) (rest := []) r287_1614 rfl rfl rfl (by decide) (Nat.le_of_ble_eq_true rfl) (m127_ok h2) (Nat.le_trans (by decide) hd) hc hs rfl ?_
  refine x_sto (lc' := [.ref 1000002, .ref 0, .ref 106, .ref 124, .ref 125, .int (Int32.ofNat i), .int r, .int b, am_dead, am_dead]) (st' := []) r287_1617 rfl rfl rfl rfl ?_
  refine x_ld (v := .ref 106) r287_1619 rfl rfl rfl ?_
  refine x_call1 (as := [.ref 106]) (rest := []) r287_1620 rfl rfl rfl (by decide) (Nat.le_of_ble_eq_true rfl) (m45_ok (r := D2.1 106 0) rfl) (Nat.le_trans (by decide) hd) hc hs rfl ?_
  refine x_ld (v := .int r) r287_1623 rfl rfl rfl ?_
  refine x_iceqT r287_1625 h3 ?_
  refine x_ld (v := .int r) r287_1630 rfl rfl rfl ?_
  by_cases q : r = 0
  · refine x_ifneT r287_1632 q rfl ?_
    refine x_ld (v := .ref 124) r287_1635 rfl rfl rfl ?_
    refine x_ic (v := 0) r287_1636 rfl rfl ?_
    refine y_lal (n := 1) (e := 0) r287_1637 rfl (by decide) (by decide) rfl rfl ?_
    refine x_ld (v := .int b) r287_1638 rfl rfl rfl ?_
    refine x_ar r287_1640 rfl trivial rfl ?_
    refine x_ar r287_1641 rfl trivial rfl ?_
    refine am_topI (v := 0) (by rw [h4 q, q_lgc]) ?_
    refine x_ifeqT r287_1642 rfl ?_
    refine x_goto r287_1647 ?_
    exact x_forget (lc0 := [.ref 1000002, .ref 0, .ref 106, .ref 124, .ref 125, .int (Int32.ofNat i), am_dead, am_dead, am_dead, am_dead]) ⟨Or.inl rfl, Or.inl rfl, Or.inl rfl, Or.inl rfl, Or.inl rfl, Or.inl rfl, Or.inr ⟨rfl, rfl⟩, Or.inr ⟨rfl, rfl⟩, Or.inl rfl, Or.inl rfl, trivial⟩ (nx D2 _ _ h5 (Nat.le_refl _) (Nat.le_refl _))
  · refine x_ifneF r287_1632 q ?_
    refine x_goto r287_1647 ?_
    exact x_forget (lc0 := [.ref 1000002, .ref 0, .ref 106, .ref 124, .ref 125, .int (Int32.ofNat i), am_dead, am_dead, am_dead, am_dead]) ⟨Or.inl rfl, Or.inl rfl, Or.inl rfl, Or.inl rfl, Or.inl rfl, Or.inl rfl, Or.inr ⟨rfl, rfl⟩, Or.inr ⟨rfl, rfl⟩, Or.inl rfl, Or.inl rfl, trivial⟩ (nx D2 _ _ h5 (Nat.le_refl _) (Nat.le_refl _))
theorem law_26 (hi : i + 5 ≤ L) (hL : L ≤ 2560) (hN : 2000 ≤ N) (hF1 : q_F1) (hI : q_I D) (hc : c + 1 ≤ mc) (hs : s + 6 ≤ ms) (hd : 57 ≤ d) (nx : ∀ D' c' s', q_I D' → c' ≤ c + 1 → s' ≤ s + 6 → am_X xs L 287 d mc ms 1956 [.ref 1000002, .ref 0, .ref 106, .ref 124, .ref 125, .int (Int32.ofNat i), am_dead, am_dead, am_dead, am_dead] [] (am_mk D') c' s' Q) : am_X xs L 287 d mc ms 1650 [.ref 1000002, .ref 0, .ref 106, .ref 124, .ref 125, .int (Int32.ofNat i), am_dead, am_dead, am_dead, am_dead] [] (am_mk D) c s Q := by
  obtain ⟨r, D1, b, D2, h1, h2, h3, h4, h5⟩ := g_likely hF1 hN hI (xs (i + 1)) (xs (i + 2)) (xs (i + 3))
  refine x_ld (v := .ref 0) r287_1650 rfl rfl rfl ?_
  refine x_ld (v := .ref 1000002) r287_1651 rfl rfl rfl ?_
  refine x_ld (v := .int (Int32.ofNat i)) r287_1652 rfl rfl rfl ?_
  refine x_ic (v := 1) r287_1654 rfl rfl ?_
  refine x_ar r287_1655 rfl trivial rfl ?_
  refine am_topI (v := Int32.ofNat (i + 1)) (q_add i 1).symm ?_
  refine y_ialX (e := (i + 1)) r287_1656 (q_vx hL (by omega)) (q_tn (by omega)) rfl ?_
  refine x_ld (v := .ref 1000002) r287_1657 rfl rfl rfl ?_
  refine x_ld (v := .int (Int32.ofNat i)) r287_1658 rfl rfl rfl ?_
  refine x_ic (v := 2) r287_1660 rfl rfl ?_
  refine x_ar r287_1661 rfl trivial rfl ?_
  refine am_topI (v := Int32.ofNat (i + 2)) (q_add i 2).symm ?_
  refine y_ialX (e := (i + 2)) r287_1662 (q_vx hL (by omega)) (q_tn (by omega)) rfl ?_
  refine x_ld (v := .ref 1000002) r287_1663 rfl rfl rfl ?_
  refine x_ld (v := .int (Int32.ofNat i)) r287_1664 rfl rfl rfl ?_
  refine x_ic (v := 3) r287_1666 rfl rfl ?_
  refine x_ar r287_1667 rfl trivial rfl ?_
  refine am_topI (v := Int32.ofNat (i + 3)) (q_add i 3).symm ?_
  refine y_ialX (e := (i + 3)) r287_1668 (q_vx hL (by omega)) (q_tn (by omega)) rfl ?_
  refine x_ld (v := .ref 125) r287_1669 rfl rfl rfl ?_
  refine x_call1 (as := [.ref 0, .int (xs (i + 1)), .int (xs (i + 2)), .int (xs (i + 3)), .ref 125]) (rest := []) r287_1671 rfl rfl rfl (by decide) (Nat.le_of_ble_eq_true rfl) (m284_ok h1) (Nat.le_trans (by decide) hd) hc hs rfl ?_
  refine x_sto (lc' := [.ref 1000002, .ref 0, .ref 106, .ref 124, .ref 125, .int (Int32.ofNat i), .int r, am_dead, am_dead, am_dead]) (st' := []) r287_1674 rfl rfl rfl rfl ?_
  refine x_ld (v := .ref 106) r287_1676 rfl rfl rfl ?_
  refine x_ld (v := .ref 1000002) r287_1677 rfl rfl rfl ?_
  refine x_ld (v := .int (Int32.ofNat i)) r287_1678 rfl rfl rfl ?_
  refine x_ic (v := 1) r287_1680 rfl rfl ?_
  refine x_ar r287_1681 rfl trivial rfl ?_
  refine am_topI (v := Int32.ofNat (i + 1)) (q_add i 1).symm ?_
  refine y_ialX (e := (i + 1)) r287_1682 (q_vx hL (by omega)) (q_tn (by omega)) rfl ?_
  refine x_ld (v := .ref 1000002) r287_1683 rfl rfl rfl ?_
  refine x_ld (v := .int (Int32.ofNat i)) r287_1684 rfl rfl rfl ?_
  refine x_ic (v := 2) r287_1686 rfl rfl ?_
  refine x_ar r287_1687 rfl trivial rfl ?_
  refine am_topI (v := Int32.ofNat (i + 2)) (q_add i 2).symm ?_
  refine y_ialX (e := (i + 2)) r287_1688 (q_vx hL (by omega)) (q_tn (by omega)) rfl ?_
  refine x_ld (v := .ref 1000002) r287_1689 rfl rfl rfl ?_
  refine x_ld (v := .int (Int32.ofNat i)) r287_1690 rfl rfl rfl ?_
  refine x_ic (v := 3) r287_1692 rfl rfl ?_
  refine x_ar r287_1693 rfl trivial rfl ?_
  refine am_topI (v := Int32.ofNat (i + 3)) (q_add i 3).symm ?_
  refine y_ialX (e := (i + 3)) r287_1694 (q_vx hL (by omega)) (q_tn (by omega)) rfl ?_
  refine x_call1 (as := [.ref 106, .int (xs (i + 1)), .int (xs (i + 2)), .int (xs (i + 3))]) (rest := []) r287_1695 rfl rfl rfl (by decide) (Nat.le_of_ble_eq_true rfl) (m129_ok h2) (Nat.le_trans (by decide) hd) hc hs rfl ?_
  refine x_sto (lc' := [.ref 1000002, .ref 0, .ref 106, .ref 124, .ref 125, .int (Int32.ofNat i), .int r, .double b, am_dead, am_dead]) (st' := []) r287_1698 rfl rfl rfl rfl ?_
  refine x_ld (v := .ref 106) r287_1700 rfl rfl rfl ?_
  refine x_call1 (as := [.ref 106]) (rest := []) r287_1701 rfl rfl rfl (by decide) (Nat.le_of_ble_eq_true rfl) (m45_ok (r := D2.1 106 0) rfl) (Nat.le_trans (by decide) hd) hc hs rfl ?_
  refine x_ld (v := .int r) r287_1704 rfl rfl rfl ?_
  refine x_iceqT r287_1706 h3 ?_
  refine x_ld (v := .int r) r287_1711 rfl rfl rfl ?_
  by_cases q : r = 0
  · refine x_ifneT r287_1713 q rfl ?_
    refine x_ld (v := .ref 125) r287_1716 rfl rfl rfl ?_
    refine x_ic (v := 0) r287_1718 rfl rfl ?_
    refine y_dal (n := 1) (e := 0) r287_1719 rfl (by decide) (by decide) rfl rfl ?_
    refine am_topD (v := b) (h4 q).symm ?_
    refine x_ld (v := .double b) r287_1720 rfl rfl rfl ?_
    refine x_ar r287_1722 rfl trivial rfl ?_
    by_cases w : Op.cmpValue (FP.dcmp b b) .l = 0
    · refine x_ifeqT r287_1723 w ?_
      refine x_goto r287_1748 ?_
      exact x_forget (lc0 := [.ref 1000002, .ref 0, .ref 106, .ref 124, .ref 125, .int (Int32.ofNat i), am_dead, am_dead, am_dead, am_dead]) ⟨Or.inl rfl, Or.inl rfl, Or.inl rfl, Or.inl rfl, Or.inl rfl, Or.inl rfl, Or.inr ⟨rfl, rfl⟩, Or.inr ⟨rfl, rfl⟩, Or.inl rfl, Or.inl rfl, trivial⟩ (nx D2 _ _ h5 (Nat.le_refl _) (Nat.le_refl _))
    · refine x_ifeqF r287_1723 w rfl ?_
      refine x_ld (v := .ref 125) r287_1726 rfl rfl rfl ?_
      refine x_ic (v := 0) r287_1728 rfl rfl ?_
      refine y_dal (n := 1) (e := 0) r287_1729 rfl (by decide) (by decide) rfl rfl ?_
      refine am_topD (v := b) (h4 q).symm ?_
      refine x_ld (v := .ref 125) r287_1730 rfl rfl rfl ?_
      refine x_ic (v := 0) r287_1732 rfl rfl ?_
      refine y_dal (n := 1) (e := 0) r287_1733 rfl (by decide) (by decide) rfl rfl ?_
      refine am_topD (v := b) (h4 q).symm ?_
      refine x_ar r287_1734 rfl trivial rfl ?_
      refine x_ifeqF r287_1735 w rfl ?_
      refine x_ld (v := .double b) r287_1738 rfl rfl rfl ?_
      refine x_ld (v := .double b) r287_1740 rfl rfl rfl ?_
      refine x_ar r287_1742 rfl trivial rfl ?_
      refine x_ifneF r287_1743 w ?_
      refine x_goto r287_1748 ?_
      exact x_forget (lc0 := [.ref 1000002, .ref 0, .ref 106, .ref 124, .ref 125, .int (Int32.ofNat i), am_dead, am_dead, am_dead, am_dead]) ⟨Or.inl rfl, Or.inl rfl, Or.inl rfl, Or.inl rfl, Or.inl rfl, Or.inl rfl, Or.inr ⟨rfl, rfl⟩, Or.inr ⟨rfl, rfl⟩, Or.inl rfl, Or.inl rfl, trivial⟩ (nx D2 _ _ h5 (Nat.le_refl _) (Nat.le_refl _))
  · refine x_ifneF r287_1713 q ?_
    refine x_goto r287_1748 ?_
    exact x_forget (lc0 := [.ref 1000002, .ref 0, .ref 106, .ref 124, .ref 125, .int (Int32.ofNat i), am_dead, am_dead, am_dead, am_dead]) ⟨Or.inl rfl, Or.inl rfl, Or.inl rfl, Or.inl rfl, Or.inl rfl, Or.inl rfl, Or.inr ⟨rfl, rfl⟩, Or.inr ⟨rfl, rfl⟩, Or.inl rfl, Or.inl rfl, trivial⟩ (nx D2 _ _ h5 (Nat.le_refl _) (Nat.le_refl _))
theorem law_27 (hi : i + 5 ≤ L) (hL : L ≤ 2560) (hN : 2000 ≤ N) (hI : q_I D) (hc : c + 1 ≤ mc) (hs : s + 6 ≤ ms) (hd : 57 ≤ d) (nx : ∀ D' c' s', q_I D' → c' ≤ c + 1 → s' ≤ s + 6 → am_X xs L 287 d mc ms 1956 [.ref 1000002, .ref 0, .ref 106, .ref 124, .ref 125, .int (Int32.ofNat i), am_dead, am_dead, am_dead, am_dead] [] (am_mk D') c' s' Q) : am_X xs L 287 d mc ms 1751 [.ref 1000002, .ref 0, .ref 106, .ref 124, .ref 125, .int (Int32.ofNat i), am_dead, am_dead, am_dead, am_dead] [] (am_mk D) c s Q := by
  obtain ⟨r, D1, b, D2, h1, h2, h3, h4, h5⟩ := g_ifLaid hN hI (xs (i + 1)) (xs (i + 2)) (xs (i + 3)) (xs (i + 4))
  refine x_ld (v := .ref 0) r287_1751 rfl rfl rfl ?_
  refine x_ld (v := .ref 1000002) r287_1752 rfl rfl rfl ?_
  refine x_ld (v := .int (Int32.ofNat i)) r287_1753 rfl rfl rfl ?_
  refine x_ic (v := 1) r287_1755 rfl rfl ?_
  refine x_ar r287_1756 rfl trivial rfl ?_
  refine am_topI (v := Int32.ofNat (i + 1)) (q_add i 1).symm ?_
  refine y_ialX (e := (i + 1)) r287_1757 (q_vx hL (by omega)) (q_tn (by omega)) rfl ?_
  refine x_ld (v := .ref 1000002) r287_1758 rfl rfl rfl ?_
  refine x_ld (v := .int (Int32.ofNat i)) r287_1759 rfl rfl rfl ?_
  refine x_ic (v := 2) r287_1761 rfl rfl ?_
  refine x_ar r287_1762 rfl trivial rfl ?_
  refine am_topI (v := Int32.ofNat (i + 2)) (q_add i 2).symm ?_
  refine y_ialX (e := (i + 2)) r287_1763 (q_vx hL (by omega)) (q_tn (by omega)) rfl ?_
  refine x_ld (v := .ref 1000002) r287_1764 rfl rfl rfl ?_
  refine x_ld (v := .int (Int32.ofNat i)) r287_1765 rfl rfl rfl ?_
  refine x_ic (v := 3) r287_1767 rfl rfl ?_
  refine x_ar r287_1768 rfl trivial rfl ?_
  refine am_topI (v := Int32.ofNat (i + 3)) (q_add i 3).symm ?_
  refine y_ialX (e := (i + 3)) r287_1769 (q_vx hL (by omega)) (q_tn (by omega)) rfl ?_
  refine x_ld (v := .ref 1000002) r287_1770 rfl rfl rfl ?_
  refine x_ld (v := .int (Int32.ofNat i)) r287_1771 rfl rfl rfl ?_
  refine x_ic (v := 4) r287_1773 rfl rfl ?_
  refine x_ar r287_1774 rfl trivial rfl ?_
  refine am_topI (v := Int32.ofNat (i + 4)) (q_add i 4).symm ?_
  refine y_ialX (e := (i + 4)) r287_1775 (q_vx hL (by omega)) (q_tn (by omega)) rfl ?_
  refine x_ld (v := .ref 124) r287_1776 rfl rfl rfl ?_
  refine x_call1 (as := [.ref 0, .int (xs (i + 1)), .int (xs (i + 2)), .int (xs (i + 3)), .int (xs (i + 4)), .ref 124]) (rest := []) r287_1777 rfl rfl rfl (by decide) (Nat.le_of_ble_eq_true rfl) (m285_ok h1) (Nat.le_trans (by decide) hd) hc hs rfl ?_
  refine x_sto (lc' := [.ref 1000002, .ref 0, .ref 106, .ref 124, .ref 125, .int (Int32.ofNat i), .int r, am_dead, am_dead, am_dead]) (st' := []) r287_1780 rfl rfl rfl rfl ?_
  refine x_ld (v := .ref 106) r287_1782 rfl rfl rfl ?_
  refine x_ld (v := .ref 1000002) r287_1783 rfl rfl rfl ?_
  refine x_ld (v := .int (Int32.ofNat i)) r287_1784 rfl rfl rfl ?_
  refine x_ic (v := 1) r287_1786 rfl rfl ?_
  refine x_ar r287_1787 rfl trivial rfl ?_
  refine am_topI (v := Int32.ofNat (i + 1)) (q_add i 1).symm ?_
  refine y_ialX (e := (i + 1)) r287_1788 (q_vx hL (by omega)) (q_tn (by omega)) rfl ?_
  refine x_ld (v := .ref 1000002) r287_1789 rfl rfl rfl ?_
  refine x_ld (v := .int (Int32.ofNat i)) r287_1790 rfl rfl rfl ?_
  refine x_ic (v := 2) r287_1792 rfl rfl ?_
  refine x_ar r287_1793 rfl trivial rfl ?_
  refine am_topI (v := Int32.ofNat (i + 2)) (q_add i 2).symm ?_
  refine y_ialX (e := (i + 2)) r287_1794 (q_vx hL (by omega)) (q_tn (by omega)) rfl ?_
  refine x_ld (v := .ref 1000002) r287_1795 rfl rfl rfl ?_
  refine x_ld (v := .int (Int32.ofNat i)) r287_1796 rfl rfl rfl ?_
  refine x_ic (v := 3) r287_1798 rfl rfl ?_
  refine x_ar r287_1799 rfl trivial rfl ?_
  refine am_topI (v := Int32.ofNat (i + 3)) (q_add i 3).symm ?_
  refine y_ialX (e := (i + 3)) r287_1800 (q_vx hL (by omega)) (q_tn (by omega)) rfl ?_
  refine x_ld (v := .ref 1000002) r287_1801 rfl rfl rfl ?_
  refine x_ld (v := .int (Int32.ofNat i)) r287_1802 rfl rfl rfl ?_
  refine x_ic (v := 4) r287_1804 rfl rfl ?_
  refine x_ar r287_1805 rfl trivial rfl ?_
  refine am_topI (v := Int32.ofNat (i + 4)) (q_add i 4).symm ?_
  refine y_ialX (e := (i + 4)) r287_1806 (q_vx hL (by omega)) (q_tn (by omega)) rfl ?_
  refine x_call1 (as := [.ref 106, .int (xs (i + 1)), .int (xs (i + 2)), .int (xs (i + 3)), .int (xs (i + 4))]) (rest := []) r287_1807 rfl rfl rfl (by decide) (Nat.le_of_ble_eq_true rfl) (m134_ok h2) (Nat.le_trans (by decide) hd) hc hs rfl ?_
  refine x_sto (lc' := [.ref 1000002, .ref 0, .ref 106, .ref 124, .ref 125, .int (Int32.ofNat i), .int r, .int b, am_dead, am_dead]) (st' := []) r287_1810 rfl rfl rfl rfl ?_
  refine x_ld (v := .ref 106) r287_1812 rfl rfl rfl ?_
  refine x_call1 (as := [.ref 106]) (rest := []) r287_1813 rfl rfl rfl (by decide) (Nat.le_of_ble_eq_true rfl) (m45_ok (r := D2.1 106 0) rfl) (Nat.le_trans (by decide) hd) hc hs rfl ?_
  refine x_ld (v := .int r) r287_1816 rfl rfl rfl ?_
  refine x_iceqT r287_1818 h3 ?_
  refine x_ld (v := .int r) r287_1823 rfl rfl rfl ?_
  by_cases q : r = 0
  · refine x_ifneT r287_1825 q rfl ?_
    refine x_ld (v := .ref 124) r287_1828 rfl rfl rfl ?_
    refine x_ic (v := 0) r287_1829 rfl rfl ?_
    refine y_lal (n := 1) (e := 0) r287_1830 rfl (by decide) (by decide) rfl rfl ?_
    refine x_ld (v := .int b) r287_1831 rfl rfl rfl ?_
    refine x_ar r287_1833 rfl trivial rfl ?_
    refine x_ar r287_1834 rfl trivial rfl ?_
    refine am_topI (v := 0) (by rw [h4 q, q_lgc]) ?_
    refine x_ifeqT r287_1835 rfl ?_
    refine x_goto r287_1840 ?_
    exact x_forget (lc0 := [.ref 1000002, .ref 0, .ref 106, .ref 124, .ref 125, .int (Int32.ofNat i), am_dead, am_dead, am_dead, am_dead]) ⟨Or.inl rfl, Or.inl rfl, Or.inl rfl, Or.inl rfl, Or.inl rfl, Or.inl rfl, Or.inr ⟨rfl, rfl⟩, Or.inr ⟨rfl, rfl⟩, Or.inl rfl, Or.inl rfl, trivial⟩ (nx D2 _ _ h5 (Nat.le_refl _) (Nat.le_refl _))
  · refine x_ifneF r287_1825 q ?_
    refine x_goto r287_1840 ?_
    exact x_forget (lc0 := [.ref 1000002, .ref 0, .ref 106, .ref 124, .ref 125, .int (Int32.ofNat i), am_dead, am_dead, am_dead, am_dead]) ⟨Or.inl rfl, Or.inl rfl, Or.inl rfl, Or.inl rfl, Or.inl rfl, Or.inl rfl, Or.inr ⟨rfl, rfl⟩, Or.inr ⟨rfl, rfl⟩, Or.inl rfl, Or.inl rfl, trivial⟩ (nx D2 _ _ h5 (Nat.le_refl _) (Nat.le_refl _))
theorem law_28 (hi : i + 5 ≤ L) (hL : L ≤ 2560) (hN : 2000 ≤ N) (hK44 : K = 44) (hC : q_Cc K ≤ N) (hI : q_I D) (hc : c + 1 ≤ mc) (hs : s + 6 ≤ ms) (hd : 57 ≤ d) (nx : ∀ D' c' s', q_I D' → c' ≤ c + 1 → s' ≤ s + 6 → am_X xs L 287 d mc ms 1956 [.ref 1000002, .ref 0, .ref 106, .ref 124, .ref 125, .int (Int32.ofNat i), am_dead, am_dead, am_dead, am_dead] [] (am_mk D') c' s' Q) : am_X xs L 287 d mc ms 1843 [.ref 1000002, .ref 0, .ref 106, .ref 124, .ref 125, .int (Int32.ofNat i), am_dead, am_dead, am_dead, am_dead] [] (am_mk D) c s Q := by
  obtain ⟨r, D1, b, D2, h1, h2, h3, h4, h5⟩ := g_open hN hK44 hC hI (xs (i + 1))
  refine x_ld (v := .ref 0) r287_1843 rfl rfl rfl ?_
  refine x_ld (v := .ref 1000002) r287_1844 rfl rfl rfl ?_
  refine x_ld (v := .int (Int32.ofNat i)) r287_1845 rfl rfl rfl ?_
  refine x_ic (v := 1) r287_1847 rfl rfl ?_
  refine x_ar r287_1848 rfl trivial rfl ?_
  refine am_topI (v := Int32.ofNat (i + 1)) (q_add i 1).symm ?_
  refine y_ialX (e := (i + 1)) r287_1849 (q_vx hL (by omega)) (q_tn (by omega)) rfl ?_
  refine x_ld (v := .ref 124) r287_1850 rfl rfl rfl ?_
  refine x_call1 (as := [.ref 0, .int (xs (i + 1)), .ref 124]) (rest := []) r287_1851 rfl rfl rfl (by decide) (Nat.le_of_ble_eq_true rfl) (m286_ok h1) (Nat.le_trans (by decide) hd) hc hs rfl ?_
  refine x_sto (lc' := [.ref 1000002, .ref 0, .ref 106, .ref 124, .ref 125, .int (Int32.ofNat i), .int r, am_dead, am_dead, am_dead]) (st' := []) r287_1854 rfl rfl rfl rfl ?_
  refine x_ld (v := .ref 106) r287_1856 rfl rfl rfl ?_
  refine x_ld (v := .ref 1000002) r287_1857 rfl rfl rfl ?_
  refine x_ld (v := .int (Int32.ofNat i)) r287_1858 rfl rfl rfl ?_
  refine x_ic (v := 1) r287_1860 rfl rfl ?_
  refine x_ar r287_1861 rfl trivial rfl ?_
  refine am_topI (v := Int32.ofNat (i + 1)) (q_add i 1).symm ?_
  refine y_ialX (e := (i + 1)) r287_1862 (q_vx hL (by omega)) (q_tn (by omega)) rfl ?_
  refine x_call1 (as := [.ref 106, .int (xs (i + 1))]) (rest := []) r287_1863 rfl rfl rfl (by decide) (Nat.le_of_ble_eq_true rfl) (m143_ok h2) (Nat.le_trans (by decide) hd) hc hs rfl ?_
  refine x_sto (lc' := [.ref 1000002, .ref 0, .ref 106, .ref 124, .ref 125, .int (Int32.ofNat i), .int r, .int b, am_dead, am_dead]) (st' := []) r287_1866 rfl rfl rfl rfl ?_
  refine x_ld (v := .ref 106) r287_1868 rfl rfl rfl ?_
  refine x_call1 (as := [.ref 106]) (rest := []) r287_1869 rfl rfl rfl (by decide) (Nat.le_of_ble_eq_true rfl) (m45_ok (r := D2.1 106 0) rfl) (Nat.le_trans (by decide) hd) hc hs rfl ?_
  refine x_ld (v := .int r) r287_1872 rfl rfl rfl ?_
  refine x_iceqT r287_1874 h3 ?_
  refine x_ld (v := .int r) r287_1879 rfl rfl rfl ?_
  by_cases q : r = 0
  · refine x_ifneT r287_1881 q rfl ?_
    refine x_ld (v := .ref 124) r287_1884 rfl rfl rfl ?_
    refine x_ic (v := 0) r287_1885 rfl rfl ?_
    refine y_lal (n := 1) (e := 0) r287_1886 rfl (by decide) (by decide) rfl rfl ?_
    refine x_ld (v := .int b) r287_1887 rfl rfl rfl ?_
    refine x_ar r287_1889 rfl trivial rfl ?_
    refine x_ar r287_1890 rfl trivial rfl ?_
    refine am_topI (v := 0) (by rw [h4 q, q_lgc]) ?_
    refine x_ifeqT r287_1891 rfl ?_
    refine x_goto r287_1896 ?_
    exact x_forget (lc0 := [.ref 1000002, .ref 0, .ref 106, .ref 124, .ref 125, .int (Int32.ofNat i), am_dead, am_dead, am_dead, am_dead]) ⟨Or.inl rfl, Or.inl rfl, Or.inl rfl, Or.inl rfl, Or.inl rfl, Or.inl rfl, Or.inr ⟨rfl, rfl⟩, Or.inr ⟨rfl, rfl⟩, Or.inl rfl, Or.inl rfl, trivial⟩ (nx D2 _ _ h5 (Nat.le_refl _) (Nat.le_refl _))
  · refine x_ifneF r287_1881 q ?_
    refine x_goto r287_1896 ?_
    exact x_forget (lc0 := [.ref 1000002, .ref 0, .ref 106, .ref 124, .ref 125, .int (Int32.ofNat i), am_dead, am_dead, am_dead, am_dead]) ⟨Or.inl rfl, Or.inl rfl, Or.inl rfl, Or.inl rfl, Or.inl rfl, Or.inl rfl, Or.inr ⟨rfl, rfl⟩, Or.inr ⟨rfl, rfl⟩, Or.inl rfl, Or.inl rfl, trivial⟩ (nx D2 _ _ h5 (Nat.le_refl _) (Nat.le_refl _))
theorem law_29 (hi : i + 5 ≤ L) (hL : L ≤ 2560) (hN : 2000 ≤ N) (hF3 : q_F3) (hI : q_I D) (hc : c + 1 ≤ mc) (hs : s + 6 ≤ ms) (hd : 57 ≤ d) (nx : ∀ D' c' s', q_I D' → c' ≤ c + 1 → s' ≤ s + 6 → am_X xs L 287 d mc ms 1956 [.ref 1000002, .ref 0, .ref 106, .ref 124, .ref 125, .int (Int32.ofNat i), am_dead, am_dead, am_dead, am_dead] [] (am_mk D') c' s' Q) : am_X xs L 287 d mc ms 1899 [.ref 1000002, .ref 0, .ref 106, .ref 124, .ref 125, .int (Int32.ofNat i), am_dead, am_dead, am_dead, am_dead] [] (am_mk D) c s Q := by
  obtain ⟨f, h1, h2, h3, h4⟩ := g_mean2 hF3 hN hI
  refine x_ld (v := .ref 0) r287_1899 rfl rfl rfl ?_
  refine x_call1 (as := [.ref 0]) (rest := []) r287_1900 rfl rfl rfl (by decide) (Nat.le_of_ble_eq_true rfl) (m30_ok h1) (Nat.le_trans (by decide) hd) (Nat.le_of_succ_le hc) (Nat.le_trans (Nat.le_add_right _ _) hs) rfl ?_
  refine x_ar r287_1903 rfl h4 rfl ?_
  refine x_sto (lc' := [.ref 1000002, .ref 0, .ref 106, .ref 124, .ref 125, .int (Int32.ofNat i), .double (FP.f2d f), am_dead, am_dead, am_dead]) (st' := []) r287_1904 rfl rfl rfl rfl ?_
  refine x_ld (v := .ref 106) r287_1906 rfl rfl rfl ?_
  refine x_call1 (as := [.ref 106]) (rest := []) r287_1907 rfl rfl rfl (by decide) (Nat.le_of_ble_eq_true rfl) (m145_ok h2) (Nat.le_trans (by decide) hd) (Nat.le_of_succ_le hc) (Nat.le_trans (Nat.le_add_right _ _) hs) rfl ?_
  refine x_ar r287_1910 rfl h4 rfl ?_
  refine x_sto (lc' := [.ref 1000002, .ref 0, .ref 106, .ref 124, .ref 125, .int (Int32.ofNat i), .double (FP.f2d f), am_dead, .double (FP.f2d f), am_dead]) (st' := []) r287_1911 rfl rfl rfl rfl ?_
  refine x_ld (v := .double (FP.f2d f)) r287_1913 rfl rfl rfl ?_
  refine x_ld (v := .double (FP.f2d f)) r287_1915 rfl rfl rfl ?_
  refine x_ar r287_1917 rfl trivial rfl ?_
  by_cases w : Op.cmpValue (FP.dcmp (FP.f2d f) (FP.f2d f)) .l = 0
  · refine x_ifeqT r287_1918 w ?_
    refine x_goto r287_1939 ?_
    exact x_forget (lc0 := [.ref 1000002, .ref 0, .ref 106, .ref 124, .ref 125, .int (Int32.ofNat i), am_dead, am_dead, am_dead, am_dead]) ⟨Or.inl rfl, Or.inl rfl, Or.inl rfl, Or.inl rfl, Or.inl rfl, Or.inl rfl, Or.inr ⟨rfl, rfl⟩, Or.inl rfl, Or.inr ⟨rfl, rfl⟩, Or.inl rfl, trivial⟩ (nx _ _ _ h3 (Nat.le_add_right _ _) (Nat.le_add_right _ _))
  · refine x_ifeqF r287_1918 w rfl ?_
    refine x_ld (v := .double (FP.f2d f)) r287_1921 rfl rfl rfl ?_
    refine x_ld (v := .double (FP.f2d f)) r287_1923 rfl rfl rfl ?_
    refine x_ar r287_1925 rfl trivial rfl ?_
    refine x_ifeqF r287_1926 w rfl ?_
    refine x_ld (v := .double (FP.f2d f)) r287_1929 rfl rfl rfl ?_
    refine x_ld (v := .double (FP.f2d f)) r287_1931 rfl rfl rfl ?_
    refine x_ar r287_1933 rfl trivial rfl ?_
    refine x_ifneF r287_1934 w ?_
    refine x_goto r287_1939 ?_
    exact x_forget (lc0 := [.ref 1000002, .ref 0, .ref 106, .ref 124, .ref 125, .int (Int32.ofNat i), am_dead, am_dead, am_dead, am_dead]) ⟨Or.inl rfl, Or.inl rfl, Or.inl rfl, Or.inl rfl, Or.inl rfl, Or.inl rfl, Or.inr ⟨rfl, rfl⟩, Or.inl rfl, Or.inr ⟨rfl, rfl⟩, Or.inl rfl, trivial⟩ (nx _ _ _ h3 (Nat.le_add_right _ _) (Nat.le_add_right _ _))
theorem law_30 (hi : i + 5 ≤ L) (hL : L ≤ 2560) (hN : 2000 ≤ N) (hF1 : q_F1) (hF2 : q_F2) (hF3 : q_F3) (hK44 : K = 44) (hC : q_Cc K ≤ N) (hI : q_I D) (hc : c + 1 ≤ mc) (hs : s + 6 ≤ ms) (hd : 57 ≤ d) (nx : ∀ D' c' s', q_I D' → c' ≤ c + 1 → s' ≤ s + 6 → am_X xs L 287 d mc ms 1956 [.ref 1000002, .ref 0, .ref 106, .ref 124, .ref 125, .int (Int32.ofNat i), am_dead, am_dead, am_dead, am_dead] [] (am_mk D') c' s' Q) : am_X xs L 287 d mc ms 1942 [.ref 1000002, .ref 0, .ref 106, .ref 124, .ref 125, .int (Int32.ofNat i), am_dead, am_dead, am_dead, am_dead] [] (am_mk D) c s Q := by
  obtain ⟨x, E, F, h1, h2, h3⟩ := g_digest hF1 hF2 hF3 hN hK44 hC hI
  refine x_ld (v := .ref 0) r287_1942 rfl rfl rfl ?_
  refine x_call1 (as := [.ref 0]) (rest := []) r287_1943 rfl rfl rfl (by decide) (Nat.le_of_ble_eq_true rfl) (m31_ok h1) (Nat.le_trans (by decide) hd) (Nat.le_of_succ_le hc) (Nat.le_trans (Nat.le_add_right _ _) hs) rfl ?_
  refine x_ld (v := .ref 106) r287_1946 rfl rfl rfl ?_
  refine x_call1 (as := [.ref 106]) (rest := [.long x]) r287_1947 rfl rfl rfl (by decide) (Nat.le_of_ble_eq_true rfl) (m150_ok h2) (Nat.le_trans (by decide) hd) (Nat.le_of_succ_le hc) (Nat.le_trans (Nat.le_add_right _ _) hs) rfl ?_
  refine x_ar r287_1950 rfl trivial rfl ?_
  refine am_topI (v := 0) (q_lgc x).symm ?_
  refine x_ifeqT r287_1951 rfl ?_
  exact nx F _ _ h3 (Nat.le_add_right _ _) (Nat.le_add_right _ _)
end TA4
