theorem dL_law__1534 : decode code 1534 = .ok (.iconst 2, 1) := by decide +kernel
theorem dL_law__1535 : decode code 1535 = .ok (.iadd, 1) := by decide +kernel
theorem dL_law__1536 : decode code 1536 = .ok (.iaload, 1) := by decide +kernel
theorem dL_law__1537 : decode code 1537 = .ok (.aload_n 0, 1) := by decide +kernel
theorem dL_law__1538 : decode code 1538 = .ok (.iload 4, 2) := by decide +kernel
theorem dL_law__1540 : decode code 1540 = .ok (.iconst 3, 1) := by decide +kernel
theorem dL_law__1541 : decode code 1541 = .ok (.iadd, 1) := by decide +kernel
theorem dL_law__1542 : decode code 1542 = .ok (.iaload, 1) := by decide +kernel
theorem dL_law__1543 : decode code 1543 = .ok (.aload_n 3, 1) := by decide +kernel
theorem dL_law__1544 : decode code 1544 = .ok (.invokestatic 191, 3) := by decide +kernel
theorem dL_law__1547 : decode code 1547 = .ok (.istore 5, 2) := by decide +kernel
theorem dL_law__1549 : decode code 1549 = .ok (.aload_n 2, 1) := by decide +kernel
theorem dL_law__1550 : decode code 1550 = .ok (.aload_n 0, 1) := by decide +kernel
theorem dL_law__1551 : decode code 1551 = .ok (.iload 4, 2) := by decide +kernel
theorem dL_law__1553 : decode code 1553 = .ok (.iconst 1, 1) := by decide +kernel
theorem dL_law__1554 : decode code 1554 = .ok (.iadd, 1) := by decide +kernel
theorem dL_law__1555 : decode code 1555 = .ok (.iaload, 1) := by decide +kernel
theorem dL_law__1556 : decode code 1556 = .ok (.aload_n 0, 1) := by decide +kernel
theorem dL_law__1557 : decode code 1557 = .ok (.iload 4, 2) := by decide +kernel
theorem dL_law__1559 : decode code 1559 = .ok (.iconst 2, 1) := by decide +kernel
theorem dL_law__1560 : decode code 1560 = .ok (.iadd, 1) := by decide +kernel
theorem dL_law__1561 : decode code 1561 = .ok (.iaload, 1) := by decide +kernel
theorem dL_law__1562 : decode code 1562 = .ok (.aload_n 0, 1) := by decide +kernel
theorem dL_law__1563 : decode code 1563 = .ok (.iload 4, 2) := by decide +kernel
theorem dL_law__1565 : decode code 1565 = .ok (.iconst 3, 1) := by decide +kernel
theorem dL_law__1566 : decode code 1566 = .ok (.iadd, 1) := by decide +kernel
theorem dL_law__1567 : decode code 1567 = .ok (.iaload, 1) := by decide +kernel
theorem dL_law__1568 : decode code 1568 = .ok (.invokevirtual 194, 3) := by decide +kernel
theorem dL_law__1571 : decode code 1571 = .ok (.istore 6, 2) := by decide +kernel
theorem dL_law__1573 : decode code 1573 = .ok (.aload_n 2, 1) := by decide +kernel
theorem dL_law__1574 : decode code 1574 = .ok (.invokevirtual 125, 3) := by decide +kernel
theorem dL_law__1577 : decode code 1577 = .ok (.iload 5, 2) := by decide +kernel
theorem dL_law__1579 : decode code 1579 = .ok (.if_icmp .eq 5, 3) := by decide +kernel
theorem dL_law__1584 : decode code 1584 = .ok (.iload 5, 2) := by decide +kernel
theorem dL_law__1586 : decode code 1586 = .ok (.ifCond .ne 15, 3) := by decide +kernel
theorem dL_law__1589 : decode code 1589 = .ok (.aload_n 3, 1) := by decide +kernel
theorem dL_law__1590 : decode code 1590 = .ok (.iconst 0, 1) := by decide +kernel
theorem dL_law__1591 : decode code 1591 = .ok (.laload, 1) := by decide +kernel
theorem dL_law__1592 : decode code 1592 = .ok (.iload 6, 2) := by decide +kernel
theorem dL_law__1594 : decode code 1594 = .ok (.i2l, 1) := by decide +kernel
theorem dL_law__1595 : decode code 1595 = .ok (.lcmp, 1) := by decide +kernel
theorem dL_law__1596 : decode code 1596 = .ok (.ifCond .eq 5, 3) := by decide +kernel
theorem dL_law__1601 : decode code 1601 = .ok (.goto 890, 3) := by decide +kernel
theorem dL_law__1604 : decode code 1604 = .ok (.aload_n 1, 1) := by decide +kernel
theorem dL_law__1605 : decode code 1605 = .ok (.aload_n 0, 1) := by decide +kernel
theorem dL_law__1606 : decode code 1606 = .ok (.iload 4, 2) := by decide +kernel
theorem dL_law__1608 : decode code 1608 = .ok (.iconst 1, 1) := by decide +kernel
theorem dL_law__1609 : decode code 1609 = .ok (.iadd, 1) := by decide +kernel
theorem dL_law__1610 : decode code 1610 = .ok (.iaload, 1) := by decide +kernel
theorem dL_law__1611 : decode code 1611 = .ok (.aload_n 0, 1) := by decide +kernel
theorem dL_law__1612 : decode code 1612 = .ok (.iload 4, 2) := by decide +kernel
theorem dL_law__1614 : decode code 1614 = .ok (.iconst 2, 1) := by decide +kernel
theorem dL_law__1615 : decode code 1615 = .ok (.iadd, 1) := by decide +kernel
theorem dL_law__1616 : decode code 1616 = .ok (.iaload, 1) := by decide +kernel
theorem dL_law__1617 : decode code 1617 = .ok (.aload_n 0, 1) := by decide +kernel
theorem dL_law__1618 : decode code 1618 = .ok (.iload 4, 2) := by decide +kernel
theorem dL_law__1620 : decode code 1620 = .ok (.iconst 3, 1) := by decide +kernel
theorem dL_law__1621 : decode code 1621 = .ok (.iadd, 1) := by decide +kernel
theorem dL_law__1622 : decode code 1622 = .ok (.iaload, 1) := by decide +kernel
theorem dL_law__1623 : decode code 1623 = .ok (.aload_n 3, 1) := by decide +kernel
theorem dL_law__1624 : decode code 1624 = .ok (.invokestatic 195, 3) := by decide +kernel
theorem dL_law__1627 : decode code 1627 = .ok (.istore 5, 2) := by decide +kernel
theorem dL_law__1629 : decode code 1629 = .ok (.aload_n 2, 1) := by decide +kernel
theorem dL_law__1630 : decode code 1630 = .ok (.aload_n 0, 1) := by decide +kernel
theorem dL_law__1631 : decode code 1631 = .ok (.iload 4, 2) := by decide +kernel
theorem dL_law__1633 : decode code 1633 = .ok (.iconst 1, 1) := by decide +kernel
theorem dL_law__1634 : decode code 1634 = .ok (.iadd, 1) := by decide +kernel
theorem dL_law__1635 : decode code 1635 = .ok (.iaload, 1) := by decide +kernel
theorem dL_law__1636 : decode code 1636 = .ok (.aload_n 0, 1) := by decide +kernel
theorem dL_law__1637 : decode code 1637 = .ok (.iload 4, 2) := by decide +kernel
theorem dL_law__1639 : decode code 1639 = .ok (.iconst 2, 1) := by decide +kernel
theorem dL_law__1640 : decode code 1640 = .ok (.iadd, 1) := by decide +kernel
theorem dL_law__1641 : decode code 1641 = .ok (.iaload, 1) := by decide +kernel
theorem dL_law__1642 : decode code 1642 = .ok (.aload_n 0, 1) := by decide +kernel
theorem dL_law__1643 : decode code 1643 = .ok (.iload 4, 2) := by decide +kernel
theorem dL_law__1645 : decode code 1645 = .ok (.iconst 3, 1) := by decide +kernel
theorem dL_law__1646 : decode code 1646 = .ok (.iadd, 1) := by decide +kernel
theorem dL_law__1647 : decode code 1647 = .ok (.iaload, 1) := by decide +kernel
theorem dL_law__1648 : decode code 1648 = .ok (.invokevirtual 197, 3) := by decide +kernel
theorem dL_law__1651 : decode code 1651 = .ok (.istore 6, 2) := by decide +kernel
theorem dL_law__1653 : decode code 1653 = .ok (.aload_n 2, 1) := by decide +kernel
theorem dL_law__1654 : decode code 1654 = .ok (.invokevirtual 125, 3) := by decide +kernel
theorem dL_law__1657 : decode code 1657 = .ok (.iload 5, 2) := by decide +kernel
theorem dL_law__1659 : decode code 1659 = .ok (.if_icmp .eq 5, 3) := by decide +kernel
theorem dL_law__1664 : decode code 1664 = .ok (.iload 5, 2) := by decide +kernel
theorem dL_law__1666 : decode code 1666 = .ok (.ifCond .ne 15, 3) := by decide +kernel
theorem dL_law__1669 : decode code 1669 = .ok (.aload_n 3, 1) := by decide +kernel
theorem dL_law__1670 : decode code 1670 = .ok (.iconst 0, 1) := by decide +kernel
theorem dL_law__1671 : decode code 1671 = .ok (.laload, 1) := by decide +kernel
theorem dL_law__1672 : decode code 1672 = .ok (.iload 6, 2) := by decide +kernel
theorem dL_law__1674 : decode code 1674 = .ok (.i2l, 1) := by decide +kernel
theorem dL_law__1675 : decode code 1675 = .ok (.lcmp, 1) := by decide +kernel
theorem dL_law__1676 : decode code 1676 = .ok (.ifCond .eq 5, 3) := by decide +kernel
theorem dL_law__1681 : decode code 1681 = .ok (.goto 810, 3) := by decide +kernel
theorem dL_law__1684 : decode code 1684 = .ok (.aload_n 1, 1) := by decide +kernel
theorem dL_law__1685 : decode code 1685 = .ok (.aload_n 0, 1) := by decide +kernel
theorem dL_law__1686 : decode code 1686 = .ok (.iload 4, 2) := by decide +kernel
theorem dL_law__1688 : decode code 1688 = .ok (.iconst 1, 1) := by decide +kernel
theorem dL_law__1689 : decode code 1689 = .ok (.iadd, 1) := by decide +kernel
theorem dL_law__1690 : decode code 1690 = .ok (.iaload, 1) := by decide +kernel
theorem dL_law__1691 : decode code 1691 = .ok (.aload_n 3, 1) := by decide +kernel
theorem dL_law__1692 : decode code 1692 = .ok (.invokestatic 198, 3) := by decide +kernel
theorem dL_law__1695 : decode code 1695 = .ok (.istore 5, 2) := by decide +kernel
theorem dL_law__1697 : decode code 1697 = .ok (.aload_n 2, 1) := by decide +kernel
theorem dL_law__1698 : decode code 1698 = .ok (.aload_n 0, 1) := by decide +kernel
theorem dL_law__1699 : decode code 1699 = .ok (.iload 4, 2) := by decide +kernel
theorem dL_law__1701 : decode code 1701 = .ok (.iconst 1, 1) := by decide +kernel
theorem dL_law__1702 : decode code 1702 = .ok (.iadd, 1) := by decide +kernel
theorem dL_law__1703 : decode code 1703 = .ok (.iaload, 1) := by decide +kernel
theorem dL_law__1704 : decode code 1704 = .ok (.invokevirtual 200, 3) := by decide +kernel
theorem dL_law__1707 : decode code 1707 = .ok (.istore 6, 2) := by decide +kernel
theorem dL_law__1709 : decode code 1709 = .ok (.aload_n 2, 1) := by decide +kernel
theorem dL_law__1710 : decode code 1710 = .ok (.invokevirtual 125, 3) := by decide +kernel
theorem dL_law__1713 : decode code 1713 = .ok (.iload 5, 2) := by decide +kernel
theorem dL_law__1715 : decode code 1715 = .ok (.if_icmp .eq 5, 3) := by decide +kernel
theorem dL_law__1720 : decode code 1720 = .ok (.iload 5, 2) := by decide +kernel
theorem dL_law__1722 : decode code 1722 = .ok (.ifCond .ne 15, 3) := by decide +kernel
theorem dL_law__1725 : decode code 1725 = .ok (.aload_n 3, 1) := by decide +kernel
theorem dL_law__1726 : decode code 1726 = .ok (.iconst 0, 1) := by decide +kernel
theorem dL_law__1727 : decode code 1727 = .ok (.laload, 1) := by decide +kernel
theorem dL_law__1728 : decode code 1728 = .ok (.iload 6, 2) := by decide +kernel
theorem dL_law__1730 : decode code 1730 = .ok (.i2l, 1) := by decide +kernel
theorem dL_law__1731 : decode code 1731 = .ok (.lcmp, 1) := by decide +kernel
theorem dL_law__1732 : decode code 1732 = .ok (.ifCond .eq 5, 3) := by decide +kernel
theorem dL_law__1737 : decode code 1737 = .ok (.goto 754, 3) := by decide +kernel
theorem dL_law__1740 : decode code 1740 = .ok (.aload_n 1, 1) := by decide +kernel
theorem dL_law__1741 : decode code 1741 = .ok (.invokevirtual 201, 3) := by decide +kernel
theorem dL_law__1744 : decode code 1744 = .ok (.aload_n 2, 1) := by decide +kernel
theorem dL_law__1745 : decode code 1745 = .ok (.invokevirtual 204, 3) := by decide +kernel
theorem dL_law__1748 : decode code 1748 = .ok (.if_icmp .eq 743, 3) := by decide +kernel
theorem dL_law__1753 : decode code 1753 = .ok (.aload_n 1, 1) := by decide +kernel
theorem dL_law__1754 : decode code 1754 = .ok (.aload_n 0, 1) := by decide +kernel
theorem dL_law__1755 : decode code 1755 = .ok (.iload 4, 2) := by decide +kernel
theorem dL_law__1757 : decode code 1757 = .ok (.iconst 1, 1) := by decide +kernel
theorem dL_law__1758 : decode code 1758 = .ok (.iadd, 1) := by decide +kernel
theorem dL_law__1759 : decode code 1759 = .ok (.iaload, 1) := by decide +kernel
theorem dL_law__1760 : decode code 1760 = .ok (.aload_n 3, 1) := by decide +kernel
theorem dL_law__1761 : decode code 1761 = .ok (.invokestatic 205, 3) := by decide +kernel
theorem dL_law__1764 : decode code 1764 = .ok (.istore 5, 2) := by decide +kernel
theorem dL_law__1766 : decode code 1766 = .ok (.aload_n 2, 1) := by decide +kernel
theorem dL_law__1767 : decode code 1767 = .ok (.aload_n 0, 1) := by decide +kernel
theorem dL_law__1768 : decode code 1768 = .ok (.iload 4, 2) := by decide +kernel
theorem dL_law__1770 : decode code 1770 = .ok (.iconst 1, 1) := by decide +kernel
theorem dL_law__1771 : decode code 1771 = .ok (.iadd, 1) := by decide +kernel
theorem dL_law__1772 : decode code 1772 = .ok (.iaload, 1) := by decide +kernel
theorem dL_law__1773 : decode code 1773 = .ok (.invokevirtual 207, 3) := by decide +kernel
theorem dL_law__1776 : decode code 1776 = .ok (.istore 6, 2) := by decide +kernel
theorem dL_law__1778 : decode code 1778 = .ok (.aload_n 2, 1) := by decide +kernel
theorem dL_law__1779 : decode code 1779 = .ok (.invokevirtual 125, 3) := by decide +kernel
theorem dL_law__1782 : decode code 1782 = .ok (.iload 5, 2) := by decide +kernel
theorem dL_law__1784 : decode code 1784 = .ok (.if_icmp .eq 5, 3) := by decide +kernel
theorem dL_law__1789 : decode code 1789 = .ok (.iload 5, 2) := by decide +kernel
theorem dL_law__1791 : decode code 1791 = .ok (.ifCond .ne 15, 3) := by decide +kernel
theorem dL_law__1794 : decode code 1794 = .ok (.aload_n 3, 1) := by decide +kernel
theorem dL_law__1795 : decode code 1795 = .ok (.iconst 0, 1) := by decide +kernel
theorem dL_law__1796 : decode code 1796 = .ok (.laload, 1) := by decide +kernel
theorem dL_law__1797 : decode code 1797 = .ok (.iload 6, 2) := by decide +kernel
theorem dL_law__1799 : decode code 1799 = .ok (.i2l, 1) := by decide +kernel
theorem dL_law__1800 : decode code 1800 = .ok (.lcmp, 1) := by decide +kernel
theorem dL_law__1801 : decode code 1801 = .ok (.ifCond .eq 5, 3) := by decide +kernel
theorem dL_law__1806 : decode code 1806 = .ok (.goto 685, 3) := by decide +kernel
theorem dL_law__1809 : decode code 1809 = .ok (.aload_n 1, 1) := by decide +kernel
theorem dL_law__1810 : decode code 1810 = .ok (.aload_n 0, 1) := by decide +kernel
theorem dL_law__1811 : decode code 1811 = .ok (.iload 4, 2) := by decide +kernel
theorem dL_law__1813 : decode code 1813 = .ok (.iconst 1, 1) := by decide +kernel
theorem dL_law__1814 : decode code 1814 = .ok (.iadd, 1) := by decide +kernel
theorem dL_law__1815 : decode code 1815 = .ok (.iaload, 1) := by decide +kernel
theorem dL_law__1816 : decode code 1816 = .ok (.aload_n 0, 1) := by decide +kernel
theorem dL_law__1817 : decode code 1817 = .ok (.iload 4, 2) := by decide +kernel
theorem dL_law__1819 : decode code 1819 = .ok (.iconst 2, 1) := by decide +kernel
theorem dL_law__1820 : decode code 1820 = .ok (.iadd, 1) := by decide +kernel
theorem dL_law__1821 : decode code 1821 = .ok (.iaload, 1) := by decide +kernel
theorem dL_law__1822 : decode code 1822 = .ok (.aload_n 3, 1) := by decide +kernel
theorem dL_law__1823 : decode code 1823 = .ok (.invokestatic 208, 3) := by decide +kernel
theorem dL_law__1826 : decode code 1826 = .ok (.istore 5, 2) := by decide +kernel
theorem dL_law__1828 : decode code 1828 = .ok (.aload_n 2, 1) := by decide +kernel
theorem dL_law__1829 : decode code 1829 = .ok (.aload_n 0, 1) := by decide +kernel
theorem dL_law__1830 : decode code 1830 = .ok (.iload 4, 2) := by decide +kernel
theorem dL_law__1832 : decode code 1832 = .ok (.iconst 1, 1) := by decide +kernel
theorem dL_law__1833 : decode code 1833 = .ok (.iadd, 1) := by decide +kernel
theorem dL_law__1834 : decode code 1834 = .ok (.iaload, 1) := by decide +kernel
theorem dL_law__1835 : decode code 1835 = .ok (.aload_n 0, 1) := by decide +kernel
theorem dL_law__1836 : decode code 1836 = .ok (.iload 4, 2) := by decide +kernel
theorem dL_law__1838 : decode code 1838 = .ok (.iconst 2, 1) := by decide +kernel
theorem dL_law__1839 : decode code 1839 = .ok (.iadd, 1) := by decide +kernel
theorem dL_law__1840 : decode code 1840 = .ok (.iaload, 1) := by decide +kernel
theorem dL_law__1841 : decode code 1841 = .ok (.invokevirtual 210, 3) := by decide +kernel
theorem dL_law__1844 : decode code 1844 = .ok (.istore 6, 2) := by decide +kernel
theorem dL_law__1846 : decode code 1846 = .ok (.aload_n 2, 1) := by decide +kernel
theorem dL_law__1847 : decode code 1847 = .ok (.invokevirtual 125, 3) := by decide +kernel
theorem dL_law__1850 : decode code 1850 = .ok (.iload 5, 2) := by decide +kernel
theorem dL_law__1852 : decode code 1852 = .ok (.if_icmp .eq 5, 3) := by decide +kernel
theorem dL_law__1857 : decode code 1857 = .ok (.iload 5, 2) := by decide +kernel
theorem dL_law__1859 : decode code 1859 = .ok (.ifCond .ne 15, 3) := by decide +kernel
theorem dL_law__1862 : decode code 1862 = .ok (.aload_n 3, 1) := by decide +kernel
theorem dL_law__1863 : decode code 1863 = .ok (.iconst 0, 1) := by decide +kernel
theorem dL_law__1864 : decode code 1864 = .ok (.laload, 1) := by decide +kernel
theorem dL_law__1865 : decode code 1865 = .ok (.iload 6, 2) := by decide +kernel
theorem dL_law__1867 : decode code 1867 = .ok (.i2l, 1) := by decide +kernel
theorem dL_law__1868 : decode code 1868 = .ok (.lcmp, 1) := by decide +kernel
theorem dL_law__1869 : decode code 1869 = .ok (.ifCond .eq 5, 3) := by decide +kernel
theorem dL_law__1874 : decode code 1874 = .ok (.goto 617, 3) := by decide +kernel
theorem dL_law__1877 : decode code 1877 = .ok (.aload_n 1, 1) := by decide +kernel
theorem dL_law__1878 : decode code 1878 = .ok (.aload_n 0, 1) := by decide +kernel
theorem dL_law__1879 : decode code 1879 = .ok (.iload 4, 2) := by decide +kernel
theorem dL_law__1881 : decode code 1881 = .ok (.iconst 1, 1) := by decide +kernel
theorem dL_law__1882 : decode code 1882 = .ok (.iadd, 1) := by decide +kernel
theorem dL_law__1883 : decode code 1883 = .ok (.iaload, 1) := by decide +kernel
theorem dL_law__1884 : decode code 1884 = .ok (.aload_n 3, 1) := by decide +kernel
theorem dL_law__1885 : decode code 1885 = .ok (.invokestatic 211, 3) := by decide +kernel
theorem dL_law__1888 : decode code 1888 = .ok (.istore 5, 2) := by decide +kernel
theorem dL_law__1890 : decode code 1890 = .ok (.aload_n 2, 1) := by decide +kernel
theorem dL_law__1891 : decode code 1891 = .ok (.aload_n 0, 1) := by decide +kernel
theorem dL_law__1892 : decode code 1892 = .ok (.iload 4, 2) := by decide +kernel
theorem dL_law__1894 : decode code 1894 = .ok (.iconst 1, 1) := by decide +kernel
theorem dL_law__1895 : decode code 1895 = .ok (.iadd, 1) := by decide +kernel
theorem dL_law__1896 : decode code 1896 = .ok (.iaload, 1) := by decide +kernel
theorem dL_law__1897 : decode code 1897 = .ok (.invokevirtual 213, 3) := by decide +kernel
theorem dL_law__1900 : decode code 1900 = .ok (.istore 6, 2) := by decide +kernel
theorem dL_law__1902 : decode code 1902 = .ok (.aload_n 2, 1) := by decide +kernel
theorem dL_law__1903 : decode code 1903 = .ok (.invokevirtual 125, 3) := by decide +kernel
theorem dL_law__1906 : decode code 1906 = .ok (.iload 5, 2) := by decide +kernel
theorem dL_law__1908 : decode code 1908 = .ok (.if_icmp .eq 5, 3) := by decide +kernel
theorem dL_law__1913 : decode code 1913 = .ok (.iload 5, 2) := by decide +kernel
theorem dL_law__1915 : decode code 1915 = .ok (.ifCond .ne 15, 3) := by decide +kernel
theorem dL_law__1918 : decode code 1918 = .ok (.aload_n 3, 1) := by decide +kernel
theorem dL_law__1919 : decode code 1919 = .ok (.iconst 0, 1) := by decide +kernel
theorem dL_law__1920 : decode code 1920 = .ok (.laload, 1) := by decide +kernel
theorem dL_law__1921 : decode code 1921 = .ok (.iload 6, 2) := by decide +kernel
theorem dL_law__1923 : decode code 1923 = .ok (.i2l, 1) := by decide +kernel
theorem dL_law__1924 : decode code 1924 = .ok (.lcmp, 1) := by decide +kernel
theorem dL_law__1925 : decode code 1925 = .ok (.ifCond .eq 5, 3) := by decide +kernel
theorem dL_law__1930 : decode code 1930 = .ok (.goto 561, 3) := by decide +kernel
theorem dL_law__1933 : decode code 1933 = .ok (.aload_n 1, 1) := by decide +kernel
theorem dL_law__1934 : decode code 1934 = .ok (.aload_n 0, 1) := by decide +kernel
theorem dL_law__1935 : decode code 1935 = .ok (.iload 4, 2) := by decide +kernel
theorem dL_law__1937 : decode code 1937 = .ok (.iconst 1, 1) := by decide +kernel
theorem dL_law__1938 : decode code 1938 = .ok (.iadd, 1) := by decide +kernel
theorem dL_law__1939 : decode code 1939 = .ok (.iaload, 1) := by decide +kernel
theorem dL_law__1940 : decode code 1940 = .ok (.aload_n 0, 1) := by decide +kernel
theorem dL_law__1941 : decode code 1941 = .ok (.iload 4, 2) := by decide +kernel
theorem dL_law__1943 : decode code 1943 = .ok (.iconst 2, 1) := by decide +kernel
theorem dL_law__1944 : decode code 1944 = .ok (.iadd, 1) := by decide +kernel
theorem dL_law__1945 : decode code 1945 = .ok (.iaload, 1) := by decide +kernel
theorem dL_law__1946 : decode code 1946 = .ok (.aload_n 3, 1) := by decide +kernel
theorem dL_law__1947 : decode code 1947 = .ok (.invokestatic 214, 3) := by decide +kernel
theorem dL_law__1950 : decode code 1950 = .ok (.istore 5, 2) := by decide +kernel
theorem dL_law__1952 : decode code 1952 = .ok (.aload_n 2, 1) := by decide +kernel
theorem dL_law__1953 : decode code 1953 = .ok (.aload_n 0, 1) := by decide +kernel
theorem dL_law__1954 : decode code 1954 = .ok (.iload 4, 2) := by decide +kernel
theorem dL_law__1956 : decode code 1956 = .ok (.iconst 1, 1) := by decide +kernel
theorem dL_law__1957 : decode code 1957 = .ok (.iadd, 1) := by decide +kernel
theorem dL_law__1958 : decode code 1958 = .ok (.iaload, 1) := by decide +kernel
theorem dL_law__1959 : decode code 1959 = .ok (.aload_n 0, 1) := by decide +kernel
theorem dL_law__1960 : decode code 1960 = .ok (.iload 4, 2) := by decide +kernel
theorem dL_law__1962 : decode code 1962 = .ok (.iconst 2, 1) := by decide +kernel
theorem dL_law__1963 : decode code 1963 = .ok (.iadd, 1) := by decide +kernel
theorem dL_law__1964 : decode code 1964 = .ok (.iaload, 1) := by decide +kernel
theorem dL_law__1965 : decode code 1965 = .ok (.invokevirtual 216, 3) := by decide +kernel
theorem dL_law__1968 : decode code 1968 = .ok (.istore 6, 2) := by decide +kernel
theorem dL_law__1970 : decode code 1970 = .ok (.aload_n 2, 1) := by decide +kernel
theorem dL_law__1971 : decode code 1971 = .ok (.invokevirtual 125, 3) := by decide +kernel
theorem dL_law__1974 : decode code 1974 = .ok (.iload 5, 2) := by decide +kernel
theorem dL_law__1976 : decode code 1976 = .ok (.if_icmp .eq 5, 3) := by decide +kernel
theorem dL_law__1981 : decode code 1981 = .ok (.iload 5, 2) := by decide +kernel
theorem dL_law__1983 : decode code 1983 = .ok (.ifCond .ne 15, 3) := by decide +kernel
theorem dL_law__1986 : decode code 1986 = .ok (.aload_n 3, 1) := by decide +kernel
theorem dL_law__1987 : decode code 1987 = .ok (.iconst 0, 1) := by decide +kernel
theorem dL_law__1988 : decode code 1988 = .ok (.laload, 1) := by decide +kernel
theorem dL_law__1989 : decode code 1989 = .ok (.iload 6, 2) := by decide +kernel
theorem dL_law__1991 : decode code 1991 = .ok (.i2l, 1) := by decide +kernel
theorem dL_law__1992 : decode code 1992 = .ok (.lcmp, 1) := by decide +kernel
theorem dL_law__1993 : decode code 1993 = .ok (.ifCond .eq 5, 3) := by decide +kernel
theorem dL_law__1998 : decode code 1998 = .ok (.goto 493, 3) := by decide +kernel
theorem dL_law__2001 : decode code 2001 = .ok (.aload_n 1, 1) := by decide +kernel
theorem dL_law__2002 : decode code 2002 = .ok (.aload_n 0, 1) := by decide +kernel
theorem dL_law__2003 : decode code 2003 = .ok (.iload 4, 2) := by decide +kernel
theorem dL_law__2005 : decode code 2005 = .ok (.iconst 1, 1) := by decide +kernel
theorem dL_law__2006 : decode code 2006 = .ok (.iadd, 1) := by decide +kernel
theorem dL_law__2007 : decode code 2007 = .ok (.iaload, 1) := by decide +kernel
theorem dL_law__2008 : decode code 2008 = .ok (.aload_n 0, 1) := by decide +kernel
theorem dL_law__2009 : decode code 2009 = .ok (.iload 4, 2) := by decide +kernel
theorem dL_law__2011 : decode code 2011 = .ok (.iconst 2, 1) := by decide +kernel
theorem dL_law__2012 : decode code 2012 = .ok (.iadd, 1) := by decide +kernel
theorem dL_law__2013 : decode code 2013 = .ok (.iaload, 1) := by decide +kernel
theorem dL_law__2014 : decode code 2014 = .ok (.aload_n 3, 1) := by decide +kernel
theorem dL_law__2015 : decode code 2015 = .ok (.invokestatic 217, 3) := by decide +kernel
theorem dL_law__2018 : decode code 2018 = .ok (.istore 5, 2) := by decide +kernel
theorem dL_law__2020 : decode code 2020 = .ok (.aload_n 2, 1) := by decide +kernel
theorem dL_law__2021 : decode code 2021 = .ok (.aload_n 0, 1) := by decide +kernel
theorem dL_law__2022 : decode code 2022 = .ok (.iload 4, 2) := by decide +kernel
theorem dL_law__2024 : decode code 2024 = .ok (.iconst 1, 1) := by decide +kernel
theorem dL_law__2025 : decode code 2025 = .ok (.iadd, 1) := by decide +kernel
theorem dL_law__2026 : decode code 2026 = .ok (.iaload, 1) := by decide +kernel
theorem dL_law__2027 : decode code 2027 = .ok (.aload_n 0, 1) := by decide +kernel
theorem dL_law__2028 : decode code 2028 = .ok (.iload 4, 2) := by decide +kernel
theorem dL_law__2030 : decode code 2030 = .ok (.iconst 2, 1) := by decide +kernel
theorem dL_law__2031 : decode code 2031 = .ok (.iadd, 1) := by decide +kernel
theorem dL_law__2032 : decode code 2032 = .ok (.iaload, 1) := by decide +kernel
theorem dL_law__2033 : decode code 2033 = .ok (.invokevirtual 219, 3) := by decide +kernel
theorem dL_law__2036 : decode code 2036 = .ok (.istore 6, 2) := by decide +kernel
theorem dL_law__2038 : decode code 2038 = .ok (.aload_n 2, 1) := by decide +kernel
theorem dL_law__2039 : decode code 2039 = .ok (.invokevirtual 125, 3) := by decide +kernel
theorem dL_law__2042 : decode code 2042 = .ok (.iload 5, 2) := by decide +kernel
theorem dL_law__2044 : decode code 2044 = .ok (.if_icmp .eq 5, 3) := by decide +kernel
theorem dL_law__2049 : decode code 2049 = .ok (.iload 5, 2) := by decide +kernel
theorem dL_law__2051 : decode code 2051 = .ok (.ifCond .ne 15, 3) := by decide +kernel
theorem dL_law__2054 : decode code 2054 = .ok (.aload_n 3, 1) := by decide +kernel
theorem dL_law__2055 : decode code 2055 = .ok (.iconst 0, 1) := by decide +kernel
theorem dL_law__2056 : decode code 2056 = .ok (.laload, 1) := by decide +kernel
theorem dL_law__2057 : decode code 2057 = .ok (.iload 6, 2) := by decide +kernel
theorem dL_law__2059 : decode code 2059 = .ok (.i2l, 1) := by decide +kernel
theorem dL_law__2060 : decode code 2060 = .ok (.lcmp, 1) := by decide +kernel
theorem dL_law__2061 : decode code 2061 = .ok (.ifCond .eq 5, 3) := by decide +kernel
theorem dL_law__2066 : decode code 2066 = .ok (.goto 425, 3) := by decide +kernel
theorem dL_law__2069 : decode code 2069 = .ok (.aload_n 1, 1) := by decide +kernel
theorem dL_law__2070 : decode code 2070 = .ok (.aload_n 0, 1) := by decide +kernel
theorem dL_law__2071 : decode code 2071 = .ok (.iload 4, 2) := by decide +kernel
theorem dL_law__2073 : decode code 2073 = .ok (.iconst 1, 1) := by decide +kernel
theorem dL_law__2074 : decode code 2074 = .ok (.iadd, 1) := by decide +kernel
theorem dL_law__2075 : decode code 2075 = .ok (.iaload, 1) := by decide +kernel
theorem dL_law__2076 : decode code 2076 = .ok (.aload_n 0, 1) := by decide +kernel
theorem dL_law__2077 : decode code 2077 = .ok (.iload 4, 2) := by decide +kernel
theorem dL_law__2079 : decode code 2079 = .ok (.iconst 2, 1) := by decide +kernel
theorem dL_law__2080 : decode code 2080 = .ok (.iadd, 1) := by decide +kernel
theorem dL_law__2081 : decode code 2081 = .ok (.iaload, 1) := by decide +kernel
theorem dL_law__2082 : decode code 2082 = .ok (.aload_n 3, 1) := by decide +kernel
theorem dL_law__2083 : decode code 2083 = .ok (.invokestatic 220, 3) := by decide +kernel
theorem dL_law__2086 : decode code 2086 = .ok (.istore 5, 2) := by decide +kernel
theorem dL_law__2088 : decode code 2088 = .ok (.aload_n 2, 1) := by decide +kernel
theorem dL_law__2089 : decode code 2089 = .ok (.aload_n 0, 1) := by decide +kernel
theorem dL_law__2090 : decode code 2090 = .ok (.iload 4, 2) := by decide +kernel
theorem dL_law__2092 : decode code 2092 = .ok (.iconst 1, 1) := by decide +kernel
theorem dL_law__2093 : decode code 2093 = .ok (.iadd, 1) := by decide +kernel
theorem dL_law__2094 : decode code 2094 = .ok (.iaload, 1) := by decide +kernel
theorem dL_law__2095 : decode code 2095 = .ok (.aload_n 0, 1) := by decide +kernel
theorem dL_law__2096 : decode code 2096 = .ok (.iload 4, 2) := by decide +kernel
theorem dL_law__2098 : decode code 2098 = .ok (.iconst 2, 1) := by decide +kernel
theorem dL_law__2099 : decode code 2099 = .ok (.iadd, 1) := by decide +kernel
theorem dL_law__2100 : decode code 2100 = .ok (.iaload, 1) := by decide +kernel
theorem dL_law__2101 : decode code 2101 = .ok (.invokevirtual 222, 3) := by decide +kernel
theorem dL_law__2104 : decode code 2104 = .ok (.istore 6, 2) := by decide +kernel
theorem dL_law__2106 : decode code 2106 = .ok (.aload_n 2, 1) := by decide +kernel
theorem dL_law__2107 : decode code 2107 = .ok (.invokevirtual 125, 3) := by decide +kernel
theorem dL_law__2110 : decode code 2110 = .ok (.iload 5, 2) := by decide +kernel
theorem dL_law__2112 : decode code 2112 = .ok (.if_icmp .eq 5, 3) := by decide +kernel
theorem dL_law__2117 : decode code 2117 = .ok (.iload 5, 2) := by decide +kernel
theorem dL_law__2119 : decode code 2119 = .ok (.ifCond .ne 15, 3) := by decide +kernel
theorem dL_law__2122 : decode code 2122 = .ok (.aload_n 3, 1) := by decide +kernel
theorem dL_law__2123 : decode code 2123 = .ok (.iconst 0, 1) := by decide +kernel
theorem dL_law__2124 : decode code 2124 = .ok (.laload, 1) := by decide +kernel
theorem dL_law__2125 : decode code 2125 = .ok (.iload 6, 2) := by decide +kernel
theorem dL_law__2127 : decode code 2127 = .ok (.i2l, 1) := by decide +kernel
theorem dL_law__2128 : decode code 2128 = .ok (.lcmp, 1) := by decide +kernel
theorem dL_law__2129 : decode code 2129 = .ok (.ifCond .eq 5, 3) := by decide +kernel
theorem dL_law__2134 : decode code 2134 = .ok (.goto 357, 3) := by decide +kernel
theorem dL_law__2137 : decode code 2137 = .ok (.aload_n 1, 1) := by decide +kernel
theorem dL_law__2138 : decode code 2138 = .ok (.aload_n 0, 1) := by decide +kernel
theorem dL_law__2139 : decode code 2139 = .ok (.iload 4, 2) := by decide +kernel
theorem dL_law__2141 : decode code 2141 = .ok (.iconst 1, 1) := by decide +kernel
theorem dL_law__2142 : decode code 2142 = .ok (.iadd, 1) := by decide +kernel
theorem dL_law__2143 : decode code 2143 = .ok (.iaload, 1) := by decide +kernel
theorem dL_law__2144 : decode code 2144 = .ok (.aload_n 0, 1) := by decide +kernel
theorem dL_law__2145 : decode code 2145 = .ok (.iload 4, 2) := by decide +kernel
theorem dL_law__2147 : decode code 2147 = .ok (.iconst 2, 1) := by decide +kernel
theorem dL_law__2148 : decode code 2148 = .ok (.iadd, 1) := by decide +kernel
theorem dL_law__2149 : decode code 2149 = .ok (.iaload, 1) := by decide +kernel
theorem dL_law__2150 : decode code 2150 = .ok (.aload_n 3, 1) := by decide +kernel
theorem dL_law__2151 : decode code 2151 = .ok (.invokestatic 223, 3) := by decide +kernel
theorem dL_law__2154 : decode code 2154 = .ok (.istore 5, 2) := by decide +kernel
theorem dL_law__2156 : decode code 2156 = .ok (.aload_n 2, 1) := by decide +kernel
theorem dL_law__2157 : decode code 2157 = .ok (.aload_n 0, 1) := by decide +kernel
theorem dL_law__2158 : decode code 2158 = .ok (.iload 4, 2) := by decide +kernel
theorem dL_law__2160 : decode code 2160 = .ok (.iconst 1, 1) := by decide +kernel
theorem dL_law__2161 : decode code 2161 = .ok (.iadd, 1) := by decide +kernel
theorem dL_law__2162 : decode code 2162 = .ok (.iaload, 1) := by decide +kernel
theorem dL_law__2163 : decode code 2163 = .ok (.aload_n 0, 1) := by decide +kernel
theorem dL_law__2164 : decode code 2164 = .ok (.iload 4, 2) := by decide +kernel
theorem dL_law__2166 : decode code 2166 = .ok (.iconst 2, 1) := by decide +kernel
theorem dL_law__2167 : decode code 2167 = .ok (.iadd, 1) := by decide +kernel
theorem dL_law__2168 : decode code 2168 = .ok (.iaload, 1) := by decide +kernel
theorem dL_law__2169 : decode code 2169 = .ok (.invokevirtual 225, 3) := by decide +kernel
theorem dL_law__2172 : decode code 2172 = .ok (.istore 6, 2) := by decide +kernel
theorem dL_law__2174 : decode code 2174 = .ok (.aload_n 2, 1) := by decide +kernel
theorem dL_law__2175 : decode code 2175 = .ok (.invokevirtual 125, 3) := by decide +kernel
theorem dL_law__2178 : decode code 2178 = .ok (.iload 5, 2) := by decide +kernel
theorem dL_law__2180 : decode code 2180 = .ok (.if_icmp .eq 5, 3) := by decide +kernel
theorem dL_law__2185 : decode code 2185 = .ok (.iload 5, 2) := by decide +kernel
theorem dL_law__2187 : decode code 2187 = .ok (.ifCond .ne 15, 3) := by decide +kernel
theorem dL_law__2190 : decode code 2190 = .ok (.aload_n 3, 1) := by decide +kernel
theorem dL_law__2191 : decode code 2191 = .ok (.iconst 0, 1) := by decide +kernel
theorem dL_law__2192 : decode code 2192 = .ok (.laload, 1) := by decide +kernel
theorem dL_law__2193 : decode code 2193 = .ok (.iload 6, 2) := by decide +kernel
theorem dL_law__2195 : decode code 2195 = .ok (.i2l, 1) := by decide +kernel
theorem dL_law__2196 : decode code 2196 = .ok (.lcmp, 1) := by decide +kernel
theorem dL_law__2197 : decode code 2197 = .ok (.ifCond .eq 5, 3) := by decide +kernel
theorem dL_law__2202 : decode code 2202 = .ok (.goto 289, 3) := by decide +kernel
theorem dL_law__2205 : decode code 2205 = .ok (.aload_n 1, 1) := by decide +kernel
theorem dL_law__2206 : decode code 2206 = .ok (.aload_n 0, 1) := by decide +kernel
theorem dL_law__2207 : decode code 2207 = .ok (.iload 4, 2) := by decide +kernel
