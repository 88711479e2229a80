def dAll (c : ByteArray) (l : List (Nat × (Instr × Nat))) : Bool := l.all fun q => decide (decode c q.1 = .ok q.2)
theorem dAt {c : ByteArray} {l : List (Nat × (Instr × Nat))} (h : dAll c l = true) (k : Nat) {n : Nat} {q : Instr × Nat} (hk : l[k]? = some (n, q)) : decode c n = .ok q := of_decide_eq_true (List.all_eq_true.mp h (n, q) (List.mem_of_getElem? hk))
theorem bdL_law_1625 : dAll cL_law [(1625, (.iaload, 1)), (1626, (.aload_n 0, 1)), (1627, (.iload 4, 2)), (1629, (.iconst 2, 1)), (1630, (.iadd, 1)), (1631, (.iaload, 1)), (1632, (.aload_n 0, 1)), (1633, (.iload 4, 2)), (1635, (.iconst 3, 1)), (1636, (.iadd, 1)), (1637, (.iaload, 1)), (1638, (.aload_n 0, 1)), (1639, (.iload 4, 2)), (1641, (.iconst 4, 1)), (1642, (.iadd, 1)), (1643, (.iaload, 1)), (1644, (.invokevirtual 290, 3)), (1647, (.istore 6, 2)), (1649, (.aload_n 2, 1)), (1650, (.invokevirtual 192, 3)), (1653, (.iload 5, 2)), (1655, (.if_icmp .eq 5, 3)), (1660, (.iload 5, 2)), (1662, (.ifCond .ne 15, 3)), (1677, (.goto 1814, 3)), (1680, (.aload_n 1, 1)), (1681, (.aload_n 0, 1)), (1682, (.iload 4, 2)), (1684, (.iconst 1, 1)), (1685, (.iadd, 1)), (1686, (.iaload, 1)), (1687, (.aload_n 0, 1)), (1688, (.iload 4, 2)), (1690, (.iconst 2, 1)), (1691, (.iadd, 1)), (1692, (.iaload, 1)), (1693, (.aload_n 0, 1)), (1694, (.iload 4, 2)), (1696, (.iconst 3, 1)), (1697, (.iadd, 1))] = true := by decide +kernel
theorem dL_law_1625 : decode cL_law 1625 = .ok (.iaload, 1) := dAt bdL_law_1625 0 rfl
theorem dL_law_1626 : decode cL_law 1626 = .ok (.aload_n 0, 1) := dAt bdL_law_1625 1 rfl
theorem dL_law_1627 : decode cL_law 1627 = .ok (.iload 4, 2) := dAt bdL_law_1625 2 rfl
theorem dL_law_1629 : decode cL_law 1629 = .ok (.iconst 2, 1) := dAt bdL_law_1625 3 rfl
theorem dL_law_1630 : decode cL_law 1630 = .ok (.iadd, 1) := dAt bdL_law_1625 4 rfl
theorem dL_law_1631 : decode cL_law 1631 = .ok (.iaload, 1) := dAt bdL_law_1625 5 rfl
theorem dL_law_1632 : decode cL_law 1632 = .ok (.aload_n 0, 1) := dAt bdL_law_1625 6 rfl
theorem dL_law_1633 : decode cL_law 1633 = .ok (.iload 4, 2) := dAt bdL_law_1625 7 rfl
theorem dL_law_1635 : decode cL_law 1635 = .ok (.iconst 3, 1) := dAt bdL_law_1625 8 rfl
theorem dL_law_1636 : decode cL_law 1636 = .ok (.iadd, 1) := dAt bdL_law_1625 9 rfl
theorem dL_law_1637 : decode cL_law 1637 = .ok (.iaload, 1) := dAt bdL_law_1625 10 rfl
theorem dL_law_1638 : decode cL_law 1638 = .ok (.aload_n 0, 1) := dAt bdL_law_1625 11 rfl
theorem dL_law_1639 : decode cL_law 1639 = .ok (.iload 4, 2) := dAt bdL_law_1625 12 rfl
theorem dL_law_1641 : decode cL_law 1641 = .ok (.iconst 4, 1) := dAt bdL_law_1625 13 rfl
theorem dL_law_1642 : decode cL_law 1642 = .ok (.iadd, 1) := dAt bdL_law_1625 14 rfl
theorem dL_law_1643 : decode cL_law 1643 = .ok (.iaload, 1) := dAt bdL_law_1625 15 rfl
theorem dL_law_1644 : decode cL_law 1644 = .ok (.invokevirtual 290, 3) := dAt bdL_law_1625 16 rfl
theorem dL_law_1647 : decode cL_law 1647 = .ok (.istore 6, 2) := dAt bdL_law_1625 17 rfl
theorem dL_law_1649 : decode cL_law 1649 = .ok (.aload_n 2, 1) := dAt bdL_law_1625 18 rfl
theorem dL_law_1650 : decode cL_law 1650 = .ok (.invokevirtual 192, 3) := dAt bdL_law_1625 19 rfl
theorem dL_law_1653 : decode cL_law 1653 = .ok (.iload 5, 2) := dAt bdL_law_1625 20 rfl
theorem dL_law_1655 : decode cL_law 1655 = .ok (.if_icmp .eq 5, 3) := dAt bdL_law_1625 21 rfl
theorem dL_law_1660 : decode cL_law 1660 = .ok (.iload 5, 2) := dAt bdL_law_1625 22 rfl
theorem dL_law_1662 : decode cL_law 1662 = .ok (.ifCond .ne 15, 3) := dAt bdL_law_1625 23 rfl
theorem dL_law_1677 : decode cL_law 1677 = .ok (.goto 1814, 3) := dAt bdL_law_1625 24 rfl
theorem dL_law_1680 : decode cL_law 1680 = .ok (.aload_n 1, 1) := dAt bdL_law_1625 25 rfl
theorem dL_law_1681 : decode cL_law 1681 = .ok (.aload_n 0, 1) := dAt bdL_law_1625 26 rfl
theorem dL_law_1682 : decode cL_law 1682 = .ok (.iload 4, 2) := dAt bdL_law_1625 27 rfl
theorem dL_law_1684 : decode cL_law 1684 = .ok (.iconst 1, 1) := dAt bdL_law_1625 28 rfl
theorem dL_law_1685 : decode cL_law 1685 = .ok (.iadd, 1) := dAt bdL_law_1625 29 rfl
theorem dL_law_1686 : decode cL_law 1686 = .ok (.iaload, 1) := dAt bdL_law_1625 30 rfl
theorem dL_law_1687 : decode cL_law 1687 = .ok (.aload_n 0, 1) := dAt bdL_law_1625 31 rfl
theorem dL_law_1688 : decode cL_law 1688 = .ok (.iload 4, 2) := dAt bdL_law_1625 32 rfl
theorem dL_law_1690 : decode cL_law 1690 = .ok (.iconst 2, 1) := dAt bdL_law_1625 33 rfl
theorem dL_law_1691 : decode cL_law 1691 = .ok (.iadd, 1) := dAt bdL_law_1625 34 rfl
theorem dL_law_1692 : decode cL_law 1692 = .ok (.iaload, 1) := dAt bdL_law_1625 35 rfl
theorem dL_law_1693 : decode cL_law 1693 = .ok (.aload_n 0, 1) := dAt bdL_law_1625 36 rfl
theorem dL_law_1694 : decode cL_law 1694 = .ok (.iload 4, 2) := dAt bdL_law_1625 37 rfl
theorem dL_law_1696 : decode cL_law 1696 = .ok (.iconst 3, 1) := dAt bdL_law_1625 38 rfl
theorem dL_law_1697 : decode cL_law 1697 = .ok (.iadd, 1) := dAt bdL_law_1625 39 rfl
theorem bdL_law_1698 : dAll cL_law [(1698, (.iaload, 1)), (1699, (.aload_n 3, 1)), (1700, (.invokestatic 291, 3)), (1703, (.istore 5, 2)), (1705, (.aload_n 2, 1)), (1706, (.aload_n 0, 1)), (1707, (.iload 4, 2)), (1709, (.iconst 1, 1)), (1710, (.iadd, 1)), (1711, (.iaload, 1)), (1712, (.aload_n 0, 1)), (1713, (.iload 4, 2)), (1715, (.iconst 2, 1)), (1716, (.iadd, 1)), (1717, (.iaload, 1)), (1718, (.aload_n 0, 1)), (1719, (.iload 4, 2)), (1721, (.iconst 3, 1)), (1722, (.iadd, 1)), (1723, (.iaload, 1)), (1724, (.invokevirtual 293, 3)), (1727, (.istore 6, 2)), (1729, (.aload_n 2, 1)), (1730, (.invokevirtual 192, 3)), (1733, (.iload 5, 2)), (1735, (.if_icmp .eq 5, 3)), (1740, (.iload 5, 2)), (1742, (.ifCond .ne 15, 3)), (1757, (.goto 1734, 3)), (1760, (.aload_n 1, 1)), (1761, (.aload_n 0, 1)), (1762, (.iload 4, 2)), (1764, (.iconst 1, 1)), (1765, (.iadd, 1)), (1766, (.iaload, 1)), (1767, (.aload_n 0, 1)), (1768, (.iload 4, 2)), (1770, (.iconst 2, 1)), (1771, (.iadd, 1)), (1772, (.iaload, 1))] = true := by decide +kernel
theorem dL_law_1698 : decode cL_law 1698 = .ok (.iaload, 1) := dAt bdL_law_1698 0 rfl
theorem dL_law_1699 : decode cL_law 1699 = .ok (.aload_n 3, 1) := dAt bdL_law_1698 1 rfl
theorem dL_law_1700 : decode cL_law 1700 = .ok (.invokestatic 291, 3) := dAt bdL_law_1698 2 rfl
theorem dL_law_1703 : decode cL_law 1703 = .ok (.istore 5, 2) := dAt bdL_law_1698 3 rfl
theorem dL_law_1705 : decode cL_law 1705 = .ok (.aload_n 2, 1) := dAt bdL_law_1698 4 rfl
theorem dL_law_1706 : decode cL_law 1706 = .ok (.aload_n 0, 1) := dAt bdL_law_1698 5 rfl
theorem dL_law_1707 : decode cL_law 1707 = .ok (.iload 4, 2) := dAt bdL_law_1698 6 rfl
theorem dL_law_1709 : decode cL_law 1709 = .ok (.iconst 1, 1) := dAt bdL_law_1698 7 rfl
theorem dL_law_1710 : decode cL_law 1710 = .ok (.iadd, 1) := dAt bdL_law_1698 8 rfl
theorem dL_law_1711 : decode cL_law 1711 = .ok (.iaload, 1) := dAt bdL_law_1698 9 rfl
theorem dL_law_1712 : decode cL_law 1712 = .ok (.aload_n 0, 1) := dAt bdL_law_1698 10 rfl
theorem dL_law_1713 : decode cL_law 1713 = .ok (.iload 4, 2) := dAt bdL_law_1698 11 rfl
theorem dL_law_1715 : decode cL_law 1715 = .ok (.iconst 2, 1) := dAt bdL_law_1698 12 rfl
theorem dL_law_1716 : decode cL_law 1716 = .ok (.iadd, 1) := dAt bdL_law_1698 13 rfl
theorem dL_law_1717 : decode cL_law 1717 = .ok (.iaload, 1) := dAt bdL_law_1698 14 rfl
theorem dL_law_1718 : decode cL_law 1718 = .ok (.aload_n 0, 1) := dAt bdL_law_1698 15 rfl
theorem dL_law_1719 : decode cL_law 1719 = .ok (.iload 4, 2) := dAt bdL_law_1698 16 rfl
theorem dL_law_1721 : decode cL_law 1721 = .ok (.iconst 3, 1) := dAt bdL_law_1698 17 rfl
theorem dL_law_1722 : decode cL_law 1722 = .ok (.iadd, 1) := dAt bdL_law_1698 18 rfl
theorem dL_law_1723 : decode cL_law 1723 = .ok (.iaload, 1) := dAt bdL_law_1698 19 rfl
theorem dL_law_1724 : decode cL_law 1724 = .ok (.invokevirtual 293, 3) := dAt bdL_law_1698 20 rfl
theorem dL_law_1727 : decode cL_law 1727 = .ok (.istore 6, 2) := dAt bdL_law_1698 21 rfl
theorem dL_law_1729 : decode cL_law 1729 = .ok (.aload_n 2, 1) := dAt bdL_law_1698 22 rfl
theorem dL_law_1730 : decode cL_law 1730 = .ok (.invokevirtual 192, 3) := dAt bdL_law_1698 23 rfl
theorem dL_law_1733 : decode cL_law 1733 = .ok (.iload 5, 2) := dAt bdL_law_1698 24 rfl
theorem dL_law_1735 : decode cL_law 1735 = .ok (.if_icmp .eq 5, 3) := dAt bdL_law_1698 25 rfl
theorem dL_law_1740 : decode cL_law 1740 = .ok (.iload 5, 2) := dAt bdL_law_1698 26 rfl
theorem dL_law_1742 : decode cL_law 1742 = .ok (.ifCond .ne 15, 3) := dAt bdL_law_1698 27 rfl
theorem dL_law_1757 : decode cL_law 1757 = .ok (.goto 1734, 3) := dAt bdL_law_1698 28 rfl
theorem dL_law_1760 : decode cL_law 1760 = .ok (.aload_n 1, 1) := dAt bdL_law_1698 29 rfl
theorem dL_law_1761 : decode cL_law 1761 = .ok (.aload_n 0, 1) := dAt bdL_law_1698 30 rfl
theorem dL_law_1762 : decode cL_law 1762 = .ok (.iload 4, 2) := dAt bdL_law_1698 31 rfl
theorem dL_law_1764 : decode cL_law 1764 = .ok (.iconst 1, 1) := dAt bdL_law_1698 32 rfl
theorem dL_law_1765 : decode cL_law 1765 = .ok (.iadd, 1) := dAt bdL_law_1698 33 rfl
theorem dL_law_1766 : decode cL_law 1766 = .ok (.iaload, 1) := dAt bdL_law_1698 34 rfl
theorem dL_law_1767 : decode cL_law 1767 = .ok (.aload_n 0, 1) := dAt bdL_law_1698 35 rfl
theorem dL_law_1768 : decode cL_law 1768 = .ok (.iload 4, 2) := dAt bdL_law_1698 36 rfl
theorem dL_law_1770 : decode cL_law 1770 = .ok (.iconst 2, 1) := dAt bdL_law_1698 37 rfl
theorem dL_law_1771 : decode cL_law 1771 = .ok (.iadd, 1) := dAt bdL_law_1698 38 rfl
theorem dL_law_1772 : decode cL_law 1772 = .ok (.iaload, 1) := dAt bdL_law_1698 39 rfl
theorem bdL_law_1773 : dAll cL_law [(1773, (.aload_n 0, 1)), (1774, (.iload 4, 2)), (1776, (.iconst 3, 1)), (1777, (.iadd, 1)), (1778, (.iaload, 1)), (1779, (.aload_n 0, 1)), (1780, (.iload 4, 2)), (1782, (.iconst 4, 1)), (1783, (.iadd, 1)), (1784, (.iaload, 1)), (1785, (.aload_n 3, 1)), (1786, (.invokestatic 294, 3)), (1789, (.istore 5, 2)), (1791, (.aload_n 2, 1)), (1792, (.aload_n 0, 1)), (1793, (.iload 4, 2)), (1795, (.iconst 1, 1)), (1796, (.iadd, 1)), (1797, (.iaload, 1)), (1798, (.aload_n 0, 1)), (1799, (.iload 4, 2)), (1801, (.iconst 2, 1)), (1802, (.iadd, 1)), (1803, (.iaload, 1)), (1804, (.aload_n 0, 1)), (1805, (.iload 4, 2)), (1807, (.iconst 3, 1)), (1808, (.iadd, 1)), (1809, (.iaload, 1)), (1810, (.aload_n 0, 1)), (1811, (.iload 4, 2)), (1813, (.iconst 4, 1)), (1814, (.iadd, 1)), (1815, (.iaload, 1)), (1816, (.invokevirtual 296, 3)), (1819, (.istore 6, 2)), (1821, (.aload_n 2, 1)), (1822, (.invokevirtual 192, 3)), (1825, (.iload 5, 2)), (1827, (.if_icmp .eq 5, 3))] = true := by decide +kernel
theorem dL_law_1773 : decode cL_law 1773 = .ok (.aload_n 0, 1) := dAt bdL_law_1773 0 rfl
theorem dL_law_1774 : decode cL_law 1774 = .ok (.iload 4, 2) := dAt bdL_law_1773 1 rfl
theorem dL_law_1776 : decode cL_law 1776 = .ok (.iconst 3, 1) := dAt bdL_law_1773 2 rfl
theorem dL_law_1777 : decode cL_law 1777 = .ok (.iadd, 1) := dAt bdL_law_1773 3 rfl
theorem dL_law_1778 : decode cL_law 1778 = .ok (.iaload, 1) := dAt bdL_law_1773 4 rfl
theorem dL_law_1779 : decode cL_law 1779 = .ok (.aload_n 0, 1) := dAt bdL_law_1773 5 rfl
theorem dL_law_1780 : decode cL_law 1780 = .ok (.iload 4, 2) := dAt bdL_law_1773 6 rfl
theorem dL_law_1782 : decode cL_law 1782 = .ok (.iconst 4, 1) := dAt bdL_law_1773 7 rfl
theorem dL_law_1783 : decode cL_law 1783 = .ok (.iadd, 1) := dAt bdL_law_1773 8 rfl
theorem dL_law_1784 : decode cL_law 1784 = .ok (.iaload, 1) := dAt bdL_law_1773 9 rfl
theorem dL_law_1785 : decode cL_law 1785 = .ok (.aload_n 3, 1) := dAt bdL_law_1773 10 rfl
theorem dL_law_1786 : decode cL_law 1786 = .ok (.invokestatic 294, 3) := dAt bdL_law_1773 11 rfl
theorem dL_law_1789 : decode cL_law 1789 = .ok (.istore 5, 2) := dAt bdL_law_1773 12 rfl
theorem dL_law_1791 : decode cL_law 1791 = .ok (.aload_n 2, 1) := dAt bdL_law_1773 13 rfl
theorem dL_law_1792 : decode cL_law 1792 = .ok (.aload_n 0, 1) := dAt bdL_law_1773 14 rfl
theorem dL_law_1793 : decode cL_law 1793 = .ok (.iload 4, 2) := dAt bdL_law_1773 15 rfl
theorem dL_law_1795 : decode cL_law 1795 = .ok (.iconst 1, 1) := dAt bdL_law_1773 16 rfl
theorem dL_law_1796 : decode cL_law 1796 = .ok (.iadd, 1) := dAt bdL_law_1773 17 rfl
theorem dL_law_1797 : decode cL_law 1797 = .ok (.iaload, 1) := dAt bdL_law_1773 18 rfl
theorem dL_law_1798 : decode cL_law 1798 = .ok (.aload_n 0, 1) := dAt bdL_law_1773 19 rfl
theorem dL_law_1799 : decode cL_law 1799 = .ok (.iload 4, 2) := dAt bdL_law_1773 20 rfl
theorem dL_law_1801 : decode cL_law 1801 = .ok (.iconst 2, 1) := dAt bdL_law_1773 21 rfl
theorem dL_law_1802 : decode cL_law 1802 = .ok (.iadd, 1) := dAt bdL_law_1773 22 rfl
theorem dL_law_1803 : decode cL_law 1803 = .ok (.iaload, 1) := dAt bdL_law_1773 23 rfl
theorem dL_law_1804 : decode cL_law 1804 = .ok (.aload_n 0, 1) := dAt bdL_law_1773 24 rfl
theorem dL_law_1805 : decode cL_law 1805 = .ok (.iload 4, 2) := dAt bdL_law_1773 25 rfl
theorem dL_law_1807 : decode cL_law 1807 = .ok (.iconst 3, 1) := dAt bdL_law_1773 26 rfl
theorem dL_law_1808 : decode cL_law 1808 = .ok (.iadd, 1) := dAt bdL_law_1773 27 rfl
theorem dL_law_1809 : decode cL_law 1809 = .ok (.iaload, 1) := dAt bdL_law_1773 28 rfl
theorem dL_law_1810 : decode cL_law 1810 = .ok (.aload_n 0, 1) := dAt bdL_law_1773 29 rfl
theorem dL_law_1811 : decode cL_law 1811 = .ok (.iload 4, 2) := dAt bdL_law_1773 30 rfl
theorem dL_law_1813 : decode cL_law 1813 = .ok (.iconst 4, 1) := dAt bdL_law_1773 31 rfl
theorem dL_law_1814 : decode cL_law 1814 = .ok (.iadd, 1) := dAt bdL_law_1773 32 rfl
theorem dL_law_1815 : decode cL_law 1815 = .ok (.iaload, 1) := dAt bdL_law_1773 33 rfl
theorem dL_law_1816 : decode cL_law 1816 = .ok (.invokevirtual 296, 3) := dAt bdL_law_1773 34 rfl
theorem dL_law_1819 : decode cL_law 1819 = .ok (.istore 6, 2) := dAt bdL_law_1773 35 rfl
theorem dL_law_1821 : decode cL_law 1821 = .ok (.aload_n 2, 1) := dAt bdL_law_1773 36 rfl
theorem dL_law_1822 : decode cL_law 1822 = .ok (.invokevirtual 192, 3) := dAt bdL_law_1773 37 rfl
theorem dL_law_1825 : decode cL_law 1825 = .ok (.iload 5, 2) := dAt bdL_law_1773 38 rfl
theorem dL_law_1827 : decode cL_law 1827 = .ok (.if_icmp .eq 5, 3) := dAt bdL_law_1773 39 rfl
theorem bdL_law_1832 : dAll cL_law [(1832, (.iload 5, 2)), (1834, (.ifCond .ne 15, 3)), (1849, (.goto 1642, 3)), (1852, (.aload_n 1, 1)), (1853, (.aload_n 0, 1)), (1854, (.iload 4, 2)), (1856, (.iconst 1, 1)), (1857, (.iadd, 1)), (1858, (.iaload, 1)), (1859, (.ifCond .eq 7, 3)), (1862, (.iconst 1, 1)), (1863, (.goto 4, 3)), (1866, (.iconst 0, 1)), (1867, (.aload_n 3, 1)), (1868, (.invokestatic 297, 3)), (1871, (.istore 5, 2)), (1873, (.aload_n 2, 1)), (1874, (.aload_n 0, 1)), (1875, (.iload 4, 2)), (1877, (.iconst 1, 1)), (1878, (.iadd, 1)), (1879, (.iaload, 1)), (1880, (.ifCond .eq 7, 3)), (1883, (.iconst 1, 1)), (1884, (.goto 4, 3)), (1887, (.iconst 0, 1)), (1888, (.invokevirtual 300, 3)), (1891, (.istore 6, 2)), (1893, (.aload_n 2, 1)), (1894, (.invokevirtual 192, 3)), (1897, (.iload 5, 2)), (1899, (.if_icmp .eq 5, 3)), (1904, (.iload 5, 2)), (1906, (.ifCond .ne 15, 3)), (1909, (.aload_n 3, 1)), (1910, (.iconst 0, 1)), (1911, (.laload, 1)), (1912, (.iload 6, 2)), (1914, (.i2l, 1)), (1915, (.lcmp, 1))] = true := by decide +kernel
theorem dL_law_1832 : decode cL_law 1832 = .ok (.iload 5, 2) := dAt bdL_law_1832 0 rfl
theorem dL_law_1834 : decode cL_law 1834 = .ok (.ifCond .ne 15, 3) := dAt bdL_law_1832 1 rfl
theorem dL_law_1849 : decode cL_law 1849 = .ok (.goto 1642, 3) := dAt bdL_law_1832 2 rfl
theorem dL_law_1852 : decode cL_law 1852 = .ok (.aload_n 1, 1) := dAt bdL_law_1832 3 rfl
theorem dL_law_1853 : decode cL_law 1853 = .ok (.aload_n 0, 1) := dAt bdL_law_1832 4 rfl
theorem dL_law_1854 : decode cL_law 1854 = .ok (.iload 4, 2) := dAt bdL_law_1832 5 rfl
theorem dL_law_1856 : decode cL_law 1856 = .ok (.iconst 1, 1) := dAt bdL_law_1832 6 rfl
theorem dL_law_1857 : decode cL_law 1857 = .ok (.iadd, 1) := dAt bdL_law_1832 7 rfl
theorem dL_law_1858 : decode cL_law 1858 = .ok (.iaload, 1) := dAt bdL_law_1832 8 rfl
theorem dL_law_1859 : decode cL_law 1859 = .ok (.ifCond .eq 7, 3) := dAt bdL_law_1832 9 rfl
theorem dL_law_1862 : decode cL_law 1862 = .ok (.iconst 1, 1) := dAt bdL_law_1832 10 rfl
theorem dL_law_1863 : decode cL_law 1863 = .ok (.goto 4, 3) := dAt bdL_law_1832 11 rfl
theorem dL_law_1866 : decode cL_law 1866 = .ok (.iconst 0, 1) := dAt bdL_law_1832 12 rfl
theorem dL_law_1867 : decode cL_law 1867 = .ok (.aload_n 3, 1) := dAt bdL_law_1832 13 rfl
theorem dL_law_1868 : decode cL_law 1868 = .ok (.invokestatic 297, 3) := dAt bdL_law_1832 14 rfl
theorem dL_law_1871 : decode cL_law 1871 = .ok (.istore 5, 2) := dAt bdL_law_1832 15 rfl
theorem dL_law_1873 : decode cL_law 1873 = .ok (.aload_n 2, 1) := dAt bdL_law_1832 16 rfl
theorem dL_law_1874 : decode cL_law 1874 = .ok (.aload_n 0, 1) := dAt bdL_law_1832 17 rfl
theorem dL_law_1875 : decode cL_law 1875 = .ok (.iload 4, 2) := dAt bdL_law_1832 18 rfl
theorem dL_law_1877 : decode cL_law 1877 = .ok (.iconst 1, 1) := dAt bdL_law_1832 19 rfl
theorem dL_law_1878 : decode cL_law 1878 = .ok (.iadd, 1) := dAt bdL_law_1832 20 rfl
theorem dL_law_1879 : decode cL_law 1879 = .ok (.iaload, 1) := dAt bdL_law_1832 21 rfl
theorem dL_law_1880 : decode cL_law 1880 = .ok (.ifCond .eq 7, 3) := dAt bdL_law_1832 22 rfl
theorem dL_law_1883 : decode cL_law 1883 = .ok (.iconst 1, 1) := dAt bdL_law_1832 23 rfl
theorem dL_law_1884 : decode cL_law 1884 = .ok (.goto 4, 3) := dAt bdL_law_1832 24 rfl
theorem dL_law_1887 : decode cL_law 1887 = .ok (.iconst 0, 1) := dAt bdL_law_1832 25 rfl
theorem dL_law_1888 : decode cL_law 1888 = .ok (.invokevirtual 300, 3) := dAt bdL_law_1832 26 rfl
theorem dL_law_1891 : decode cL_law 1891 = .ok (.istore 6, 2) := dAt bdL_law_1832 27 rfl
theorem dL_law_1893 : decode cL_law 1893 = .ok (.aload_n 2, 1) := dAt bdL_law_1832 28 rfl
theorem dL_law_1894 : decode cL_law 1894 = .ok (.invokevirtual 192, 3) := dAt bdL_law_1832 29 rfl
theorem dL_law_1897 : decode cL_law 1897 = .ok (.iload 5, 2) := dAt bdL_law_1832 30 rfl
theorem dL_law_1899 : decode cL_law 1899 = .ok (.if_icmp .eq 5, 3) := dAt bdL_law_1832 31 rfl
theorem dL_law_1904 : decode cL_law 1904 = .ok (.iload 5, 2) := dAt bdL_law_1832 32 rfl
theorem dL_law_1906 : decode cL_law 1906 = .ok (.ifCond .ne 15, 3) := dAt bdL_law_1832 33 rfl
theorem dL_law_1909 : decode cL_law 1909 = .ok (.aload_n 3, 1) := dAt bdL_law_1832 34 rfl
theorem dL_law_1910 : decode cL_law 1910 = .ok (.iconst 0, 1) := dAt bdL_law_1832 35 rfl
theorem dL_law_1911 : decode cL_law 1911 = .ok (.laload, 1) := dAt bdL_law_1832 36 rfl
theorem dL_law_1912 : decode cL_law 1912 = .ok (.iload 6, 2) := dAt bdL_law_1832 37 rfl
theorem dL_law_1914 : decode cL_law 1914 = .ok (.i2l, 1) := dAt bdL_law_1832 38 rfl
theorem dL_law_1915 : decode cL_law 1915 = .ok (.lcmp, 1) := dAt bdL_law_1832 39 rfl
theorem bdL_law_1916 : dAll cL_law [(1916, (.ifCond .eq 5, 3)), (1921, (.goto 1570, 3)), (1924, (.aload_n 1, 1)), (1925, (.aload_n 0, 1)), (1926, (.iload 4, 2)), (1928, (.iconst 1, 1)), (1929, (.iadd, 1)), (1930, (.iaload, 1)), (1931, (.aload_n 3, 1)), (1932, (.invokestatic 301, 3)), (1935, (.istore 5, 2)), (1937, (.aload_n 2, 1)), (1938, (.aload_n 0, 1)), (1939, (.iload 4, 2)), (1941, (.iconst 1, 1)), (1942, (.iadd, 1)), (1943, (.iaload, 1)), (1944, (.invokevirtual 303, 3)), (1947, (.istore 6, 2)), (1949, (.aload_n 2, 1)), (1950, (.invokevirtual 192, 3)), (1953, (.iload 5, 2)), (1955, (.if_icmp .eq 5, 3)), (1960, (.iload 5, 2)), (1962, (.ifCond .ne 15, 3)), (1977, (.goto 1514, 3)), (1980, (.aload_n 1, 1)), (1981, (.aload_n 0, 1)), (1982, (.iload 4, 2)), (1984, (.iconst 1, 1)), (1985, (.iadd, 1)), (1986, (.iaload, 1)), (1987, (.aload_n 3, 1)), (1988, (.invokestatic 304, 3)), (1991, (.istore 5, 2)), (1993, (.aload_n 2, 1)), (1994, (.aload_n 0, 1)), (1995, (.iload 4, 2)), (1997, (.iconst 1, 1)), (1998, (.iadd, 1))] = true := by decide +kernel
theorem dL_law_1916 : decode cL_law 1916 = .ok (.ifCond .eq 5, 3) := dAt bdL_law_1916 0 rfl
theorem dL_law_1921 : decode cL_law 1921 = .ok (.goto 1570, 3) := dAt bdL_law_1916 1 rfl
theorem dL_law_1924 : decode cL_law 1924 = .ok (.aload_n 1, 1) := dAt bdL_law_1916 2 rfl
theorem dL_law_1925 : decode cL_law 1925 = .ok (.aload_n 0, 1) := dAt bdL_law_1916 3 rfl
theorem dL_law_1926 : decode cL_law 1926 = .ok (.iload 4, 2) := dAt bdL_law_1916 4 rfl
theorem dL_law_1928 : decode cL_law 1928 = .ok (.iconst 1, 1) := dAt bdL_law_1916 5 rfl
theorem dL_law_1929 : decode cL_law 1929 = .ok (.iadd, 1) := dAt bdL_law_1916 6 rfl
theorem dL_law_1930 : decode cL_law 1930 = .ok (.iaload, 1) := dAt bdL_law_1916 7 rfl
theorem dL_law_1931 : decode cL_law 1931 = .ok (.aload_n 3, 1) := dAt bdL_law_1916 8 rfl
theorem dL_law_1932 : decode cL_law 1932 = .ok (.invokestatic 301, 3) := dAt bdL_law_1916 9 rfl
theorem dL_law_1935 : decode cL_law 1935 = .ok (.istore 5, 2) := dAt bdL_law_1916 10 rfl
theorem dL_law_1937 : decode cL_law 1937 = .ok (.aload_n 2, 1) := dAt bdL_law_1916 11 rfl
theorem dL_law_1938 : decode cL_law 1938 = .ok (.aload_n 0, 1) := dAt bdL_law_1916 12 rfl
theorem dL_law_1939 : decode cL_law 1939 = .ok (.iload 4, 2) := dAt bdL_law_1916 13 rfl
theorem dL_law_1941 : decode cL_law 1941 = .ok (.iconst 1, 1) := dAt bdL_law_1916 14 rfl
theorem dL_law_1942 : decode cL_law 1942 = .ok (.iadd, 1) := dAt bdL_law_1916 15 rfl
theorem dL_law_1943 : decode cL_law 1943 = .ok (.iaload, 1) := dAt bdL_law_1916 16 rfl
theorem dL_law_1944 : decode cL_law 1944 = .ok (.invokevirtual 303, 3) := dAt bdL_law_1916 17 rfl
theorem dL_law_1947 : decode cL_law 1947 = .ok (.istore 6, 2) := dAt bdL_law_1916 18 rfl
theorem dL_law_1949 : decode cL_law 1949 = .ok (.aload_n 2, 1) := dAt bdL_law_1916 19 rfl
theorem dL_law_1950 : decode cL_law 1950 = .ok (.invokevirtual 192, 3) := dAt bdL_law_1916 20 rfl
theorem dL_law_1953 : decode cL_law 1953 = .ok (.iload 5, 2) := dAt bdL_law_1916 21 rfl
theorem dL_law_1955 : decode cL_law 1955 = .ok (.if_icmp .eq 5, 3) := dAt bdL_law_1916 22 rfl
theorem dL_law_1960 : decode cL_law 1960 = .ok (.iload 5, 2) := dAt bdL_law_1916 23 rfl
theorem dL_law_1962 : decode cL_law 1962 = .ok (.ifCond .ne 15, 3) := dAt bdL_law_1916 24 rfl
theorem dL_law_1977 : decode cL_law 1977 = .ok (.goto 1514, 3) := dAt bdL_law_1916 25 rfl
theorem dL_law_1980 : decode cL_law 1980 = .ok (.aload_n 1, 1) := dAt bdL_law_1916 26 rfl
theorem dL_law_1981 : decode cL_law 1981 = .ok (.aload_n 0, 1) := dAt bdL_law_1916 27 rfl
theorem dL_law_1982 : decode cL_law 1982 = .ok (.iload 4, 2) := dAt bdL_law_1916 28 rfl
theorem dL_law_1984 : decode cL_law 1984 = .ok (.iconst 1, 1) := dAt bdL_law_1916 29 rfl
theorem dL_law_1985 : decode cL_law 1985 = .ok (.iadd, 1) := dAt bdL_law_1916 30 rfl
theorem dL_law_1986 : decode cL_law 1986 = .ok (.iaload, 1) := dAt bdL_law_1916 31 rfl
theorem dL_law_1987 : decode cL_law 1987 = .ok (.aload_n 3, 1) := dAt bdL_law_1916 32 rfl
theorem dL_law_1988 : decode cL_law 1988 = .ok (.invokestatic 304, 3) := dAt bdL_law_1916 33 rfl
theorem dL_law_1991 : decode cL_law 1991 = .ok (.istore 5, 2) := dAt bdL_law_1916 34 rfl
theorem dL_law_1993 : decode cL_law 1993 = .ok (.aload_n 2, 1) := dAt bdL_law_1916 35 rfl
theorem dL_law_1994 : decode cL_law 1994 = .ok (.aload_n 0, 1) := dAt bdL_law_1916 36 rfl
theorem dL_law_1995 : decode cL_law 1995 = .ok (.iload 4, 2) := dAt bdL_law_1916 37 rfl
theorem dL_law_1997 : decode cL_law 1997 = .ok (.iconst 1, 1) := dAt bdL_law_1916 38 rfl
theorem dL_law_1998 : decode cL_law 1998 = .ok (.iadd, 1) := dAt bdL_law_1916 39 rfl
theorem bdL_law_1999 : dAll cL_law [(1999, (.iaload, 1)), (2000, (.invokevirtual 306, 3)), (2003, (.istore 6, 2)), (2005, (.aload_n 2, 1)), (2006, (.invokevirtual 192, 3)), (2009, (.iload 5, 2)), (2011, (.if_icmp .eq 5, 3)), (2016, (.iload 5, 2)), (2018, (.ifCond .ne 15, 3)), (2033, (.goto 1458, 3)), (2036, (.aload_n 1, 1)), (2037, (.aload_n 0, 1)), (2038, (.iload 4, 2)), (2040, (.iconst 1, 1)), (2041, (.iadd, 1)), (2042, (.iaload, 1)), (2043, (.aload_n 3, 1)), (2044, (.invokestatic 307, 3)), (2047, (.istore 5, 2)), (2049, (.aload_n 2, 1)), (2050, (.aload_n 0, 1)), (2051, (.iload 4, 2)), (2053, (.iconst 1, 1)), (2054, (.iadd, 1)), (2055, (.iaload, 1)), (2056, (.invokevirtual 309, 3)), (2059, (.istore 6, 2)), (2061, (.aload_n 2, 1)), (2062, (.invokevirtual 192, 3)), (2065, (.iload 5, 2)), (2067, (.if_icmp .eq 5, 3)), (2072, (.iload 5, 2)), (2074, (.ifCond .ne 15, 3)), (2089, (.goto 1402, 3)), (2092, (.aload_n 1, 1)), (2093, (.aload_n 0, 1)), (2094, (.iload 4, 2)), (2096, (.iconst 1, 1)), (2097, (.iadd, 1)), (2098, (.iaload, 1))] = true := by decide +kernel
theorem dL_law_1999 : decode cL_law 1999 = .ok (.iaload, 1) := dAt bdL_law_1999 0 rfl
theorem dL_law_2000 : decode cL_law 2000 = .ok (.invokevirtual 306, 3) := dAt bdL_law_1999 1 rfl
theorem dL_law_2003 : decode cL_law 2003 = .ok (.istore 6, 2) := dAt bdL_law_1999 2 rfl
theorem dL_law_2005 : decode cL_law 2005 = .ok (.aload_n 2, 1) := dAt bdL_law_1999 3 rfl
theorem dL_law_2006 : decode cL_law 2006 = .ok (.invokevirtual 192, 3) := dAt bdL_law_1999 4 rfl
theorem dL_law_2009 : decode cL_law 2009 = .ok (.iload 5, 2) := dAt bdL_law_1999 5 rfl
theorem dL_law_2011 : decode cL_law 2011 = .ok (.if_icmp .eq 5, 3) := dAt bdL_law_1999 6 rfl
theorem dL_law_2016 : decode cL_law 2016 = .ok (.iload 5, 2) := dAt bdL_law_1999 7 rfl
theorem dL_law_2018 : decode cL_law 2018 = .ok (.ifCond .ne 15, 3) := dAt bdL_law_1999 8 rfl
theorem dL_law_2033 : decode cL_law 2033 = .ok (.goto 1458, 3) := dAt bdL_law_1999 9 rfl
theorem dL_law_2036 : decode cL_law 2036 = .ok (.aload_n 1, 1) := dAt bdL_law_1999 10 rfl
theorem dL_law_2037 : decode cL_law 2037 = .ok (.aload_n 0, 1) := dAt bdL_law_1999 11 rfl
theorem dL_law_2038 : decode cL_law 2038 = .ok (.iload 4, 2) := dAt bdL_law_1999 12 rfl
theorem dL_law_2040 : decode cL_law 2040 = .ok (.iconst 1, 1) := dAt bdL_law_1999 13 rfl
theorem dL_law_2041 : decode cL_law 2041 = .ok (.iadd, 1) := dAt bdL_law_1999 14 rfl
theorem dL_law_2042 : decode cL_law 2042 = .ok (.iaload, 1) := dAt bdL_law_1999 15 rfl
theorem dL_law_2043 : decode cL_law 2043 = .ok (.aload_n 3, 1) := dAt bdL_law_1999 16 rfl
theorem dL_law_2044 : decode cL_law 2044 = .ok (.invokestatic 307, 3) := dAt bdL_law_1999 17 rfl
theorem dL_law_2047 : decode cL_law 2047 = .ok (.istore 5, 2) := dAt bdL_law_1999 18 rfl
theorem dL_law_2049 : decode cL_law 2049 = .ok (.aload_n 2, 1) := dAt bdL_law_1999 19 rfl
theorem dL_law_2050 : decode cL_law 2050 = .ok (.aload_n 0, 1) := dAt bdL_law_1999 20 rfl
theorem dL_law_2051 : decode cL_law 2051 = .ok (.iload 4, 2) := dAt bdL_law_1999 21 rfl
theorem dL_law_2053 : decode cL_law 2053 = .ok (.iconst 1, 1) := dAt bdL_law_1999 22 rfl
theorem dL_law_2054 : decode cL_law 2054 = .ok (.iadd, 1) := dAt bdL_law_1999 23 rfl
theorem dL_law_2055 : decode cL_law 2055 = .ok (.iaload, 1) := dAt bdL_law_1999 24 rfl
theorem dL_law_2056 : decode cL_law 2056 = .ok (.invokevirtual 309, 3) := dAt bdL_law_1999 25 rfl
theorem dL_law_2059 : decode cL_law 2059 = .ok (.istore 6, 2) := dAt bdL_law_1999 26 rfl
theorem dL_law_2061 : decode cL_law 2061 = .ok (.aload_n 2, 1) := dAt bdL_law_1999 27 rfl
theorem dL_law_2062 : decode cL_law 2062 = .ok (.invokevirtual 192, 3) := dAt bdL_law_1999 28 rfl
theorem dL_law_2065 : decode cL_law 2065 = .ok (.iload 5, 2) := dAt bdL_law_1999 29 rfl
theorem dL_law_2067 : decode cL_law 2067 = .ok (.if_icmp .eq 5, 3) := dAt bdL_law_1999 30 rfl
theorem dL_law_2072 : decode cL_law 2072 = .ok (.iload 5, 2) := dAt bdL_law_1999 31 rfl
theorem dL_law_2074 : decode cL_law 2074 = .ok (.ifCond .ne 15, 3) := dAt bdL_law_1999 32 rfl
theorem dL_law_2089 : decode cL_law 2089 = .ok (.goto 1402, 3) := dAt bdL_law_1999 33 rfl
theorem dL_law_2092 : decode cL_law 2092 = .ok (.aload_n 1, 1) := dAt bdL_law_1999 34 rfl
theorem dL_law_2093 : decode cL_law 2093 = .ok (.aload_n 0, 1) := dAt bdL_law_1999 35 rfl
theorem dL_law_2094 : decode cL_law 2094 = .ok (.iload 4, 2) := dAt bdL_law_1999 36 rfl
theorem dL_law_2096 : decode cL_law 2096 = .ok (.iconst 1, 1) := dAt bdL_law_1999 37 rfl
theorem dL_law_2097 : decode cL_law 2097 = .ok (.iadd, 1) := dAt bdL_law_1999 38 rfl
theorem dL_law_2098 : decode cL_law 2098 = .ok (.iaload, 1) := dAt bdL_law_1999 39 rfl
theorem bdL_law_2099 : dAll cL_law [(2099, (.aload_n 0, 1)), (2100, (.iload 4, 2)), (2102, (.iconst 2, 1)), (2103, (.iadd, 1)), (2104, (.iaload, 1)), (2105, (.aload_n 3, 1)), (2106, (.invokestatic 310, 3)), (2109, (.istore 5, 2)), (2111, (.aload_n 2, 1)), (2112, (.aload_n 0, 1)), (2113, (.iload 4, 2)), (2115, (.iconst 1, 1)), (2116, (.iadd, 1)), (2117, (.iaload, 1)), (2118, (.aload_n 0, 1)), (2119, (.iload 4, 2)), (2121, (.iconst 2, 1)), (2122, (.iadd, 1)), (2123, (.iaload, 1)), (2124, (.invokevirtual 312, 3)), (2127, (.istore 6, 2)), (2129, (.aload_n 2, 1)), (2130, (.invokevirtual 192, 3)), (2133, (.iload 5, 2)), (2135, (.if_icmp .eq 5, 3)), (2140, (.iload 5, 2)), (2142, (.ifCond .ne 15, 3)), (2157, (.goto 1334, 3)), (2160, (.aload_n 1, 1)), (2161, (.aload_n 0, 1)), (2162, (.iload 4, 2)), (2164, (.iconst 1, 1)), (2165, (.iadd, 1)), (2166, (.iaload, 1)), (2167, (.aload_n 0, 1)), (2168, (.iload 4, 2)), (2170, (.iconst 2, 1)), (2171, (.iadd, 1)), (2172, (.iaload, 1)), (2173, (.aload_n 0, 1))] = true := by decide +kernel
theorem dL_law_2099 : decode cL_law 2099 = .ok (.aload_n 0, 1) := dAt bdL_law_2099 0 rfl
theorem dL_law_2100 : decode cL_law 2100 = .ok (.iload 4, 2) := dAt bdL_law_2099 1 rfl
theorem dL_law_2102 : decode cL_law 2102 = .ok (.iconst 2, 1) := dAt bdL_law_2099 2 rfl
theorem dL_law_2103 : decode cL_law 2103 = .ok (.iadd, 1) := dAt bdL_law_2099 3 rfl
theorem dL_law_2104 : decode cL_law 2104 = .ok (.iaload, 1) := dAt bdL_law_2099 4 rfl
theorem dL_law_2105 : decode cL_law 2105 = .ok (.aload_n 3, 1) := dAt bdL_law_2099 5 rfl
theorem dL_law_2106 : decode cL_law 2106 = .ok (.invokestatic 310, 3) := dAt bdL_law_2099 6 rfl
theorem dL_law_2109 : decode cL_law 2109 = .ok (.istore 5, 2) := dAt bdL_law_2099 7 rfl
theorem dL_law_2111 : decode cL_law 2111 = .ok (.aload_n 2, 1) := dAt bdL_law_2099 8 rfl
theorem dL_law_2112 : decode cL_law 2112 = .ok (.aload_n 0, 1) := dAt bdL_law_2099 9 rfl
theorem dL_law_2113 : decode cL_law 2113 = .ok (.iload 4, 2) := dAt bdL_law_2099 10 rfl
theorem dL_law_2115 : decode cL_law 2115 = .ok (.iconst 1, 1) := dAt bdL_law_2099 11 rfl
theorem dL_law_2116 : decode cL_law 2116 = .ok (.iadd, 1) := dAt bdL_law_2099 12 rfl
theorem dL_law_2117 : decode cL_law 2117 = .ok (.iaload, 1) := dAt bdL_law_2099 13 rfl
theorem dL_law_2118 : decode cL_law 2118 = .ok (.aload_n 0, 1) := dAt bdL_law_2099 14 rfl
theorem dL_law_2119 : decode cL_law 2119 = .ok (.iload 4, 2) := dAt bdL_law_2099 15 rfl
theorem dL_law_2121 : decode cL_law 2121 = .ok (.iconst 2, 1) := dAt bdL_law_2099 16 rfl
theorem dL_law_2122 : decode cL_law 2122 = .ok (.iadd, 1) := dAt bdL_law_2099 17 rfl
theorem dL_law_2123 : decode cL_law 2123 = .ok (.iaload, 1) := dAt bdL_law_2099 18 rfl
theorem dL_law_2124 : decode cL_law 2124 = .ok (.invokevirtual 312, 3) := dAt bdL_law_2099 19 rfl
theorem dL_law_2127 : decode cL_law 2127 = .ok (.istore 6, 2) := dAt bdL_law_2099 20 rfl
theorem dL_law_2129 : decode cL_law 2129 = .ok (.aload_n 2, 1) := dAt bdL_law_2099 21 rfl
theorem dL_law_2130 : decode cL_law 2130 = .ok (.invokevirtual 192, 3) := dAt bdL_law_2099 22 rfl
theorem dL_law_2133 : decode cL_law 2133 = .ok (.iload 5, 2) := dAt bdL_law_2099 23 rfl
theorem dL_law_2135 : decode cL_law 2135 = .ok (.if_icmp .eq 5, 3) := dAt bdL_law_2099 24 rfl
theorem dL_law_2140 : decode cL_law 2140 = .ok (.iload 5, 2) := dAt bdL_law_2099 25 rfl
theorem dL_law_2142 : decode cL_law 2142 = .ok (.ifCond .ne 15, 3) := dAt bdL_law_2099 26 rfl
theorem dL_law_2157 : decode cL_law 2157 = .ok (.goto 1334, 3) := dAt bdL_law_2099 27 rfl
theorem dL_law_2160 : decode cL_law 2160 = .ok (.aload_n 1, 1) := dAt bdL_law_2099 28 rfl
theorem dL_law_2161 : decode cL_law 2161 = .ok (.aload_n 0, 1) := dAt bdL_law_2099 29 rfl
theorem dL_law_2162 : decode cL_law 2162 = .ok (.iload 4, 2) := dAt bdL_law_2099 30 rfl
theorem dL_law_2164 : decode cL_law 2164 = .ok (.iconst 1, 1) := dAt bdL_law_2099 31 rfl
theorem dL_law_2165 : decode cL_law 2165 = .ok (.iadd, 1) := dAt bdL_law_2099 32 rfl
theorem dL_law_2166 : decode cL_law 2166 = .ok (.iaload, 1) := dAt bdL_law_2099 33 rfl
theorem dL_law_2167 : decode cL_law 2167 = .ok (.aload_n 0, 1) := dAt bdL_law_2099 34 rfl
theorem dL_law_2168 : decode cL_law 2168 = .ok (.iload 4, 2) := dAt bdL_law_2099 35 rfl
theorem dL_law_2170 : decode cL_law 2170 = .ok (.iconst 2, 1) := dAt bdL_law_2099 36 rfl
theorem dL_law_2171 : decode cL_law 2171 = .ok (.iadd, 1) := dAt bdL_law_2099 37 rfl
theorem dL_law_2172 : decode cL_law 2172 = .ok (.iaload, 1) := dAt bdL_law_2099 38 rfl
theorem dL_law_2173 : decode cL_law 2173 = .ok (.aload_n 0, 1) := dAt bdL_law_2099 39 rfl
theorem bdL_law_2174 : dAll cL_law [(2174, (.iload 4, 2)), (2176, (.iconst 3, 1)), (2177, (.iadd, 1)), (2178, (.iaload, 1)), (2179, (.ifCond .eq 7, 3)), (2182, (.iconst 1, 1)), (2183, (.goto 4, 3)), (2186, (.iconst 0, 1)), (2187, (.aload_n 3, 1)), (2188, (.invokestatic 313, 3)), (2191, (.istore 5, 2)), (2193, (.aload_n 2, 1)), (2194, (.aload_n 0, 1)), (2195, (.iload 4, 2)), (2197, (.iconst 1, 1)), (2198, (.iadd, 1)), (2199, (.iaload, 1)), (2200, (.aload_n 0, 1)), (2201, (.iload 4, 2)), (2203, (.iconst 2, 1)), (2204, (.iadd, 1)), (2205, (.iaload, 1)), (2206, (.aload_n 0, 1)), (2207, (.iload 4, 2)), (2209, (.iconst 3, 1)), (2210, (.iadd, 1)), (2211, (.iaload, 1)), (2212, (.ifCond .eq 7, 3)), (2215, (.iconst 1, 1)), (2216, (.goto 4, 3)), (2219, (.iconst 0, 1)), (2220, (.invokevirtual 316, 3)), (2223, (.istore 6, 2)), (2225, (.aload_n 2, 1)), (2226, (.invokevirtual 192, 3)), (2229, (.iload 5, 2)), (2231, (.if_icmp .eq 5, 3)), (2236, (.iload 5, 2)), (2238, (.ifCond .ne 15, 3)), (2253, (.goto 1238, 3))] = true := by decide +kernel
theorem dL_law_2174 : decode cL_law 2174 = .ok (.iload 4, 2) := dAt bdL_law_2174 0 rfl
theorem dL_law_2176 : decode cL_law 2176 = .ok (.iconst 3, 1) := dAt bdL_law_2174 1 rfl
theorem dL_law_2177 : decode cL_law 2177 = .ok (.iadd, 1) := dAt bdL_law_2174 2 rfl
theorem dL_law_2178 : decode cL_law 2178 = .ok (.iaload, 1) := dAt bdL_law_2174 3 rfl
theorem dL_law_2179 : decode cL_law 2179 = .ok (.ifCond .eq 7, 3) := dAt bdL_law_2174 4 rfl
theorem dL_law_2182 : decode cL_law 2182 = .ok (.iconst 1, 1) := dAt bdL_law_2174 5 rfl
theorem dL_law_2183 : decode cL_law 2183 = .ok (.goto 4, 3) := dAt bdL_law_2174 6 rfl
theorem dL_law_2186 : decode cL_law 2186 = .ok (.iconst 0, 1) := dAt bdL_law_2174 7 rfl
theorem dL_law_2187 : decode cL_law 2187 = .ok (.aload_n 3, 1) := dAt bdL_law_2174 8 rfl
theorem dL_law_2188 : decode cL_law 2188 = .ok (.invokestatic 313, 3) := dAt bdL_law_2174 9 rfl
theorem dL_law_2191 : decode cL_law 2191 = .ok (.istore 5, 2) := dAt bdL_law_2174 10 rfl
theorem dL_law_2193 : decode cL_law 2193 = .ok (.aload_n 2, 1) := dAt bdL_law_2174 11 rfl
theorem dL_law_2194 : decode cL_law 2194 = .ok (.aload_n 0, 1) := dAt bdL_law_2174 12 rfl
theorem dL_law_2195 : decode cL_law 2195 = .ok (.iload 4, 2) := dAt bdL_law_2174 13 rfl
theorem dL_law_2197 : decode cL_law 2197 = .ok (.iconst 1, 1) := dAt bdL_law_2174 14 rfl
theorem dL_law_2198 : decode cL_law 2198 = .ok (.iadd, 1) := dAt bdL_law_2174 15 rfl
theorem dL_law_2199 : decode cL_law 2199 = .ok (.iaload, 1) := dAt bdL_law_2174 16 rfl
theorem dL_law_2200 : decode cL_law 2200 = .ok (.aload_n 0, 1) := dAt bdL_law_2174 17 rfl
theorem dL_law_2201 : decode cL_law 2201 = .ok (.iload 4, 2) := dAt bdL_law_2174 18 rfl
theorem dL_law_2203 : decode cL_law 2203 = .ok (.iconst 2, 1) := dAt bdL_law_2174 19 rfl
theorem dL_law_2204 : decode cL_law 2204 = .ok (.iadd, 1) := dAt bdL_law_2174 20 rfl
theorem dL_law_2205 : decode cL_law 2205 = .ok (.iaload, 1) := dAt bdL_law_2174 21 rfl
theorem dL_law_2206 : decode cL_law 2206 = .ok (.aload_n 0, 1) := dAt bdL_law_2174 22 rfl
theorem dL_law_2207 : decode cL_law 2207 = .ok (.iload 4, 2) := dAt bdL_law_2174 23 rfl
theorem dL_law_2209 : decode cL_law 2209 = .ok (.iconst 3, 1) := dAt bdL_law_2174 24 rfl
theorem dL_law_2210 : decode cL_law 2210 = .ok (.iadd, 1) := dAt bdL_law_2174 25 rfl
theorem dL_law_2211 : decode cL_law 2211 = .ok (.iaload, 1) := dAt bdL_law_2174 26 rfl
theorem dL_law_2212 : decode cL_law 2212 = .ok (.ifCond .eq 7, 3) := dAt bdL_law_2174 27 rfl
theorem dL_law_2215 : decode cL_law 2215 = .ok (.iconst 1, 1) := dAt bdL_law_2174 28 rfl
theorem dL_law_2216 : decode cL_law 2216 = .ok (.goto 4, 3) := dAt bdL_law_2174 29 rfl
theorem dL_law_2219 : decode cL_law 2219 = .ok (.iconst 0, 1) := dAt bdL_law_2174 30 rfl
theorem dL_law_2220 : decode cL_law 2220 = .ok (.invokevirtual 316, 3) := dAt bdL_law_2174 31 rfl
theorem dL_law_2223 : decode cL_law 2223 = .ok (.istore 6, 2) := dAt bdL_law_2174 32 rfl
theorem dL_law_2225 : decode cL_law 2225 = .ok (.aload_n 2, 1) := dAt bdL_law_2174 33 rfl
theorem dL_law_2226 : decode cL_law 2226 = .ok (.invokevirtual 192, 3) := dAt bdL_law_2174 34 rfl
theorem dL_law_2229 : decode cL_law 2229 = .ok (.iload 5, 2) := dAt bdL_law_2174 35 rfl
theorem dL_law_2231 : decode cL_law 2231 = .ok (.if_icmp .eq 5, 3) := dAt bdL_law_2174 36 rfl
theorem dL_law_2236 : decode cL_law 2236 = .ok (.iload 5, 2) := dAt bdL_law_2174 37 rfl
theorem dL_law_2238 : decode cL_law 2238 = .ok (.ifCond .ne 15, 3) := dAt bdL_law_2174 38 rfl
theorem dL_law_2253 : decode cL_law 2253 = .ok (.goto 1238, 3) := dAt bdL_law_2174 39 rfl
