/-! ===== the law, calls 46 to 58 ===== -/
theorem d_law_1649 : decode code 1649 = .ok (.aload_n 1, 1) := by decide +kernel
theorem d_law_1650 : decode code 1650 = .ok (.aload_n 0, 1) := by decide +kernel
theorem d_law_1651 : decode code 1651 = .ok (.iload_n 3, 1) := by decide +kernel
theorem d_law_1652 : decode code 1652 = .ok (.iconst 1, 1) := by decide +kernel
theorem d_law_1653 : decode code 1653 = .ok (.iadd, 1) := by decide +kernel
theorem d_law_1654 : decode code 1654 = .ok (.iaload, 1) := by decide +kernel
theorem d_law_1655 : decode code 1655 = .ok (.invokevirtual 212, 3) := by decide +kernel
theorem d_law_1658 : decode code 1658 = .ok (.aload_n 2, 1) := by decide +kernel
theorem d_law_1659 : decode code 1659 = .ok (.aload_n 0, 1) := by decide +kernel
theorem d_law_1660 : decode code 1660 = .ok (.iload_n 3, 1) := by decide +kernel
theorem d_law_1661 : decode code 1661 = .ok (.iconst 1, 1) := by decide +kernel
theorem d_law_1662 : decode code 1662 = .ok (.iadd, 1) := by decide +kernel
theorem d_law_1663 : decode code 1663 = .ok (.iaload, 1) := by decide +kernel
theorem d_law_1664 : decode code 1664 = .ok (.invokevirtual 215, 3) := by decide +kernel
theorem d_law_1667 : decode code 1667 = .ok (.if_icmp .eq 251, 3) := by decide +kernel
theorem d_law_1670 : decode code 1670 = .ok (.iconst 0, 1) := by decide +kernel
theorem d_law_1671 : decode code 1671 = .ok (.ireturn, 1) := by decide +kernel
theorem d_law_1672 : decode code 1672 = .ok (.aload_n 1, 1) := by decide +kernel
theorem d_law_1673 : decode code 1673 = .ok (.aload_n 0, 1) := by decide +kernel
theorem d_law_1674 : decode code 1674 = .ok (.iload_n 3, 1) := by decide +kernel
theorem d_law_1675 : decode code 1675 = .ok (.iconst 1, 1) := by decide +kernel
theorem d_law_1676 : decode code 1676 = .ok (.iadd, 1) := by decide +kernel
theorem d_law_1677 : decode code 1677 = .ok (.iaload, 1) := by decide +kernel
theorem d_law_1678 : decode code 1678 = .ok (.invokevirtual 216, 3) := by decide +kernel
theorem d_law_1681 : decode code 1681 = .ok (.aload_n 2, 1) := by decide +kernel
theorem d_law_1682 : decode code 1682 = .ok (.aload_n 0, 1) := by decide +kernel
theorem d_law_1683 : decode code 1683 = .ok (.iload_n 3, 1) := by decide +kernel
theorem d_law_1684 : decode code 1684 = .ok (.iconst 1, 1) := by decide +kernel
theorem d_law_1685 : decode code 1685 = .ok (.iadd, 1) := by decide +kernel
theorem d_law_1686 : decode code 1686 = .ok (.iaload, 1) := by decide +kernel
theorem d_law_1687 : decode code 1687 = .ok (.invokevirtual 219, 3) := by decide +kernel
theorem d_law_1690 : decode code 1690 = .ok (.if_icmp .eq 228, 3) := by decide +kernel
theorem d_law_1693 : decode code 1693 = .ok (.iconst 0, 1) := by decide +kernel
theorem d_law_1694 : decode code 1694 = .ok (.ireturn, 1) := by decide +kernel
theorem d_law_1695 : decode code 1695 = .ok (.aload_n 1, 1) := by decide +kernel
theorem d_law_1696 : decode code 1696 = .ok (.aload_n 0, 1) := by decide +kernel
theorem d_law_1697 : decode code 1697 = .ok (.iload_n 3, 1) := by decide +kernel
theorem d_law_1698 : decode code 1698 = .ok (.iconst 1, 1) := by decide +kernel
theorem d_law_1699 : decode code 1699 = .ok (.iadd, 1) := by decide +kernel
theorem d_law_1700 : decode code 1700 = .ok (.iaload, 1) := by decide +kernel
theorem d_law_1701 : decode code 1701 = .ok (.invokevirtual 220, 3) := by decide +kernel
theorem d_law_1704 : decode code 1704 = .ok (.aload_n 2, 1) := by decide +kernel
theorem d_law_1705 : decode code 1705 = .ok (.aload_n 0, 1) := by decide +kernel
theorem d_law_1706 : decode code 1706 = .ok (.iload_n 3, 1) := by decide +kernel
theorem d_law_1707 : decode code 1707 = .ok (.iconst 1, 1) := by decide +kernel
theorem d_law_1708 : decode code 1708 = .ok (.iadd, 1) := by decide +kernel
theorem d_law_1709 : decode code 1709 = .ok (.iaload, 1) := by decide +kernel
theorem d_law_1710 : decode code 1710 = .ok (.invokevirtual 223, 3) := by decide +kernel
theorem d_law_1713 : decode code 1713 = .ok (.if_icmp .eq 205, 3) := by decide +kernel
theorem d_law_1716 : decode code 1716 = .ok (.iconst 0, 1) := by decide +kernel
theorem d_law_1717 : decode code 1717 = .ok (.ireturn, 1) := by decide +kernel
theorem d_law_1718 : decode code 1718 = .ok (.aload_n 1, 1) := by decide +kernel
theorem d_law_1719 : decode code 1719 = .ok (.aload_n 0, 1) := by decide +kernel
theorem d_law_1720 : decode code 1720 = .ok (.iload_n 3, 1) := by decide +kernel
theorem d_law_1721 : decode code 1721 = .ok (.iconst 1, 1) := by decide +kernel
theorem d_law_1722 : decode code 1722 = .ok (.iadd, 1) := by decide +kernel
theorem d_law_1723 : decode code 1723 = .ok (.iaload, 1) := by decide +kernel
theorem d_law_1724 : decode code 1724 = .ok (.invokevirtual 224, 3) := by decide +kernel
theorem d_law_1727 : decode code 1727 = .ok (.aload_n 2, 1) := by decide +kernel
theorem d_law_1728 : decode code 1728 = .ok (.aload_n 0, 1) := by decide +kernel
theorem d_law_1729 : decode code 1729 = .ok (.iload_n 3, 1) := by decide +kernel
theorem d_law_1730 : decode code 1730 = .ok (.iconst 1, 1) := by decide +kernel
theorem d_law_1731 : decode code 1731 = .ok (.iadd, 1) := by decide +kernel
theorem d_law_1732 : decode code 1732 = .ok (.iaload, 1) := by decide +kernel
theorem d_law_1733 : decode code 1733 = .ok (.invokevirtual 227, 3) := by decide +kernel
theorem d_law_1736 : decode code 1736 = .ok (.if_icmp .eq 182, 3) := by decide +kernel
theorem d_law_1739 : decode code 1739 = .ok (.iconst 0, 1) := by decide +kernel
theorem d_law_1740 : decode code 1740 = .ok (.ireturn, 1) := by decide +kernel
theorem d_law_1741 : decode code 1741 = .ok (.aload_n 1, 1) := by decide +kernel
theorem d_law_1742 : decode code 1742 = .ok (.invokevirtual 228, 3) := by decide +kernel
theorem d_law_1745 : decode code 1745 = .ok (.aload_n 2, 1) := by decide +kernel
theorem d_law_1746 : decode code 1746 = .ok (.invokevirtual 231, 3) := by decide +kernel
theorem d_law_1749 : decode code 1749 = .ok (.if_icmp .eq 169, 3) := by decide +kernel
theorem d_law_1752 : decode code 1752 = .ok (.iconst 0, 1) := by decide +kernel
theorem d_law_1753 : decode code 1753 = .ok (.ireturn, 1) := by decide +kernel
theorem d_law_1754 : decode code 1754 = .ok (.aload_n 1, 1) := by decide +kernel
theorem d_law_1755 : decode code 1755 = .ok (.aload_n 0, 1) := by decide +kernel
theorem d_law_1756 : decode code 1756 = .ok (.iload_n 3, 1) := by decide +kernel
theorem d_law_1757 : decode code 1757 = .ok (.iconst 1, 1) := by decide +kernel
theorem d_law_1758 : decode code 1758 = .ok (.iadd, 1) := by decide +kernel
theorem d_law_1759 : decode code 1759 = .ok (.iaload, 1) := by decide +kernel
theorem d_law_1760 : decode code 1760 = .ok (.invokevirtual 232, 3) := by decide +kernel
theorem d_law_1763 : decode code 1763 = .ok (.aload_n 2, 1) := by decide +kernel
theorem d_law_1764 : decode code 1764 = .ok (.aload_n 0, 1) := by decide +kernel
theorem d_law_1765 : decode code 1765 = .ok (.iload_n 3, 1) := by decide +kernel
theorem d_law_1766 : decode code 1766 = .ok (.iconst 1, 1) := by decide +kernel
theorem d_law_1767 : decode code 1767 = .ok (.iadd, 1) := by decide +kernel
theorem d_law_1768 : decode code 1768 = .ok (.iaload, 1) := by decide +kernel
theorem d_law_1769 : decode code 1769 = .ok (.invokevirtual 235, 3) := by decide +kernel
theorem d_law_1772 : decode code 1772 = .ok (.if_icmp .eq 146, 3) := by decide +kernel
theorem d_law_1775 : decode code 1775 = .ok (.iconst 0, 1) := by decide +kernel
theorem d_law_1776 : decode code 1776 = .ok (.ireturn, 1) := by decide +kernel
theorem d_law_1777 : decode code 1777 = .ok (.aload_n 1, 1) := by decide +kernel
theorem d_law_1778 : decode code 1778 = .ok (.aload_n 0, 1) := by decide +kernel
theorem d_law_1779 : decode code 1779 = .ok (.iload_n 3, 1) := by decide +kernel
theorem d_law_1780 : decode code 1780 = .ok (.iconst 1, 1) := by decide +kernel
theorem d_law_1781 : decode code 1781 = .ok (.iadd, 1) := by decide +kernel
theorem d_law_1782 : decode code 1782 = .ok (.iaload, 1) := by decide +kernel
theorem d_law_1783 : decode code 1783 = .ok (.invokevirtual 236, 3) := by decide +kernel
theorem d_law_1786 : decode code 1786 = .ok (.aload_n 2, 1) := by decide +kernel
theorem d_law_1787 : decode code 1787 = .ok (.aload_n 0, 1) := by decide +kernel
theorem d_law_1788 : decode code 1788 = .ok (.iload_n 3, 1) := by decide +kernel
theorem d_law_1789 : decode code 1789 = .ok (.iconst 1, 1) := by decide +kernel
theorem d_law_1790 : decode code 1790 = .ok (.iadd, 1) := by decide +kernel
theorem d_law_1791 : decode code 1791 = .ok (.iaload, 1) := by decide +kernel
theorem d_law_1792 : decode code 1792 = .ok (.invokevirtual 239, 3) := by decide +kernel
theorem d_law_1795 : decode code 1795 = .ok (.if_icmp .eq 123, 3) := by decide +kernel
theorem d_law_1798 : decode code 1798 = .ok (.iconst 0, 1) := by decide +kernel
theorem d_law_1799 : decode code 1799 = .ok (.ireturn, 1) := by decide +kernel
theorem d_law_1800 : decode code 1800 = .ok (.aload_n 1, 1) := by decide +kernel
theorem d_law_1801 : decode code 1801 = .ok (.invokevirtual 240, 3) := by decide +kernel
theorem d_law_1804 : decode code 1804 = .ok (.aload_n 2, 1) := by decide +kernel
theorem d_law_1805 : decode code 1805 = .ok (.invokevirtual 243, 3) := by decide +kernel
theorem d_law_1808 : decode code 1808 = .ok (.if_icmp .eq 110, 3) := by decide +kernel
theorem d_law_1811 : decode code 1811 = .ok (.iconst 0, 1) := by decide +kernel
theorem d_law_1812 : decode code 1812 = .ok (.ireturn, 1) := by decide +kernel
theorem d_law_1813 : decode code 1813 = .ok (.aload_n 1, 1) := by decide +kernel
theorem d_law_1814 : decode code 1814 = .ok (.aload_n 0, 1) := by decide +kernel
theorem d_law_1815 : decode code 1815 = .ok (.iload_n 3, 1) := by decide +kernel
theorem d_law_1816 : decode code 1816 = .ok (.iconst 1, 1) := by decide +kernel
theorem d_law_1817 : decode code 1817 = .ok (.iadd, 1) := by decide +kernel
theorem d_law_1818 : decode code 1818 = .ok (.iaload, 1) := by decide +kernel
theorem d_law_1819 : decode code 1819 = .ok (.invokevirtual 244, 3) := by decide +kernel
theorem d_law_1822 : decode code 1822 = .ok (.aload_n 2, 1) := by decide +kernel
theorem d_law_1823 : decode code 1823 = .ok (.aload_n 0, 1) := by decide +kernel
theorem d_law_1824 : decode code 1824 = .ok (.iload_n 3, 1) := by decide +kernel
theorem d_law_1825 : decode code 1825 = .ok (.iconst 1, 1) := by decide +kernel
theorem d_law_1826 : decode code 1826 = .ok (.iadd, 1) := by decide +kernel
theorem d_law_1827 : decode code 1827 = .ok (.iaload, 1) := by decide +kernel
theorem d_law_1828 : decode code 1828 = .ok (.invokevirtual 247, 3) := by decide +kernel
theorem d_law_1831 : decode code 1831 = .ok (.if_icmp .eq 87, 3) := by decide +kernel
theorem d_law_1834 : decode code 1834 = .ok (.iconst 0, 1) := by decide +kernel
theorem d_law_1835 : decode code 1835 = .ok (.ireturn, 1) := by decide +kernel
theorem d_law_1836 : decode code 1836 = .ok (.aload_n 1, 1) := by decide +kernel
theorem d_law_1837 : decode code 1837 = .ok (.aload_n 0, 1) := by decide +kernel
theorem d_law_1838 : decode code 1838 = .ok (.iload_n 3, 1) := by decide +kernel
theorem d_law_1839 : decode code 1839 = .ok (.iconst 1, 1) := by decide +kernel
theorem d_law_1840 : decode code 1840 = .ok (.iadd, 1) := by decide +kernel
theorem d_law_1841 : decode code 1841 = .ok (.iaload, 1) := by decide +kernel
theorem d_law_1842 : decode code 1842 = .ok (.invokevirtual 248, 3) := by decide +kernel
theorem d_law_1845 : decode code 1845 = .ok (.aload_n 2, 1) := by decide +kernel
theorem d_law_1846 : decode code 1846 = .ok (.aload_n 0, 1) := by decide +kernel
theorem d_law_1847 : decode code 1847 = .ok (.iload_n 3, 1) := by decide +kernel
theorem d_law_1848 : decode code 1848 = .ok (.iconst 1, 1) := by decide +kernel
theorem d_law_1849 : decode code 1849 = .ok (.iadd, 1) := by decide +kernel
theorem d_law_1850 : decode code 1850 = .ok (.iaload, 1) := by decide +kernel
theorem d_law_1851 : decode code 1851 = .ok (.invokevirtual 251, 3) := by decide +kernel
theorem d_law_1854 : decode code 1854 = .ok (.if_icmp .eq 64, 3) := by decide +kernel
theorem d_law_1857 : decode code 1857 = .ok (.iconst 0, 1) := by decide +kernel
theorem d_law_1858 : decode code 1858 = .ok (.ireturn, 1) := by decide +kernel
theorem d_law_1859 : decode code 1859 = .ok (.aload_n 1, 1) := by decide +kernel
theorem d_law_1860 : decode code 1860 = .ok (.aload_n 0, 1) := by decide +kernel
theorem d_law_1861 : decode code 1861 = .ok (.iload_n 3, 1) := by decide +kernel
theorem d_law_1862 : decode code 1862 = .ok (.iconst 1, 1) := by decide +kernel
theorem d_law_1863 : decode code 1863 = .ok (.iadd, 1) := by decide +kernel
theorem d_law_1864 : decode code 1864 = .ok (.iaload, 1) := by decide +kernel
theorem d_law_1865 : decode code 1865 = .ok (.aload_n 0, 1) := by decide +kernel
theorem d_law_1866 : decode code 1866 = .ok (.iload_n 3, 1) := by decide +kernel
theorem d_law_1867 : decode code 1867 = .ok (.iconst 2, 1) := by decide +kernel
theorem d_law_1868 : decode code 1868 = .ok (.iadd, 1) := by decide +kernel
theorem d_law_1869 : decode code 1869 = .ok (.iaload, 1) := by decide +kernel
theorem d_law_1870 : decode code 1870 = .ok (.invokevirtual 252, 3) := by decide +kernel
theorem d_law_1873 : decode code 1873 = .ok (.aload_n 2, 1) := by decide +kernel
theorem d_law_1874 : decode code 1874 = .ok (.aload_n 0, 1) := by decide +kernel
theorem d_law_1875 : decode code 1875 = .ok (.iload_n 3, 1) := by decide +kernel
theorem d_law_1876 : decode code 1876 = .ok (.iconst 1, 1) := by decide +kernel
theorem d_law_1877 : decode code 1877 = .ok (.iadd, 1) := by decide +kernel
theorem d_law_1878 : decode code 1878 = .ok (.iaload, 1) := by decide +kernel
theorem d_law_1879 : decode code 1879 = .ok (.aload_n 0, 1) := by decide +kernel
theorem d_law_1880 : decode code 1880 = .ok (.iload_n 3, 1) := by decide +kernel
theorem d_law_1881 : decode code 1881 = .ok (.iconst 2, 1) := by decide +kernel
theorem d_law_1882 : decode code 1882 = .ok (.iadd, 1) := by decide +kernel
theorem d_law_1883 : decode code 1883 = .ok (.iaload, 1) := by decide +kernel
theorem d_law_1884 : decode code 1884 = .ok (.invokevirtual 255, 3) := by decide +kernel
theorem d_law_1887 : decode code 1887 = .ok (.if_icmp .eq 31, 3) := by decide +kernel
theorem d_law_1890 : decode code 1890 = .ok (.iconst 0, 1) := by decide +kernel
theorem d_law_1891 : decode code 1891 = .ok (.ireturn, 1) := by decide +kernel
theorem d_law_1892 : decode code 1892 = .ok (.aload_n 1, 1) := by decide +kernel
theorem d_law_1893 : decode code 1893 = .ok (.invokevirtual 256, 3) := by decide +kernel
theorem d_law_1896 : decode code 1896 = .ok (.aload_n 2, 1) := by decide +kernel
theorem d_law_1897 : decode code 1897 = .ok (.invokevirtual 259, 3) := by decide +kernel
theorem d_law_1900 : decode code 1900 = .ok (.if_icmp .eq 18, 3) := by decide +kernel
theorem d_law_1903 : decode code 1903 = .ok (.iconst 0, 1) := by decide +kernel
theorem d_law_1904 : decode code 1904 = .ok (.ireturn, 1) := by decide +kernel
theorem d_law_1905 : decode code 1905 = .ok (.aload_n 1, 1) := by decide +kernel
theorem d_law_1906 : decode code 1906 = .ok (.invokevirtual 260, 3) := by decide +kernel
theorem d_law_1909 : decode code 1909 = .ok (.aload_n 2, 1) := by decide +kernel
theorem d_law_1910 : decode code 1910 = .ok (.invokevirtual 263, 3) := by decide +kernel
theorem d_law_1913 : decode code 1913 = .ok (.if_icmp .eq 5, 3) := by decide +kernel
theorem d_law_1916 : decode code 1916 = .ok (.iconst 0, 1) := by decide +kernel
theorem d_law_1917 : decode code 1917 = .ok (.ireturn, 1) := by decide +kernel
section LAWC
variable {p : Program} {l : Launch} {e : Env} {s : State} {m : MethodId} {below : List Frame} {meth : Method} {c : Code} {b L : Nat} {xs : Nat → Int32} {G : Gm} {aP : Nat}
theorem law_46 (C : LCx p s m meth c b L xs G aP) (hL : L ≤ 3072) {i : Nat} (hi : i + 6 ≤ L) {hc hm : Hp} (J : JJ (pY G aP) (mY G (aP + 184)) hc aP hm (aP + 184) kw0) (nx : ∀ hc hm, JJ (pY G aP) (mY G (aP + 184)) hc aP hm (aP + 184) kw0 → LW p l e s m below meth c b G aP 1918 (lvL b aP i) [] hc hm) : LW p l e s m below meth c b G aP 1649 (lvL b aP i) [] hc hm := by
  obtain ⟨v, hc1, hm1, e1, e2, J1⟩ := so_liarSet J (xs (i + 1))
  refine lw_aload C (pc := 1649) (q := 2) d_law_1649 rfl rfl ?_
  refine lw_cell C (i := i) (k := 1) (pc := 1650) hL hi (by decide) d_law_1650 d_law_1651 d_law_1652 (by decide) d_law_1653 d_law_1654 ?_
  refine lw_callC C (pc := 1655) (K' := K_LP_liarSet) (n' := 5) (As := [.int (xs (i + 1))]) (st := []) okV_LP_liarSet rfl (ok_LP_liarSet (pY G aP) aP (xs (i + 1)) hc (oP G aP)) e1 w6_66 d_law_1655 rfl (by decide) rfl (Nat.le_of_ble_eq_true rfl) ?_
  show LW p l e s m below meth c b G aP 1658 (lvL b aP i) [.int v] hc1 hm
  refine lw_aload C (pc := 1658) (q := 3) d_law_1658 rfl rfl ?_
  refine lw_cell C (i := i) (k := 1) (pc := 1659) hL hi (by decide) d_law_1659 d_law_1660 d_law_1661 (by decide) d_law_1662 d_law_1663 ?_
  refine lw_callM C (pc := 1664) (K' := K_M_liarSet) (n' := 4) (As := [.int (xs (i + 1))]) (st := [.int v]) okV_M_liarSet rfl (ok_M_liarSet (mY G (aP + 184)) (aP + 184) (xs (i + 1)) hm (M_isO G (aP + 184))) e2 w10_59 d_law_1664 rfl (by decide) rfl (Nat.le_of_ble_eq_true rfl) ?_
  show LW p l e s m below meth c b G aP 1667 (lvL b aP i) [.int v, .int v] hc1 hm1
  exact lw_icmp_eq C (pc := 1667) (tgt := 1918) d_law_1667 (by decide) (nx _ _ J1)
theorem law_47 (C : LCx p s m meth c b L xs G aP) (hL : L ≤ 3072) {i : Nat} (hi : i + 6 ≤ L) {hc hm : Hp} (J : JJ (pY G aP) (mY G (aP + 184)) hc aP hm (aP + 184) kw0) (nx : ∀ hc hm, JJ (pY G aP) (mY G (aP + 184)) hc aP hm (aP + 184) kw0 → LW p l e s m below meth c b G aP 1918 (lvL b aP i) [] hc hm) : LW p l e s m below meth c b G aP 1672 (lvL b aP i) [] hc hm := by
  obtain ⟨v, hc1, hm1, e1, e2, J1⟩ := so_known J (xs (i + 1))
  refine lw_aload C (pc := 1672) (q := 2) d_law_1672 rfl rfl ?_
  refine lw_cell C (i := i) (k := 1) (pc := 1673) hL hi (by decide) d_law_1673 d_law_1674 d_law_1675 (by decide) d_law_1676 d_law_1677 ?_
  refine lw_callC C (pc := 1678) (K' := K_LP_known) (n' := 3) (As := [.int (xs (i + 1))]) (st := []) okV_LP_known rfl (ok_LP_known (pY G aP) aP (xs (i + 1)) hc (oP G aP)) e1 w6_70 d_law_1678 rfl (by decide) rfl (Nat.le_of_ble_eq_true rfl) ?_
  show LW p l e s m below meth c b G aP 1681 (lvL b aP i) [.int v] hc1 hm
  refine lw_aload C (pc := 1681) (q := 3) d_law_1681 rfl rfl ?_
  refine lw_cell C (i := i) (k := 1) (pc := 1682) hL hi (by decide) d_law_1682 d_law_1683 d_law_1684 (by decide) d_law_1685 d_law_1686 ?_
  refine lw_callM C (pc := 1687) (K' := K_M_known) (n' := 2) (As := [.int (xs (i + 1))]) (st := [.int v]) okV_M_known rfl (ok_M_known (mY G (aP + 184)) (aP + 184) (xs (i + 1)) hm (M_isO G (aP + 184))) e2 w10_63 d_law_1687 rfl (by decide) rfl (Nat.le_of_ble_eq_true rfl) ?_
  show LW p l e s m below meth c b G aP 1690 (lvL b aP i) [.int v, .int v] hc1 hm1
  exact lw_icmp_eq C (pc := 1690) (tgt := 1918) d_law_1690 (by decide) (nx _ _ J1)
theorem law_48 (C : LCx p s m meth c b L xs G aP) (hL : L ≤ 3072) {i : Nat} (hi : i + 6 ≤ L) {hc hm : Hp} (J : JJ (pY G aP) (mY G (aP + 184)) hc aP hm (aP + 184) kw0) (nx : ∀ hc hm, JJ (pY G aP) (mY G (aP + 184)) hc aP hm (aP + 184) kw0 → LW p l e s m below meth c b G aP 1918 (lvL b aP i) [] hc hm) : LW p l e s m below meth c b G aP 1695 (lvL b aP i) [] hc hm := by
  obtain ⟨v, hc1, hm1, e1, e2, J1⟩ := so_buy J (xs (i + 1))
  refine lw_aload C (pc := 1695) (q := 2) d_law_1695 rfl rfl ?_
  refine lw_cell C (i := i) (k := 1) (pc := 1696) hL hi (by decide) d_law_1696 d_law_1697 d_law_1698 (by decide) d_law_1699 d_law_1700 ?_
  refine lw_callC C (pc := 1701) (K' := K_LP_buy) (n' := 5) (As := [.int (xs (i + 1))]) (st := []) okV_LP_buy rfl (ok_LP_buy (pY G aP) aP (xs (i + 1)) hc (oP G aP)) e1 w6_83 d_law_1701 rfl (by decide) rfl (Nat.le_of_ble_eq_true rfl) ?_
  show LW p l e s m below meth c b G aP 1704 (lvL b aP i) [.int v] hc1 hm
  refine lw_aload C (pc := 1704) (q := 3) d_law_1704 rfl rfl ?_
  refine lw_cell C (i := i) (k := 1) (pc := 1705) hL hi (by decide) d_law_1705 d_law_1706 d_law_1707 (by decide) d_law_1708 d_law_1709 ?_
  refine lw_callM C (pc := 1710) (K' := K_M_buy) (n' := 4) (As := [.int (xs (i + 1))]) (st := [.int v]) okV_M_buy rfl (ok_M_buy (mY G (aP + 184)) (aP + 184) (xs (i + 1)) hm (M_isO G (aP + 184))) e2 w10_75 d_law_1710 rfl (by decide) rfl (Nat.le_of_ble_eq_true rfl) ?_
  show LW p l e s m below meth c b G aP 1713 (lvL b aP i) [.int v, .int v] hc1 hm1
  exact lw_icmp_eq C (pc := 1713) (tgt := 1918) d_law_1713 (by decide) (nx _ _ J1)
theorem law_49 (C : LCx p s m meth c b L xs G aP) (hL : L ≤ 3072) {i : Nat} (hi : i + 6 ≤ L) {hc hm : Hp} (J : JJ (pY G aP) (mY G (aP + 184)) hc aP hm (aP + 184) kw0) (nx : ∀ hc hm, JJ (pY G aP) (mY G (aP + 184)) hc aP hm (aP + 184) kw0 → LW p l e s m below meth c b G aP 1918 (lvL b aP i) [] hc hm) : LW p l e s m below meth c b G aP 1718 (lvL b aP i) [] hc hm := by
  obtain ⟨v, hc1, hm1, e1, e2, J1⟩ := so_buySet J (xs (i + 1))
  refine lw_aload C (pc := 1718) (q := 2) d_law_1718 rfl rfl ?_
  refine lw_cell C (i := i) (k := 1) (pc := 1719) hL hi (by decide) d_law_1719 d_law_1720 d_law_1721 (by decide) d_law_1722 d_law_1723 ?_
  refine lw_callC C (pc := 1724) (K' := K_LP_buySet) (n' := 5) (As := [.int (xs (i + 1))]) (st := []) okV_LP_buySet rfl (ok_LP_buySet (pY G aP) aP (xs (i + 1)) hc (oP G aP)) e1 w6_107 d_law_1724 rfl (by decide) rfl (Nat.le_of_ble_eq_true rfl) ?_
  show LW p l e s m below meth c b G aP 1727 (lvL b aP i) [.int v] hc1 hm
  refine lw_aload C (pc := 1727) (q := 3) d_law_1727 rfl rfl ?_
  refine lw_cell C (i := i) (k := 1) (pc := 1728) hL hi (by decide) d_law_1728 d_law_1729 d_law_1730 (by decide) d_law_1731 d_law_1732 ?_
  refine lw_callM C (pc := 1733) (K' := K_M_buySet) (n' := 4) (As := [.int (xs (i + 1))]) (st := [.int v]) okV_M_buySet rfl (ok_M_buySet (mY G (aP + 184)) (aP + 184) (xs (i + 1)) hm (M_isO G (aP + 184))) e2 w10_92 d_law_1733 rfl (by decide) rfl (Nat.le_of_ble_eq_true rfl) ?_
  show LW p l e s m below meth c b G aP 1736 (lvL b aP i) [.int v, .int v] hc1 hm1
  exact lw_icmp_eq C (pc := 1736) (tgt := 1918) d_law_1736 (by decide) (nx _ _ J1)
theorem law_50 (C : LCx p s m meth c b L xs G aP) (hL : L ≤ 3072) {i : Nat} (hi : i + 6 ≤ L) {hc hm : Hp} (J : JJ (pY G aP) (mY G (aP + 184)) hc aP hm (aP + 184) kw0) (nx : ∀ hc hm, JJ (pY G aP) (mY G (aP + 184)) hc aP hm (aP + 184) kw0 → LW p l e s m below meth c b G aP 1918 (lvL b aP i) [] hc hm) : LW p l e s m below meth c b G aP 1741 (lvL b aP i) [] hc hm := by
  obtain ⟨v, hc1, hm1, e1, e2, J1⟩ := so_cheapest J 
  refine lw_aload C (pc := 1741) (q := 2) d_law_1741 rfl rfl ?_
  refine lw_callC C (pc := 1742) (K' := K_LP_cheapest) (n' := 4) (As := []) (st := []) okV_LP_cheapest rfl (ok_LP_cheapest (pY G aP) aP hc (oP G aP)) e1 w6_111 d_law_1742 rfl (by decide) rfl (Nat.le_of_ble_eq_true rfl) ?_
  show LW p l e s m below meth c b G aP 1745 (lvL b aP i) [.int v] hc1 hm
  refine lw_aload C (pc := 1745) (q := 3) d_law_1745 rfl rfl ?_
  refine lw_callM C (pc := 1746) (K' := K_M_cheapest) (n' := 2) (As := []) (st := [.int v]) okV_M_cheapest rfl (ok_M_cheapest (mY G (aP + 184)) (aP + 184) hm (M_isO G (aP + 184))) e2 w10_96 d_law_1746 rfl (by decide) rfl (Nat.le_of_ble_eq_true rfl) ?_
  show LW p l e s m below meth c b G aP 1749 (lvL b aP i) [.int v, .int v] hc1 hm1
  exact lw_icmp_eq C (pc := 1749) (tgt := 1918) d_law_1749 (by decide) (nx _ _ J1)
theorem law_51 (C : LCx p s m meth c b L xs G aP) (hL : L ≤ 3072) {i : Nat} (hi : i + 6 ≤ L) {hc hm : Hp} (J : JJ (pY G aP) (mY G (aP + 184)) hc aP hm (aP + 184) kw0) (nx : ∀ hc hm, JJ (pY G aP) (mY G (aP + 184)) hc aP hm (aP + 184) kw0 → LW p l e s m below meth c b G aP 1918 (lvL b aP i) [] hc hm) : LW p l e s m below meth c b G aP 1754 (lvL b aP i) [] hc hm := by
  obtain ⟨v, hc1, hm1, e1, e2, J1⟩ := so_guard J (xs (i + 1))
  refine lw_aload C (pc := 1754) (q := 2) d_law_1754 rfl rfl ?_
  refine lw_cell C (i := i) (k := 1) (pc := 1755) hL hi (by decide) d_law_1755 d_law_1756 d_law_1757 (by decide) d_law_1758 d_law_1759 ?_
  refine lw_callC C (pc := 1760) (K' := K_LP_guard) (n' := 4) (As := [.int (xs (i + 1))]) (st := []) okV_LP_guard rfl (ok_LP_guard (pY G aP) aP (xs (i + 1)) hc (oP G aP)) e1 w6_123 d_law_1760 rfl (by decide) rfl (Nat.le_of_ble_eq_true rfl) ?_
  show LW p l e s m below meth c b G aP 1763 (lvL b aP i) [.int v] hc1 hm
  refine lw_aload C (pc := 1763) (q := 3) d_law_1763 rfl rfl ?_
  refine lw_cell C (i := i) (k := 1) (pc := 1764) hL hi (by decide) d_law_1764 d_law_1765 d_law_1766 (by decide) d_law_1767 d_law_1768 ?_
  refine lw_callM C (pc := 1769) (K' := K_M_guard) (n' := 3) (As := [.int (xs (i + 1))]) (st := [.int v]) okV_M_guard rfl (ok_M_guard (mY G (aP + 184)) (aP + 184) (xs (i + 1)) hm (M_isO G (aP + 184))) e2 w10_100 d_law_1769 rfl (by decide) rfl (Nat.le_of_ble_eq_true rfl) ?_
  show LW p l e s m below meth c b G aP 1772 (lvL b aP i) [.int v, .int v] hc1 hm1
  exact lw_icmp_eq C (pc := 1772) (tgt := 1918) d_law_1772 (by decide) (nx _ _ J1)
theorem law_52 (C : LCx p s m meth c b L xs G aP) (hL : L ≤ 3072) {i : Nat} (hi : i + 6 ≤ L) {hc hm : Hp} (J : JJ (pY G aP) (mY G (aP + 184)) hc aP hm (aP + 184) kw0) (nx : ∀ hc hm, JJ (pY G aP) (mY G (aP + 184)) hc aP hm (aP + 184) kw0 → LW p l e s m below meth c b G aP 1918 (lvL b aP i) [] hc hm) : LW p l e s m below meth c b G aP 1777 (lvL b aP i) [] hc hm := by
  obtain ⟨v, hc1, hm1, e1, e2, J1⟩ := so_guardSet J (xs (i + 1))
  refine lw_aload C (pc := 1777) (q := 2) d_law_1777 rfl rfl ?_
  refine lw_cell C (i := i) (k := 1) (pc := 1778) hL hi (by decide) d_law_1778 d_law_1779 d_law_1780 (by decide) d_law_1781 d_law_1782 ?_
  refine lw_callC C (pc := 1783) (K' := K_LP_guardSet) (n' := 4) (As := [.int (xs (i + 1))]) (st := []) okV_LP_guardSet rfl (ok_LP_guardSet (pY G aP) aP (xs (i + 1)) hc (oP G aP)) e1 w6_140 d_law_1783 rfl (by decide) rfl (Nat.le_of_ble_eq_true rfl) ?_
  show LW p l e s m below meth c b G aP 1786 (lvL b aP i) [.int v] hc1 hm
  refine lw_aload C (pc := 1786) (q := 3) d_law_1786 rfl rfl ?_
  refine lw_cell C (i := i) (k := 1) (pc := 1787) hL hi (by decide) d_law_1787 d_law_1788 d_law_1789 (by decide) d_law_1790 d_law_1791 ?_
  refine lw_callM C (pc := 1792) (K' := K_M_guardSet) (n' := 3) (As := [.int (xs (i + 1))]) (st := [.int v]) okV_M_guardSet rfl (ok_M_guardSet (mY G (aP + 184)) (aP + 184) (xs (i + 1)) hm (M_isO G (aP + 184))) e2 w10_116 d_law_1792 rfl (by decide) rfl (Nat.le_of_ble_eq_true rfl) ?_
  show LW p l e s m below meth c b G aP 1795 (lvL b aP i) [.int v, .int v] hc1 hm1
  exact lw_icmp_eq C (pc := 1795) (tgt := 1918) d_law_1795 (by decide) (nx _ _ J1)
theorem law_53 (C : LCx p s m meth c b L xs G aP) (hL : L ≤ 3072) {i : Nat} (hi : i + 6 ≤ L) {hc hm : Hp} (J : JJ (pY G aP) (mY G (aP + 184)) hc aP hm (aP + 184) kw0) (nx : ∀ hc hm, JJ (pY G aP) (mY G (aP + 184)) hc aP hm (aP + 184) kw0 → LW p l e s m below meth c b G aP 1918 (lvL b aP i) [] hc hm) : LW p l e s m below meth c b G aP 1800 (lvL b aP i) [] hc hm := by
  obtain ⟨v, hc1, hm1, e1, e2, J1⟩ := so_barest J 
  refine lw_aload C (pc := 1800) (q := 2) d_law_1800 rfl rfl ?_
  refine lw_callC C (pc := 1801) (K' := K_LP_barest) (n' := 3) (As := []) (st := []) okV_LP_barest rfl (ok_LP_barest (pY G aP) aP hc (oP G aP)) e1 w6_144 d_law_1801 rfl (by decide) rfl (Nat.le_of_ble_eq_true rfl) ?_
  show LW p l e s m below meth c b G aP 1804 (lvL b aP i) [.int v] hc1 hm
  refine lw_aload C (pc := 1804) (q := 3) d_law_1804 rfl rfl ?_
  refine lw_callM C (pc := 1805) (K' := K_M_barest) (n' := 2) (As := []) (st := [.int v]) okV_M_barest rfl (ok_M_barest (mY G (aP + 184)) (aP + 184) hm (M_isO G (aP + 184))) e2 w10_120 d_law_1805 rfl (by decide) rfl (Nat.le_of_ble_eq_true rfl) ?_
  show LW p l e s m below meth c b G aP 1808 (lvL b aP i) [.int v, .int v] hc1 hm1
  exact lw_icmp_eq C (pc := 1808) (tgt := 1918) d_law_1808 (by decide) (nx _ _ J1)
theorem law_54 (C : LCx p s m meth c b L xs G aP) (hL : L ≤ 3072) {i : Nat} (hi : i + 6 ≤ L) {hc hm : Hp} (J : JJ (pY G aP) (mY G (aP + 184)) hc aP hm (aP + 184) kw0) (nx : ∀ hc hm, JJ (pY G aP) (mY G (aP + 184)) hc aP hm (aP + 184) kw0 → LW p l e s m below meth c b G aP 1918 (lvL b aP i) [] hc hm) : LW p l e s m below meth c b G aP 1813 (lvL b aP i) [] hc hm := by
  obtain ⟨v, hc1, hm1, e1, e2, J1⟩ := so_live J (xs (i + 1))
  refine lw_aload C (pc := 1813) (q := 2) d_law_1813 rfl rfl ?_
  refine lw_cell C (i := i) (k := 1) (pc := 1814) hL hi (by decide) d_law_1814 d_law_1815 d_law_1816 (by decide) d_law_1817 d_law_1818 ?_
  refine lw_callC C (pc := 1819) (K' := K_LP_live) (n' := 6) (As := [.int (xs (i + 1))]) (st := []) okV_LP_live rfl (ok_LP_live (pY G aP) aP (xs (i + 1)) hc (oP G aP)) e1 w6_152 d_law_1819 rfl (by decide) rfl (Nat.le_of_ble_eq_true rfl) ?_
  show LW p l e s m below meth c b G aP 1822 (lvL b aP i) [.int v] hc1 hm
  refine lw_aload C (pc := 1822) (q := 3) d_law_1822 rfl rfl ?_
  refine lw_cell C (i := i) (k := 1) (pc := 1823) hL hi (by decide) d_law_1823 d_law_1824 d_law_1825 (by decide) d_law_1826 d_law_1827 ?_
  refine lw_callM C (pc := 1828) (K' := K_M_live) (n' := 24) (As := [.int (xs (i + 1))]) (st := [.int v]) okV_M_live rfl (ok_M_live (mY G (aP + 184)) (aP + 184) (xs (i + 1)) hm (M_isO G (aP + 184))) e2 w10_124 d_law_1828 rfl (by decide) rfl (Nat.le_of_ble_eq_true rfl) ?_
  show LW p l e s m below meth c b G aP 1831 (lvL b aP i) [.int v, .int v] hc1 hm1
  exact lw_icmp_eq C (pc := 1831) (tgt := 1918) d_law_1831 (by decide) (nx _ _ J1)
theorem law_55 (C : LCx p s m meth c b L xs G aP) (hL : L ≤ 3072) {i : Nat} (hi : i + 6 ≤ L) {hc hm : Hp} (J : JJ (pY G aP) (mY G (aP + 184)) hc aP hm (aP + 184) kw0) (nx : ∀ hc hm, JJ (pY G aP) (mY G (aP + 184)) hc aP hm (aP + 184) kw0 → LW p l e s m below meth c b G aP 1918 (lvL b aP i) [] hc hm) : LW p l e s m below meth c b G aP 1836 (lvL b aP i) [] hc hm := by
  obtain ⟨v, hc1, hm1, e1, e2, J1⟩ := so_lived J (xs (i + 1))
  refine lw_aload C (pc := 1836) (q := 2) d_law_1836 rfl rfl ?_
  refine lw_cell C (i := i) (k := 1) (pc := 1837) hL hi (by decide) d_law_1837 d_law_1838 d_law_1839 (by decide) d_law_1840 d_law_1841 ?_
  refine lw_callC C (pc := 1842) (K' := K_LP_lived) (n' := 2) (As := [.int (xs (i + 1))]) (st := []) okV_LP_lived rfl (ok_LP_lived (pY G aP) aP (xs (i + 1)) hc (oP G aP)) e1 w6_210 d_law_1842 rfl (by decide) rfl (Nat.le_of_ble_eq_true rfl) ?_
  show LW p l e s m below meth c b G aP 1845 (lvL b aP i) [.int v] hc1 hm
  refine lw_aload C (pc := 1845) (q := 3) d_law_1845 rfl rfl ?_
  refine lw_cell C (i := i) (k := 1) (pc := 1846) hL hi (by decide) d_law_1846 d_law_1847 d_law_1848 (by decide) d_law_1849 d_law_1850 ?_
  refine lw_callM C (pc := 1851) (K' := K_M_lived) (n' := 1) (As := [.int (xs (i + 1))]) (st := [.int v]) okV_M_lived rfl (ok_M_lived (mY G (aP + 184)) (aP + 184) (xs (i + 1)) hm (M_isO G (aP + 184))) e2 w10_158 d_law_1851 rfl (by decide) rfl (Nat.le_of_ble_eq_true rfl) ?_
  show LW p l e s m below meth c b G aP 1854 (lvL b aP i) [.int v, .int v] hc1 hm1
  exact lw_icmp_eq C (pc := 1854) (tgt := 1918) d_law_1854 (by decide) (nx _ _ J1)
theorem law_56 (C : LCx p s m meth c b L xs G aP) (hL : L ≤ 3072) {i : Nat} (hi : i + 6 ≤ L) {hc hm : Hp} (J : JJ (pY G aP) (mY G (aP + 184)) hc aP hm (aP + 184) kw0) (nx : ∀ hc hm, JJ (pY G aP) (mY G (aP + 184)) hc aP hm (aP + 184) kw0 → LW p l e s m below meth c b G aP 1918 (lvL b aP i) [] hc hm) : LW p l e s m below meth c b G aP 1859 (lvL b aP i) [] hc hm := by
  obtain ⟨v, hc1, hm1, e1, e2, J1⟩ := so_mean J (xs (i + 1)) (xs (i + 2))
  refine lw_aload C (pc := 1859) (q := 2) d_law_1859 rfl rfl ?_
  refine lw_cell C (i := i) (k := 1) (pc := 1860) hL hi (by decide) d_law_1860 d_law_1861 d_law_1862 (by decide) d_law_1863 d_law_1864 ?_
  refine lw_cell C (i := i) (k := 2) (pc := 1865) hL hi (by decide) d_law_1865 d_law_1866 d_law_1867 (by decide) d_law_1868 d_law_1869 ?_
  refine lw_callC C (pc := 1870) (K' := K_LP_mean) (n' := 6) (As := [.int (xs (i + 1)), .int (xs (i + 2))]) (st := []) okV_LP_mean rfl (ok_LP_mean (pY G aP) aP (xs (i + 1)) (xs (i + 2)) hc (oP G aP)) e1 w6_214 d_law_1870 rfl (by decide) rfl (Nat.le_of_ble_eq_true rfl) ?_
  show LW p l e s m below meth c b G aP 1873 (lvL b aP i) [.int (b2i v)] hc1 hm
  refine lw_aload C (pc := 1873) (q := 3) d_law_1873 rfl rfl ?_
  refine lw_cell C (i := i) (k := 1) (pc := 1874) hL hi (by decide) d_law_1874 d_law_1875 d_law_1876 (by decide) d_law_1877 d_law_1878 ?_
  refine lw_cell C (i := i) (k := 2) (pc := 1879) hL hi (by decide) d_law_1879 d_law_1880 d_law_1881 (by decide) d_law_1882 d_law_1883 ?_
  refine lw_callM C (pc := 1884) (K' := K_M_mean) (n' := 24) (As := [.int (xs (i + 1)), .int (xs (i + 2))]) (st := [.int (b2i v)]) okV_M_mean rfl (ok_M_mean (mY G (aP + 184)) (aP + 184) (xs (i + 1)) (xs (i + 2)) hm (M_isO G (aP + 184))) e2 w10_163 d_law_1884 rfl (by decide) rfl (Nat.le_of_ble_eq_true rfl) ?_
  show LW p l e s m below meth c b G aP 1887 (lvL b aP i) [.int (b2i v), .int (b2i v)] hc1 hm1
  exact lw_icmp_eq C (pc := 1887) (tgt := 1918) d_law_1887 (by decide) (nx _ _ J1)
theorem law_57 (C : LCx p s m meth c b L xs G aP) (hL : L ≤ 3072) {i : Nat} (hi : i + 6 ≤ L) {hc hm : Hp} (J : JJ (pY G aP) (mY G (aP + 184)) hc aP hm (aP + 184) kw0) (nx : ∀ hc hm, JJ (pY G aP) (mY G (aP + 184)) hc aP hm (aP + 184) kw0 → LW p l e s m below meth c b G aP 1918 (lvL b aP i) [] hc hm) : LW p l e s m below meth c b G aP 1892 (lvL b aP i) [] hc hm := by
  obtain ⟨v, hc1, hm1, e1, e2, J1⟩ := so_mark J 
  refine lw_aload C (pc := 1892) (q := 2) d_law_1892 rfl rfl ?_
  refine lw_callC C (pc := 1893) (K' := K_LP_mark) (n' := 3) (As := []) (st := []) okV_LP_mark rfl (ok_LP_mark (pY G aP) aP hc (oP G aP)) e1 w6_227 d_law_1893 rfl (by decide) rfl (Nat.le_of_ble_eq_true rfl) ?_
  show LW p l e s m below meth c b G aP 1896 (lvL b aP i) [.int v] hc1 hm
  refine lw_aload C (pc := 1896) (q := 3) d_law_1896 rfl rfl ?_
  refine lw_callM C (pc := 1897) (K' := K_M_mark) (n' := 1) (As := []) (st := [.int v]) okV_M_mark rfl (ok_M_mark (mY G (aP + 184)) (aP + 184) hm (M_isO G (aP + 184))) e2 w10_168 d_law_1897 rfl (by decide) rfl (Nat.le_of_ble_eq_true rfl) ?_
  show LW p l e s m below meth c b G aP 1900 (lvL b aP i) [.int v, .int v] hc1 hm1
  exact lw_icmp_eq C (pc := 1900) (tgt := 1918) d_law_1900 (by decide) (nx _ _ J1)
theorem law_58 (C : LCx p s m meth c b L xs G aP) (hL : L ≤ 3072) {i : Nat} (hi : i + 6 ≤ L) {hc hm : Hp} (J : JJ (pY G aP) (mY G (aP + 184)) hc aP hm (aP + 184) kw0) (nx : ∀ hc hm, JJ (pY G aP) (mY G (aP + 184)) hc aP hm (aP + 184) kw0 → LW p l e s m below meth c b G aP 1918 (lvL b aP i) [] hc hm) : LW p l e s m below meth c b G aP 1905 (lvL b aP i) [] hc hm := by
  obtain ⟨v, hc1, hm1, e1, e2, J1⟩ := so_back J 
  refine lw_aload C (pc := 1905) (q := 2) d_law_1905 rfl rfl ?_
  refine lw_callC C (pc := 1906) (K' := K_LP_back) (n' := 1) (As := []) (st := []) okV_LP_back rfl (ok_LP_back (pY G aP) aP hc (oP G aP)) e1 w7_13 d_law_1906 rfl (by decide) rfl (Nat.le_of_ble_eq_true rfl) ?_
  show LW p l e s m below meth c b G aP 1909 (lvL b aP i) [.int v] hc1 hm
  refine lw_aload C (pc := 1909) (q := 3) d_law_1909 rfl rfl ?_
  refine lw_callM C (pc := 1910) (K' := K_M_back) (n' := 1) (As := []) (st := [.int v]) okV_M_back rfl (ok_M_back (mY G (aP + 184)) (aP + 184) hm (M_isO G (aP + 184))) e2 w10_172 d_law_1910 rfl (by decide) rfl (Nat.le_of_ble_eq_true rfl) ?_
  show LW p l e s m below meth c b G aP 1913 (lvL b aP i) [.int v, .int v] hc1 hm1
  exact lw_icmp_eq C (pc := 1913) (tgt := 1918) d_law_1913 (by decide) (nx _ _ J1)
end LAWC
