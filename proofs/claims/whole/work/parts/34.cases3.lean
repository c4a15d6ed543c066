set_option maxRecDepth 512
theorem dL_law_1699 : decode cL_law 1699 = .ok (.aload_n 1, 1) := by decide +kernel
theorem dL_law_1700 : decode cL_law 1700 = .ok (.invokevirtual 249, 3) := by decide +kernel
theorem dL_law_1703 : decode cL_law 1703 = .ok (.aload_n 2, 1) := by decide +kernel
theorem dL_law_1704 : decode cL_law 1704 = .ok (.invokevirtual 252, 3) := by decide +kernel
theorem dL_law_1707 : decode cL_law 1707 = .ok (.if_icmp .eq 1083, 3) := by decide +kernel
theorem dL_law_1712 : decode cL_law 1712 = .ok (.aload_n 1, 1) := by decide +kernel
theorem dL_law_1713 : decode cL_law 1713 = .ok (.aload_n 0, 1) := by decide +kernel
theorem dL_law_1714 : decode cL_law 1714 = .ok (.iload 5, 2) := by decide +kernel
theorem dL_law_1716 : decode cL_law 1716 = .ok (.iconst 1, 1) := by decide +kernel
theorem dL_law_1717 : decode cL_law 1717 = .ok (.iadd, 1) := by decide +kernel
theorem dL_law_1718 : decode cL_law 1718 = .ok (.iaload, 1) := by decide +kernel
theorem dL_law_1719 : decode cL_law 1719 = .ok (.aload_n 0, 1) := by decide +kernel
theorem dL_law_1720 : decode cL_law 1720 = .ok (.iload 5, 2) := by decide +kernel
theorem dL_law_1722 : decode cL_law 1722 = .ok (.iconst 2, 1) := by decide +kernel
theorem dL_law_1723 : decode cL_law 1723 = .ok (.iadd, 1) := by decide +kernel
theorem dL_law_1724 : decode cL_law 1724 = .ok (.iaload, 1) := by decide +kernel
theorem dL_law_1725 : decode cL_law 1725 = .ok (.aload_n 0, 1) := by decide +kernel
theorem dL_law_1726 : decode cL_law 1726 = .ok (.iload 5, 2) := by decide +kernel
theorem dL_law_1728 : decode cL_law 1728 = .ok (.iconst 3, 1) := by decide +kernel
theorem dL_law_1729 : decode cL_law 1729 = .ok (.iadd, 1) := by decide +kernel
theorem dL_law_1730 : decode cL_law 1730 = .ok (.iaload, 1) := by decide +kernel
theorem dL_law_1731 : decode cL_law 1731 = .ok (.aload_n 0, 1) := by decide +kernel
theorem dL_law_1732 : decode cL_law 1732 = .ok (.iload 5, 2) := by decide +kernel
theorem dL_law_1734 : decode cL_law 1734 = .ok (.iconst 4, 1) := by decide +kernel
theorem dL_law_1735 : decode cL_law 1735 = .ok (.iadd, 1) := by decide +kernel
theorem dL_law_1736 : decode cL_law 1736 = .ok (.iaload, 1) := by decide +kernel
theorem dL_law_1737 : decode cL_law 1737 = .ok (.aload_n 3, 1) := by decide +kernel
theorem dL_law_1738 : decode cL_law 1738 = .ok (.invokestatic 253, 3) := by decide +kernel
theorem dL_law_1741 : decode cL_law 1741 = .ok (.istore 6, 2) := by decide +kernel
theorem dL_law_1743 : decode cL_law 1743 = .ok (.aload_n 2, 1) := by decide +kernel
theorem dL_law_1744 : decode cL_law 1744 = .ok (.aload_n 0, 1) := by decide +kernel
theorem dL_law_1745 : decode cL_law 1745 = .ok (.iload 5, 2) := by decide +kernel
theorem dL_law_1747 : decode cL_law 1747 = .ok (.iconst 1, 1) := by decide +kernel
theorem dL_law_1748 : decode cL_law 1748 = .ok (.iadd, 1) := by decide +kernel
theorem dL_law_1749 : decode cL_law 1749 = .ok (.iaload, 1) := by decide +kernel
theorem dL_law_1750 : decode cL_law 1750 = .ok (.aload_n 0, 1) := by decide +kernel
theorem dL_law_1751 : decode cL_law 1751 = .ok (.iload 5, 2) := by decide +kernel
theorem dL_law_1753 : decode cL_law 1753 = .ok (.iconst 2, 1) := by decide +kernel
theorem dL_law_1754 : decode cL_law 1754 = .ok (.iadd, 1) := by decide +kernel
theorem dL_law_1755 : decode cL_law 1755 = .ok (.iaload, 1) := by decide +kernel
theorem dL_law_1756 : decode cL_law 1756 = .ok (.aload_n 0, 1) := by decide +kernel
theorem dL_law_1757 : decode cL_law 1757 = .ok (.iload 5, 2) := by decide +kernel
theorem dL_law_1759 : decode cL_law 1759 = .ok (.iconst 3, 1) := by decide +kernel
theorem dL_law_1760 : decode cL_law 1760 = .ok (.iadd, 1) := by decide +kernel
theorem dL_law_1761 : decode cL_law 1761 = .ok (.iaload, 1) := by decide +kernel
theorem dL_law_1762 : decode cL_law 1762 = .ok (.aload_n 0, 1) := by decide +kernel
theorem dL_law_1763 : decode cL_law 1763 = .ok (.iload 5, 2) := by decide +kernel
theorem dL_law_1765 : decode cL_law 1765 = .ok (.iconst 4, 1) := by decide +kernel
theorem dL_law_1766 : decode cL_law 1766 = .ok (.iadd, 1) := by decide +kernel
theorem dL_law_1767 : decode cL_law 1767 = .ok (.iaload, 1) := by decide +kernel
theorem dL_law_1768 : decode cL_law 1768 = .ok (.invokevirtual 256, 3) := by decide +kernel
theorem dL_law_1771 : decode cL_law 1771 = .ok (.istore 7, 2) := by decide +kernel
theorem dL_law_1773 : decode cL_law 1773 = .ok (.aload_n 2, 1) := by decide +kernel
theorem dL_law_1774 : decode cL_law 1774 = .ok (.invokevirtual 145, 3) := by decide +kernel
theorem dL_law_1777 : decode cL_law 1777 = .ok (.iload 6, 2) := by decide +kernel
theorem dL_law_1779 : decode cL_law 1779 = .ok (.if_icmp .eq 5, 3) := by decide +kernel
theorem dL_law_1784 : decode cL_law 1784 = .ok (.iload 6, 2) := by decide +kernel
theorem dL_law_1786 : decode cL_law 1786 = .ok (.ifCond .ne 15, 3) := by decide +kernel
theorem dL_law_1789 : decode cL_law 1789 = .ok (.aload_n 3, 1) := by decide +kernel
theorem dL_law_1790 : decode cL_law 1790 = .ok (.iconst 0, 1) := by decide +kernel
theorem dL_law_1791 : decode cL_law 1791 = .ok (.laload, 1) := by decide +kernel
theorem dL_law_1792 : decode cL_law 1792 = .ok (.iload 7, 2) := by decide +kernel
theorem dL_law_1794 : decode cL_law 1794 = .ok (.i2l, 1) := by decide +kernel
theorem dL_law_1795 : decode cL_law 1795 = .ok (.lcmp, 1) := by decide +kernel
theorem dL_law_1796 : decode cL_law 1796 = .ok (.ifCond .eq 5, 3) := by decide +kernel
theorem dL_law_1801 : decode cL_law 1801 = .ok (.goto 989, 3) := by decide +kernel
theorem dL_law_1804 : decode cL_law 1804 = .ok (.aload_n 1, 1) := by decide +kernel
theorem dL_law_1805 : decode cL_law 1805 = .ok (.aload_n 0, 1) := by decide +kernel
theorem dL_law_1806 : decode cL_law 1806 = .ok (.iload 5, 2) := by decide +kernel
theorem dL_law_1808 : decode cL_law 1808 = .ok (.iconst 1, 1) := by decide +kernel
theorem dL_law_1809 : decode cL_law 1809 = .ok (.iadd, 1) := by decide +kernel
theorem dL_law_1810 : decode cL_law 1810 = .ok (.iaload, 1) := by decide +kernel
theorem dL_law_1811 : decode cL_law 1811 = .ok (.aload_n 0, 1) := by decide +kernel
theorem dL_law_1812 : decode cL_law 1812 = .ok (.iload 5, 2) := by decide +kernel
theorem dL_law_1814 : decode cL_law 1814 = .ok (.iconst 2, 1) := by decide +kernel
theorem dL_law_1815 : decode cL_law 1815 = .ok (.iadd, 1) := by decide +kernel
theorem dL_law_1816 : decode cL_law 1816 = .ok (.iaload, 1) := by decide +kernel
theorem dL_law_1817 : decode cL_law 1817 = .ok (.aload_n 3, 1) := by decide +kernel
theorem dL_law_1818 : decode cL_law 1818 = .ok (.invokestatic 257, 3) := by decide +kernel
theorem dL_law_1821 : decode cL_law 1821 = .ok (.istore 6, 2) := by decide +kernel
theorem dL_law_1823 : decode cL_law 1823 = .ok (.aload_n 2, 1) := by decide +kernel
theorem dL_law_1824 : decode cL_law 1824 = .ok (.aload_n 0, 1) := by decide +kernel
theorem dL_law_1825 : decode cL_law 1825 = .ok (.iload 5, 2) := by decide +kernel
theorem dL_law_1827 : decode cL_law 1827 = .ok (.iconst 1, 1) := by decide +kernel
theorem dL_law_1828 : decode cL_law 1828 = .ok (.iadd, 1) := by decide +kernel
theorem dL_law_1829 : decode cL_law 1829 = .ok (.iaload, 1) := by decide +kernel
theorem dL_law_1830 : decode cL_law 1830 = .ok (.aload_n 0, 1) := by decide +kernel
theorem dL_law_1831 : decode cL_law 1831 = .ok (.iload 5, 2) := by decide +kernel
theorem dL_law_1833 : decode cL_law 1833 = .ok (.iconst 2, 1) := by decide +kernel
theorem dL_law_1834 : decode cL_law 1834 = .ok (.iadd, 1) := by decide +kernel
theorem dL_law_1835 : decode cL_law 1835 = .ok (.iaload, 1) := by decide +kernel
theorem dL_law_1836 : decode cL_law 1836 = .ok (.invokevirtual 259, 3) := by decide +kernel
theorem dL_law_1839 : decode cL_law 1839 = .ok (.istore 7, 2) := by decide +kernel
theorem dL_law_1841 : decode cL_law 1841 = .ok (.aload_n 2, 1) := by decide +kernel
theorem dL_law_1842 : decode cL_law 1842 = .ok (.invokevirtual 145, 3) := by decide +kernel
theorem dL_law_1845 : decode cL_law 1845 = .ok (.iload 6, 2) := by decide +kernel
theorem dL_law_1847 : decode cL_law 1847 = .ok (.if_icmp .eq 5, 3) := by decide +kernel
theorem dL_law_1852 : decode cL_law 1852 = .ok (.iload 6, 2) := by decide +kernel
theorem dL_law_1854 : decode cL_law 1854 = .ok (.ifCond .ne 15, 3) := by decide +kernel
theorem dL_law_1857 : decode cL_law 1857 = .ok (.aload_n 3, 1) := by decide +kernel
theorem dL_law_1858 : decode cL_law 1858 = .ok (.iconst 0, 1) := by decide +kernel
theorem dL_law_1859 : decode cL_law 1859 = .ok (.laload, 1) := by decide +kernel
theorem dL_law_1860 : decode cL_law 1860 = .ok (.iload 7, 2) := by decide +kernel
theorem dL_law_1862 : decode cL_law 1862 = .ok (.i2l, 1) := by decide +kernel
theorem dL_law_1863 : decode cL_law 1863 = .ok (.lcmp, 1) := by decide +kernel
theorem dL_law_1864 : decode cL_law 1864 = .ok (.ifCond .eq 5, 3) := by decide +kernel
theorem dL_law_1869 : decode cL_law 1869 = .ok (.goto 921, 3) := by decide +kernel
theorem dL_law_1872 : decode cL_law 1872 = .ok (.aload_n 1, 1) := by decide +kernel
theorem dL_law_1873 : decode cL_law 1873 = .ok (.aload_n 0, 1) := by decide +kernel
theorem dL_law_1874 : decode cL_law 1874 = .ok (.iload 5, 2) := by decide +kernel
theorem dL_law_1876 : decode cL_law 1876 = .ok (.iconst 1, 1) := by decide +kernel
theorem dL_law_1877 : decode cL_law 1877 = .ok (.iadd, 1) := by decide +kernel
theorem dL_law_1878 : decode cL_law 1878 = .ok (.iaload, 1) := by decide +kernel
theorem dL_law_1879 : decode cL_law 1879 = .ok (.aload_n 0, 1) := by decide +kernel
theorem dL_law_1880 : decode cL_law 1880 = .ok (.iload 5, 2) := by decide +kernel
theorem dL_law_1882 : decode cL_law 1882 = .ok (.iconst 2, 1) := by decide +kernel
theorem dL_law_1883 : decode cL_law 1883 = .ok (.iadd, 1) := by decide +kernel
theorem dL_law_1884 : decode cL_law 1884 = .ok (.iaload, 1) := by decide +kernel
theorem dL_law_1885 : decode cL_law 1885 = .ok (.aload_n 3, 1) := by decide +kernel
theorem dL_law_1886 : decode cL_law 1886 = .ok (.invokestatic 260, 3) := by decide +kernel
theorem dL_law_1889 : decode cL_law 1889 = .ok (.istore 6, 2) := by decide +kernel
theorem dL_law_1891 : decode cL_law 1891 = .ok (.aload_n 2, 1) := by decide +kernel
theorem dL_law_1892 : decode cL_law 1892 = .ok (.aload_n 0, 1) := by decide +kernel
theorem dL_law_1893 : decode cL_law 1893 = .ok (.iload 5, 2) := by decide +kernel
theorem dL_law_1895 : decode cL_law 1895 = .ok (.iconst 1, 1) := by decide +kernel
theorem dL_law_1896 : decode cL_law 1896 = .ok (.iadd, 1) := by decide +kernel
theorem dL_law_1897 : decode cL_law 1897 = .ok (.iaload, 1) := by decide +kernel
theorem dL_law_1898 : decode cL_law 1898 = .ok (.aload_n 0, 1) := by decide +kernel
theorem dL_law_1899 : decode cL_law 1899 = .ok (.iload 5, 2) := by decide +kernel
theorem dL_law_1901 : decode cL_law 1901 = .ok (.iconst 2, 1) := by decide +kernel
theorem dL_law_1902 : decode cL_law 1902 = .ok (.iadd, 1) := by decide +kernel
theorem dL_law_1903 : decode cL_law 1903 = .ok (.iaload, 1) := by decide +kernel
theorem dL_law_1904 : decode cL_law 1904 = .ok (.invokevirtual 262, 3) := by decide +kernel
theorem dL_law_1907 : decode cL_law 1907 = .ok (.istore 7, 2) := by decide +kernel
theorem dL_law_1909 : decode cL_law 1909 = .ok (.aload_n 2, 1) := by decide +kernel
theorem dL_law_1910 : decode cL_law 1910 = .ok (.invokevirtual 145, 3) := by decide +kernel
theorem dL_law_1913 : decode cL_law 1913 = .ok (.iload 6, 2) := by decide +kernel
theorem dL_law_1915 : decode cL_law 1915 = .ok (.if_icmp .eq 5, 3) := by decide +kernel
theorem dL_law_1920 : decode cL_law 1920 = .ok (.iload 6, 2) := by decide +kernel
theorem dL_law_1922 : decode cL_law 1922 = .ok (.ifCond .ne 15, 3) := by decide +kernel
theorem dL_law_1925 : decode cL_law 1925 = .ok (.aload_n 3, 1) := by decide +kernel
theorem dL_law_1926 : decode cL_law 1926 = .ok (.iconst 0, 1) := by decide +kernel
theorem dL_law_1927 : decode cL_law 1927 = .ok (.laload, 1) := by decide +kernel
theorem dL_law_1928 : decode cL_law 1928 = .ok (.iload 7, 2) := by decide +kernel
theorem dL_law_1930 : decode cL_law 1930 = .ok (.i2l, 1) := by decide +kernel
theorem dL_law_1931 : decode cL_law 1931 = .ok (.lcmp, 1) := by decide +kernel
theorem dL_law_1932 : decode cL_law 1932 = .ok (.ifCond .eq 5, 3) := by decide +kernel
theorem dL_law_1937 : decode cL_law 1937 = .ok (.goto 853, 3) := by decide +kernel
theorem dL_law_1940 : decode cL_law 1940 = .ok (.aload_n 1, 1) := by decide +kernel
theorem dL_law_1941 : decode cL_law 1941 = .ok (.aload_n 0, 1) := by decide +kernel
theorem dL_law_1942 : decode cL_law 1942 = .ok (.iload 5, 2) := by decide +kernel
theorem dL_law_1944 : decode cL_law 1944 = .ok (.iconst 1, 1) := by decide +kernel
theorem dL_law_1945 : decode cL_law 1945 = .ok (.iadd, 1) := by decide +kernel
theorem dL_law_1946 : decode cL_law 1946 = .ok (.iaload, 1) := by decide +kernel
theorem dL_law_1947 : decode cL_law 1947 = .ok (.aload_n 3, 1) := by decide +kernel
theorem dL_law_1948 : decode cL_law 1948 = .ok (.invokestatic 263, 3) := by decide +kernel
theorem dL_law_1951 : decode cL_law 1951 = .ok (.istore 6, 2) := by decide +kernel
theorem dL_law_1953 : decode cL_law 1953 = .ok (.aload_n 2, 1) := by decide +kernel
theorem dL_law_1954 : decode cL_law 1954 = .ok (.aload_n 0, 1) := by decide +kernel
theorem dL_law_1955 : decode cL_law 1955 = .ok (.iload 5, 2) := by decide +kernel
theorem dL_law_1957 : decode cL_law 1957 = .ok (.iconst 1, 1) := by decide +kernel
theorem dL_law_1958 : decode cL_law 1958 = .ok (.iadd, 1) := by decide +kernel
theorem dL_law_1959 : decode cL_law 1959 = .ok (.iaload, 1) := by decide +kernel
theorem dL_law_1960 : decode cL_law 1960 = .ok (.invokevirtual 265, 3) := by decide +kernel
theorem dL_law_1963 : decode cL_law 1963 = .ok (.istore 7, 2) := by decide +kernel
theorem dL_law_1965 : decode cL_law 1965 = .ok (.aload_n 2, 1) := by decide +kernel
theorem dL_law_1966 : decode cL_law 1966 = .ok (.invokevirtual 145, 3) := by decide +kernel
theorem dL_law_1969 : decode cL_law 1969 = .ok (.iload 6, 2) := by decide +kernel
theorem dL_law_1971 : decode cL_law 1971 = .ok (.if_icmp .eq 5, 3) := by decide +kernel
theorem dL_law_1976 : decode cL_law 1976 = .ok (.iload 6, 2) := by decide +kernel
theorem dL_law_1978 : decode cL_law 1978 = .ok (.ifCond .ne 15, 3) := by decide +kernel
theorem dL_law_1981 : decode cL_law 1981 = .ok (.aload_n 3, 1) := by decide +kernel
theorem dL_law_1982 : decode cL_law 1982 = .ok (.iconst 0, 1) := by decide +kernel
theorem dL_law_1983 : decode cL_law 1983 = .ok (.laload, 1) := by decide +kernel
theorem dL_law_1984 : decode cL_law 1984 = .ok (.iload 7, 2) := by decide +kernel
theorem dL_law_1986 : decode cL_law 1986 = .ok (.i2l, 1) := by decide +kernel
theorem dL_law_1987 : decode cL_law 1987 = .ok (.lcmp, 1) := by decide +kernel
theorem dL_law_1988 : decode cL_law 1988 = .ok (.ifCond .eq 5, 3) := by decide +kernel
theorem dL_law_1993 : decode cL_law 1993 = .ok (.goto 797, 3) := by decide +kernel
theorem dL_law_1996 : decode cL_law 1996 = .ok (.aload_n 1, 1) := by decide +kernel
theorem dL_law_1997 : decode cL_law 1997 = .ok (.aload_n 0, 1) := by decide +kernel
theorem dL_law_1998 : decode cL_law 1998 = .ok (.iload 5, 2) := by decide +kernel
theorem dL_law_2000 : decode cL_law 2000 = .ok (.iconst 1, 1) := by decide +kernel
theorem dL_law_2001 : decode cL_law 2001 = .ok (.iadd, 1) := by decide +kernel
theorem dL_law_2002 : decode cL_law 2002 = .ok (.iaload, 1) := by decide +kernel
theorem dL_law_2003 : decode cL_law 2003 = .ok (.aload_n 3, 1) := by decide +kernel
theorem dL_law_2004 : decode cL_law 2004 = .ok (.invokestatic 266, 3) := by decide +kernel
theorem dL_law_2007 : decode cL_law 2007 = .ok (.istore 6, 2) := by decide +kernel
theorem dL_law_2009 : decode cL_law 2009 = .ok (.aload_n 2, 1) := by decide +kernel
theorem dL_law_2010 : decode cL_law 2010 = .ok (.aload_n 0, 1) := by decide +kernel
theorem dL_law_2011 : decode cL_law 2011 = .ok (.iload 5, 2) := by decide +kernel
theorem dL_law_2013 : decode cL_law 2013 = .ok (.iconst 1, 1) := by decide +kernel
theorem dL_law_2014 : decode cL_law 2014 = .ok (.iadd, 1) := by decide +kernel
theorem dL_law_2015 : decode cL_law 2015 = .ok (.iaload, 1) := by decide +kernel
theorem dL_law_2016 : decode cL_law 2016 = .ok (.invokevirtual 268, 3) := by decide +kernel
theorem dL_law_2019 : decode cL_law 2019 = .ok (.istore 7, 2) := by decide +kernel
theorem dL_law_2021 : decode cL_law 2021 = .ok (.aload_n 2, 1) := by decide +kernel
theorem dL_law_2022 : decode cL_law 2022 = .ok (.invokevirtual 145, 3) := by decide +kernel
theorem dL_law_2025 : decode cL_law 2025 = .ok (.iload 6, 2) := by decide +kernel
theorem dL_law_2027 : decode cL_law 2027 = .ok (.if_icmp .eq 5, 3) := by decide +kernel
theorem dL_law_2032 : decode cL_law 2032 = .ok (.iload 6, 2) := by decide +kernel
theorem dL_law_2034 : decode cL_law 2034 = .ok (.ifCond .ne 15, 3) := by decide +kernel
theorem dL_law_2037 : decode cL_law 2037 = .ok (.aload_n 3, 1) := by decide +kernel
theorem dL_law_2038 : decode cL_law 2038 = .ok (.iconst 0, 1) := by decide +kernel
theorem dL_law_2039 : decode cL_law 2039 = .ok (.laload, 1) := by decide +kernel
theorem dL_law_2040 : decode cL_law 2040 = .ok (.iload 7, 2) := by decide +kernel
theorem dL_law_2042 : decode cL_law 2042 = .ok (.i2l, 1) := by decide +kernel
theorem dL_law_2043 : decode cL_law 2043 = .ok (.lcmp, 1) := by decide +kernel
theorem dL_law_2044 : decode cL_law 2044 = .ok (.ifCond .eq 5, 3) := by decide +kernel
theorem dL_law_2049 : decode cL_law 2049 = .ok (.goto 741, 3) := by decide +kernel
theorem dL_law_2052 : decode cL_law 2052 = .ok (.aload_n 1, 1) := by decide +kernel
theorem dL_law_2053 : decode cL_law 2053 = .ok (.aload_n 0, 1) := by decide +kernel
theorem dL_law_2054 : decode cL_law 2054 = .ok (.iload 5, 2) := by decide +kernel
theorem dL_law_2056 : decode cL_law 2056 = .ok (.iconst 1, 1) := by decide +kernel
theorem dL_law_2057 : decode cL_law 2057 = .ok (.iadd, 1) := by decide +kernel
theorem dL_law_2058 : decode cL_law 2058 = .ok (.iaload, 1) := by decide +kernel
theorem dL_law_2059 : decode cL_law 2059 = .ok (.aload_n 3, 1) := by decide +kernel
theorem dL_law_2060 : decode cL_law 2060 = .ok (.invokestatic 269, 3) := by decide +kernel
theorem dL_law_2063 : decode cL_law 2063 = .ok (.istore 6, 2) := by decide +kernel
theorem dL_law_2065 : decode cL_law 2065 = .ok (.aload_n 2, 1) := by decide +kernel
theorem dL_law_2066 : decode cL_law 2066 = .ok (.aload_n 0, 1) := by decide +kernel
theorem dL_law_2067 : decode cL_law 2067 = .ok (.iload 5, 2) := by decide +kernel
theorem dL_law_2069 : decode cL_law 2069 = .ok (.iconst 1, 1) := by decide +kernel
theorem dL_law_2070 : decode cL_law 2070 = .ok (.iadd, 1) := by decide +kernel
theorem dL_law_2071 : decode cL_law 2071 = .ok (.iaload, 1) := by decide +kernel
theorem dL_law_2072 : decode cL_law 2072 = .ok (.invokevirtual 271, 3) := by decide +kernel
theorem dL_law_2075 : decode cL_law 2075 = .ok (.istore 7, 2) := by decide +kernel
theorem dL_law_2077 : decode cL_law 2077 = .ok (.aload_n 2, 1) := by decide +kernel
theorem dL_law_2078 : decode cL_law 2078 = .ok (.invokevirtual 145, 3) := by decide +kernel
theorem dL_law_2081 : decode cL_law 2081 = .ok (.iload 6, 2) := by decide +kernel
theorem dL_law_2083 : decode cL_law 2083 = .ok (.if_icmp .eq 5, 3) := by decide +kernel
theorem dL_law_2088 : decode cL_law 2088 = .ok (.iload 6, 2) := by decide +kernel
theorem dL_law_2090 : decode cL_law 2090 = .ok (.ifCond .ne 15, 3) := by decide +kernel
theorem dL_law_2093 : decode cL_law 2093 = .ok (.aload_n 3, 1) := by decide +kernel
theorem dL_law_2094 : decode cL_law 2094 = .ok (.iconst 0, 1) := by decide +kernel
theorem dL_law_2095 : decode cL_law 2095 = .ok (.laload, 1) := by decide +kernel
theorem dL_law_2096 : decode cL_law 2096 = .ok (.iload 7, 2) := by decide +kernel
theorem dL_law_2098 : decode cL_law 2098 = .ok (.i2l, 1) := by decide +kernel
theorem dL_law_2099 : decode cL_law 2099 = .ok (.lcmp, 1) := by decide +kernel
theorem dL_law_2100 : decode cL_law 2100 = .ok (.ifCond .eq 5, 3) := by decide +kernel
theorem dL_law_2105 : decode cL_law 2105 = .ok (.goto 685, 3) := by decide +kernel
theorem dL_law_2108 : decode cL_law 2108 = .ok (.aload_n 1, 1) := by decide +kernel
theorem dL_law_2109 : decode cL_law 2109 = .ok (.aload_n 0, 1) := by decide +kernel
theorem dL_law_2110 : decode cL_law 2110 = .ok (.iload 5, 2) := by decide +kernel
theorem dL_law_2112 : decode cL_law 2112 = .ok (.iconst 1, 1) := by decide +kernel
theorem dL_law_2113 : decode cL_law 2113 = .ok (.iadd, 1) := by decide +kernel
theorem dL_law_2114 : decode cL_law 2114 = .ok (.iaload, 1) := by decide +kernel
theorem dL_law_2115 : decode cL_law 2115 = .ok (.aload_n 0, 1) := by decide +kernel
theorem dL_law_2116 : decode cL_law 2116 = .ok (.iload 5, 2) := by decide +kernel
theorem dL_law_2118 : decode cL_law 2118 = .ok (.iconst 2, 1) := by decide +kernel
theorem dL_law_2119 : decode cL_law 2119 = .ok (.iadd, 1) := by decide +kernel
theorem dL_law_2120 : decode cL_law 2120 = .ok (.iaload, 1) := by decide +kernel
theorem dL_law_2121 : decode cL_law 2121 = .ok (.aload_n 3, 1) := by decide +kernel
theorem dL_law_2122 : decode cL_law 2122 = .ok (.invokestatic 272, 3) := by decide +kernel
theorem dL_law_2125 : decode cL_law 2125 = .ok (.istore 6, 2) := by decide +kernel
theorem dL_law_2127 : decode cL_law 2127 = .ok (.aload_n 2, 1) := by decide +kernel
theorem dL_law_2128 : decode cL_law 2128 = .ok (.aload_n 0, 1) := by decide +kernel
theorem dL_law_2129 : decode cL_law 2129 = .ok (.iload 5, 2) := by decide +kernel
theorem dL_law_2131 : decode cL_law 2131 = .ok (.iconst 1, 1) := by decide +kernel
theorem dL_law_2132 : decode cL_law 2132 = .ok (.iadd, 1) := by decide +kernel
theorem dL_law_2133 : decode cL_law 2133 = .ok (.iaload, 1) := by decide +kernel
theorem dL_law_2134 : decode cL_law 2134 = .ok (.aload_n 0, 1) := by decide +kernel
theorem dL_law_2135 : decode cL_law 2135 = .ok (.iload 5, 2) := by decide +kernel
theorem dL_law_2137 : decode cL_law 2137 = .ok (.iconst 2, 1) := by decide +kernel
theorem dL_law_2138 : decode cL_law 2138 = .ok (.iadd, 1) := by decide +kernel
theorem dL_law_2139 : decode cL_law 2139 = .ok (.iaload, 1) := by decide +kernel
theorem dL_law_2140 : decode cL_law 2140 = .ok (.invokevirtual 274, 3) := by decide +kernel
theorem dL_law_2143 : decode cL_law 2143 = .ok (.istore 7, 2) := by decide +kernel
theorem dL_law_2145 : decode cL_law 2145 = .ok (.aload_n 2, 1) := by decide +kernel
theorem dL_law_2146 : decode cL_law 2146 = .ok (.invokevirtual 145, 3) := by decide +kernel
theorem dL_law_2149 : decode cL_law 2149 = .ok (.iload 6, 2) := by decide +kernel
theorem dL_law_2151 : decode cL_law 2151 = .ok (.if_icmp .eq 5, 3) := by decide +kernel
theorem dL_law_2156 : decode cL_law 2156 = .ok (.iload 6, 2) := by decide +kernel
theorem dL_law_2158 : decode cL_law 2158 = .ok (.ifCond .ne 15, 3) := by decide +kernel
theorem dL_law_2161 : decode cL_law 2161 = .ok (.aload_n 3, 1) := by decide +kernel
theorem dL_law_2162 : decode cL_law 2162 = .ok (.iconst 0, 1) := by decide +kernel
theorem dL_law_2163 : decode cL_law 2163 = .ok (.laload, 1) := by decide +kernel
theorem dL_law_2164 : decode cL_law 2164 = .ok (.iload 7, 2) := by decide +kernel
theorem dL_law_2166 : decode cL_law 2166 = .ok (.i2l, 1) := by decide +kernel
theorem dL_law_2167 : decode cL_law 2167 = .ok (.lcmp, 1) := by decide +kernel
theorem dL_law_2168 : decode cL_law 2168 = .ok (.ifCond .eq 5, 3) := by decide +kernel
theorem dL_law_2173 : decode cL_law 2173 = .ok (.goto 617, 3) := by decide +kernel
theorem dL_law_2176 : decode cL_law 2176 = .ok (.aload_n 1, 1) := by decide +kernel
theorem dL_law_2177 : decode cL_law 2177 = .ok (.aload_n 0, 1) := by decide +kernel
theorem dL_law_2178 : decode cL_law 2178 = .ok (.iload 5, 2) := by decide +kernel
theorem dL_law_2180 : decode cL_law 2180 = .ok (.iconst 1, 1) := by decide +kernel
theorem dL_law_2181 : decode cL_law 2181 = .ok (.iadd, 1) := by decide +kernel
theorem dL_law_2182 : decode cL_law 2182 = .ok (.iaload, 1) := by decide +kernel
theorem dL_law_2183 : decode cL_law 2183 = .ok (.aload_n 0, 1) := by decide +kernel
theorem dL_law_2184 : decode cL_law 2184 = .ok (.iload 5, 2) := by decide +kernel
theorem dL_law_2186 : decode cL_law 2186 = .ok (.iconst 2, 1) := by decide +kernel
theorem dL_law_2187 : decode cL_law 2187 = .ok (.iadd, 1) := by decide +kernel
theorem dL_law_2188 : decode cL_law 2188 = .ok (.iaload, 1) := by decide +kernel
theorem dL_law_2189 : decode cL_law 2189 = .ok (.aload_n 3, 1) := by decide +kernel
theorem dL_law_2190 : decode cL_law 2190 = .ok (.invokestatic 275, 3) := by decide +kernel
theorem dL_law_2193 : decode cL_law 2193 = .ok (.istore 6, 2) := by decide +kernel
theorem dL_law_2195 : decode cL_law 2195 = .ok (.aload_n 2, 1) := by decide +kernel
theorem dL_law_2196 : decode cL_law 2196 = .ok (.aload_n 0, 1) := by decide +kernel
theorem dL_law_2197 : decode cL_law 2197 = .ok (.iload 5, 2) := by decide +kernel
theorem dL_law_2199 : decode cL_law 2199 = .ok (.iconst 1, 1) := by decide +kernel
theorem dL_law_2200 : decode cL_law 2200 = .ok (.iadd, 1) := by decide +kernel
theorem dL_law_2201 : decode cL_law 2201 = .ok (.iaload, 1) := by decide +kernel
theorem dL_law_2202 : decode cL_law 2202 = .ok (.aload_n 0, 1) := by decide +kernel
theorem dL_law_2203 : decode cL_law 2203 = .ok (.iload 5, 2) := by decide +kernel
theorem dL_law_2205 : decode cL_law 2205 = .ok (.iconst 2, 1) := by decide +kernel
theorem dL_law_2206 : decode cL_law 2206 = .ok (.iadd, 1) := by decide +kernel
theorem dL_law_2207 : decode cL_law 2207 = .ok (.iaload, 1) := by decide +kernel
theorem dL_law_2208 : decode cL_law 2208 = .ok (.invokevirtual 277, 3) := by decide +kernel
theorem dL_law_2211 : decode cL_law 2211 = .ok (.istore 7, 2) := by decide +kernel
theorem dL_law_2213 : decode cL_law 2213 = .ok (.aload_n 2, 1) := by decide +kernel
theorem dL_law_2214 : decode cL_law 2214 = .ok (.invokevirtual 145, 3) := by decide +kernel
theorem dL_law_2217 : decode cL_law 2217 = .ok (.iload 6, 2) := by decide +kernel
theorem dL_law_2219 : decode cL_law 2219 = .ok (.if_icmp .eq 5, 3) := by decide +kernel
theorem dL_law_2224 : decode cL_law 2224 = .ok (.iload 6, 2) := by decide +kernel
theorem dL_law_2226 : decode cL_law 2226 = .ok (.ifCond .ne 15, 3) := by decide +kernel
theorem dL_law_2229 : decode cL_law 2229 = .ok (.aload_n 3, 1) := by decide +kernel
theorem dL_law_2230 : decode cL_law 2230 = .ok (.iconst 0, 1) := by decide +kernel
theorem dL_law_2231 : decode cL_law 2231 = .ok (.laload, 1) := by decide +kernel
theorem dL_law_2232 : decode cL_law 2232 = .ok (.iload 7, 2) := by decide +kernel
theorem dL_law_2234 : decode cL_law 2234 = .ok (.i2l, 1) := by decide +kernel
theorem dL_law_2235 : decode cL_law 2235 = .ok (.lcmp, 1) := by decide +kernel
theorem dL_law_2236 : decode cL_law 2236 = .ok (.ifCond .eq 5, 3) := by decide +kernel
theorem dL_law_2241 : decode cL_law 2241 = .ok (.goto 549, 3) := by decide +kernel
theorem dL_law_2244 : decode cL_law 2244 = .ok (.aload_n 1, 1) := by decide +kernel
theorem dL_law_2245 : decode cL_law 2245 = .ok (.aload_n 0, 1) := by decide +kernel
theorem dL_law_2246 : decode cL_law 2246 = .ok (.iload 5, 2) := by decide +kernel
theorem dL_law_2248 : decode cL_law 2248 = .ok (.iconst 1, 1) := by decide +kernel
theorem dL_law_2249 : decode cL_law 2249 = .ok (.iadd, 1) := by decide +kernel
theorem dL_law_2250 : decode cL_law 2250 = .ok (.iaload, 1) := by decide +kernel
theorem dL_law_2251 : decode cL_law 2251 = .ok (.aload 4, 2) := by decide +kernel
theorem dL_law_2253 : decode cL_law 2253 = .ok (.invokestatic 278, 3) := by decide +kernel
theorem dL_law_2256 : decode cL_law 2256 = .ok (.istore 6, 2) := by decide +kernel
theorem dL_law_2258 : decode cL_law 2258 = .ok (.aload_n 2, 1) := by decide +kernel
theorem dL_law_2259 : decode cL_law 2259 = .ok (.aload_n 0, 1) := by decide +kernel
theorem dL_law_2260 : decode cL_law 2260 = .ok (.iload 5, 2) := by decide +kernel
theorem dL_law_2262 : decode cL_law 2262 = .ok (.iconst 1, 1) := by decide +kernel
theorem dL_law_2263 : decode cL_law 2263 = .ok (.iadd, 1) := by decide +kernel
theorem dL_law_2264 : decode cL_law 2264 = .ok (.iaload, 1) := by decide +kernel
theorem dL_law_2265 : decode cL_law 2265 = .ok (.invokevirtual 281, 3) := by decide +kernel
theorem dL_law_2268 : decode cL_law 2268 = .ok (.dstore 7, 2) := by decide +kernel
theorem dL_law_2270 : decode cL_law 2270 = .ok (.aload_n 2, 1) := by decide +kernel
theorem dL_law_2271 : decode cL_law 2271 = .ok (.invokevirtual 145, 3) := by decide +kernel
theorem dL_law_2274 : decode cL_law 2274 = .ok (.iload 6, 2) := by decide +kernel
theorem dL_law_2276 : decode cL_law 2276 = .ok (.if_icmp .eq 5, 3) := by decide +kernel
theorem dL_law_2281 : decode cL_law 2281 = .ok (.iload 6, 2) := by decide +kernel
theorem dL_law_2283 : decode cL_law 2283 = .ok (.ifCond .ne 35, 3) := by decide +kernel
theorem dL_law_2286 : decode cL_law 2286 = .ok (.aload 4, 2) := by decide +kernel
theorem dL_law_2288 : decode cL_law 2288 = .ok (.iconst 0, 1) := by decide +kernel
theorem dL_law_2289 : decode cL_law 2289 = .ok (.daload, 1) := by decide +kernel
theorem dL_law_2290 : decode cL_law 2290 = .ok (.dload 7, 2) := by decide +kernel
theorem dL_law_2292 : decode cL_law 2292 = .ok (.dcmp .l, 1) := by decide +kernel
theorem dL_law_2293 : decode cL_law 2293 = .ok (.ifCond .eq 25, 3) := by decide +kernel
theorem dL_law_2318 : decode cL_law 2318 = .ok (.goto 472, 3) := by decide +kernel
theorem tl_L_249 : Cond.methodLink RL 249 yX7_finish ∈ TMW := tm_in 778 (by decide +kernel) (by decide +kernel)
theorem ti_X7_finish : Cond.instanceMethod yX7_finish ∈ TMW := tm_in 779 (by decide +kernel) (by decide +kernel)
theorem ts_X7_finish : Cond.selects RX7 yX7_finish yX7_finish ∈ TMW := tm_in 780 (by decide +kernel) (by decide +kernel)
theorem tc_X7_finish : Cond.code yX7_finish cX7_finish 1 (some .int) ∈ TMW := tm_in 781 (by decide +kernel) (by decide +kernel)
theorem tl_L_252 : Cond.methodLink RL 252 yX8_finish ∈ TMW := tm_in 1963 (by decide +kernel) (by decide +kernel)
theorem tl_L_253 : Cond.methodLink RL 253 yL_fill ∈ TMW := tm_in 1113 (by decide +kernel) (by decide +kernel)
theorem tst_L_fill : Cond.static yL_fill ∈ TMW := tm_in 1114 (by decide +kernel) (by decide +kernel)
theorem tc_L_fill : Cond.codeWith yL_fill cL_fill 7 (some .int) [(0, 14, 17, 28), (0, 14, 21, 18)] ∈ TMW := tm_in 1115 (by decide +kernel) (by decide +kernel)
theorem tl_L_256 : Cond.methodLink RL 256 yX8_fill ∈ TMW := tm_in 1773 (by decide +kernel) (by decide +kernel)
theorem ti_X8_fill : Cond.instanceMethod yX8_fill ∈ TMW := tm_in 1774 (by decide +kernel) (by decide +kernel)
theorem ts_X8_fill : Cond.selects RX8 yX8_fill yX8_fill ∈ TMW := tm_in 1775 (by decide +kernel) (by decide +kernel)
theorem tc_X8_fill : Cond.code yX8_fill cX8_fill 7 (some .int) ∈ TMW := tm_in 1776 (by decide +kernel) (by decide +kernel)
theorem tl_L_257 : Cond.methodLink RL 257 yL_clearRange ∈ TMW := tm_in 1123 (by decide +kernel) (by decide +kernel)
theorem tst_L_clearRange : Cond.static yL_clearRange ∈ TMW := tm_in 1124 (by decide +kernel) (by decide +kernel)
theorem tc_L_clearRange : Cond.codeWith yL_clearRange cL_clearRange 5 (some .int) [(0, 10, 13, 28)] ∈ TMW := tm_in 1125 (by decide +kernel) (by decide +kernel)
theorem tl_L_259 : Cond.methodLink RL 259 yX8_clearRange ∈ TMW := tm_in 1820 (by decide +kernel) (by decide +kernel)
theorem ti_X8_clearRange : Cond.instanceMethod yX8_clearRange ∈ TMW := tm_in 1821 (by decide +kernel) (by decide +kernel)
theorem ts_X8_clearRange : Cond.selects RX8 yX8_clearRange yX8_clearRange ∈ TMW := tm_in 1822 (by decide +kernel) (by decide +kernel)
theorem tc_X8_clearRange : Cond.code yX8_clearRange cX8_clearRange 5 (some .int) ∈ TMW := tm_in 1823 (by decide +kernel) (by decide +kernel)
theorem tl_L_260 : Cond.methodLink RL 260 yL_why ∈ TMW := tm_in 1130 (by decide +kernel) (by decide +kernel)
theorem tst_L_why : Cond.static yL_why ∈ TMW := tm_in 1131 (by decide +kernel) (by decide +kernel)
theorem tc_L_why : Cond.codeWith yL_why cL_why 5 (some .int) [(0, 10, 13, 18)] ∈ TMW := tm_in 1132 (by decide +kernel) (by decide +kernel)
theorem tl_L_262 : Cond.methodLink RL 262 yX8_why ∈ TMW := tm_in 1971 (by decide +kernel) (by decide +kernel)
theorem ti_X8_why : Cond.instanceMethod yX8_why ∈ TMW := tm_in 1972 (by decide +kernel) (by decide +kernel)
theorem ts_X8_why : Cond.selects RX8 yX8_why yX8_why ∈ TMW := tm_in 1973 (by decide +kernel) (by decide +kernel)
theorem tc_X8_why : Cond.code yX8_why cX8_why 4 (some .int) ∈ TMW := tm_in 1974 (by decide +kernel) (by decide +kernel)
theorem tl_L_263 : Cond.methodLink RL 263 yL_next ∈ TMW := tm_in 1137 (by decide +kernel) (by decide +kernel)
theorem tst_L_next : Cond.static yL_next ∈ TMW := tm_in 1138 (by decide +kernel) (by decide +kernel)
theorem tc_L_next : Cond.codeWith yL_next cL_next 4 (some .int) [(0, 9, 12, 18)] ∈ TMW := tm_in 1139 (by decide +kernel) (by decide +kernel)
theorem tl_L_265 : Cond.methodLink RL 265 yX8_next ∈ TMW := tm_in 1975 (by decide +kernel) (by decide +kernel)
theorem ti_X8_next : Cond.instanceMethod yX8_next ∈ TMW := tm_in 1976 (by decide +kernel) (by decide +kernel)
theorem ts_X8_next : Cond.selects RX8 yX8_next yX8_next ∈ TMW := tm_in 1977 (by decide +kernel) (by decide +kernel)
theorem tc_X8_next : Cond.code yX8_next cX8_next 2 (some .int) ∈ TMW := tm_in 1978 (by decide +kernel) (by decide +kernel)
theorem tl_L_266 : Cond.methodLink RL 266 yL_advance ∈ TMW := tm_in 1159 (by decide +kernel) (by decide +kernel)
theorem tst_L_advance : Cond.static yL_advance ∈ TMW := tm_in 1160 (by decide +kernel) (by decide +kernel)
theorem tc_L_advance : Cond.codeWith yL_advance cL_advance 4 (some .int) [(0, 9, 12, 18)] ∈ TMW := tm_in 1161 (by decide +kernel) (by decide +kernel)
theorem tl_L_268 : Cond.methodLink RL 268 yX8_advance ∈ TMW := tm_in 1994 (by decide +kernel) (by decide +kernel)
theorem ti_X8_advance : Cond.instanceMethod yX8_advance ∈ TMW := tm_in 1995 (by decide +kernel) (by decide +kernel)
theorem ts_X8_advance : Cond.selects RX8 yX8_advance yX8_advance ∈ TMW := tm_in 1996 (by decide +kernel) (by decide +kernel)
theorem tc_X8_advance : Cond.code yX8_advance cX8_advance 3 (some .int) ∈ TMW := tm_in 1997 (by decide +kernel) (by decide +kernel)
theorem tl_L_269 : Cond.methodLink RL 269 yL_differing ∈ TMW := tm_in 1166 (by decide +kernel) (by decide +kernel)
theorem tst_L_differing : Cond.static yL_differing ∈ TMW := tm_in 1167 (by decide +kernel) (by decide +kernel)
theorem tc_L_differing : Cond.codeWith yL_differing cL_differing 4 (some .int) [(0, 9, 12, 28)] ∈ TMW := tm_in 1168 (by decide +kernel) (by decide +kernel)
theorem tl_L_271 : Cond.methodLink RL 271 yX8_differing ∈ TMW := tm_in 2005 (by decide +kernel) (by decide +kernel)
theorem ti_X8_differing : Cond.instanceMethod yX8_differing ∈ TMW := tm_in 2006 (by decide +kernel) (by decide +kernel)
theorem ts_X8_differing : Cond.selects RX8 yX8_differing yX8_differing ∈ TMW := tm_in 2007 (by decide +kernel) (by decide +kernel)
theorem tc_X8_differing : Cond.code yX8_differing cX8_differing 4 (some .int) ∈ TMW := tm_in 2008 (by decide +kernel) (by decide +kernel)
theorem tl_L_272 : Cond.methodLink RL 272 yL_lookup ∈ TMW := tm_in 1173 (by decide +kernel) (by decide +kernel)
theorem tst_L_lookup : Cond.static yL_lookup ∈ TMW := tm_in 1174 (by decide +kernel) (by decide +kernel)
theorem tc_L_lookup : Cond.codeWith yL_lookup cL_lookup 5 (some .int) [(0, 10, 13, 28), (0, 10, 17, 18)] ∈ TMW := tm_in 1175 (by decide +kernel) (by decide +kernel)
theorem tl_L_274 : Cond.methodLink RL 274 yX8_lookup ∈ TMW := tm_in 2009 (by decide +kernel) (by decide +kernel)
theorem ti_X8_lookup : Cond.instanceMethod yX8_lookup ∈ TMW := tm_in 2010 (by decide +kernel) (by decide +kernel)
theorem ts_X8_lookup : Cond.selects RX8 yX8_lookup yX8_lookup ∈ TMW := tm_in 2011 (by decide +kernel) (by decide +kernel)
theorem tc_X8_lookup : Cond.code yX8_lookup cX8_lookup 4 (some .int) ∈ TMW := tm_in 2012 (by decide +kernel) (by decide +kernel)
theorem tl_L_275 : Cond.methodLink RL 275 yL_total ∈ TMW := tm_in 1180 (by decide +kernel) (by decide +kernel)
theorem tst_L_total : Cond.static yL_total ∈ TMW := tm_in 1181 (by decide +kernel) (by decide +kernel)
theorem tc_L_total : Cond.codeWith yL_total cL_total 5 (some .int) [(0, 10, 13, 28), (0, 10, 17, 18)] ∈ TMW := tm_in 1182 (by decide +kernel) (by decide +kernel)
theorem tl_L_277 : Cond.methodLink RL 277 yX8_total ∈ TMW := tm_in 2016 (by decide +kernel) (by decide +kernel)
theorem ti_X8_total : Cond.instanceMethod yX8_total ∈ TMW := tm_in 2017 (by decide +kernel) (by decide +kernel)
theorem ts_X8_total : Cond.selects RX8 yX8_total yX8_total ∈ TMW := tm_in 2018 (by decide +kernel) (by decide +kernel)
theorem tc_X8_total : Cond.code yX8_total cX8_total 3 (some .int) ∈ TMW := tm_in 2019 (by decide +kernel) (by decide +kernel)
theorem tl_L_278 : Cond.methodLink RL 278 yL_mean ∈ TMW := tm_in 1202 (by decide +kernel) (by decide +kernel)
theorem tst_L_mean : Cond.static yL_mean ∈ TMW := tm_in 1203 (by decide +kernel) (by decide +kernel)
theorem tc_L_mean : Cond.codeWith yL_mean cL_mean 4 (some .int) [(0, 8, 11, 28)] ∈ TMW := tm_in 1204 (by decide +kernel) (by decide +kernel)
theorem tl_L_281 : Cond.methodLink RL 281 yX8_mean ∈ TMW := tm_in 2024 (by decide +kernel) (by decide +kernel)
theorem ti_X8_mean : Cond.instanceMethod yX8_mean ∈ TMW := tm_in 2025 (by decide +kernel) (by decide +kernel)
theorem ts_X8_mean : Cond.selects RX8 yX8_mean yX8_mean ∈ TMW := tm_in 2026 (by decide +kernel) (by decide +kernel)
theorem tc_X8_mean : Cond.code yX8_mean cX8_mean 2 (some .double) ∈ TMW := tm_in 2027 (by decide +kernel) (by decide +kernel)
-- ----- case 30: finish
set_option maxRecDepth 100000 in
theorem law_case_30 {p : Program} {l : Launch} {e : Env} {s : State} {m : MethodId} {args : Array Value} {below : List Frame} {meth : Method} {c : Code} {A : Nat → Prop} {D : va_G} {cy : Nat → ClassId} {ad ar : Nat → Nat} {o1 o2 : Nat} {cL cD : ClassId} {adK adV adE : Nat → Nat} {tC : Nat} {Q : State → Prop} {rt : Option FieldType} {cells slots b i L : Nat} {xs : Nat → Int32} {Rel Rel2 : tmM → List Int32 → tmM → Prop} (hl : l.stackTraces = false) (hp : tP_finish Rel Rel2) (hX : va_X b L xs s s.heap) (hbl : b < s.heap.size) (hbA : ¬ A b) (hi : i + 5 ≤ L ∧ L ≤ 2560) (hE : tmSc adK adV adE tC A s s.heap) (hTh : tmTh A s s.heap) (hF : tlF D cy cL cD s) (hcs : cells + 64 ≤ 601024 ∧ slots + 8000 ≤ 7293034) {κ b0 : Nat} {u v w : tmM} {bs : List Int32} {xo : Int64} {xd : UInt64} (C0 : tmC p s m args meth c cL_law 10 rt RL TMW tm_NWC D cy tm_s0 tm_a0 0 (tlW cy ad ar o1 o2 cL cD κ b0 u v w xo xd) A) (hT : tmTx κ u bs) (hR : Rel v bs w) (cont : ∀ (κ b0 : Nat) (u v w : tmM) (bs : List Int32) (xo : Int64) (xd : UInt64), tmC p s m args meth c cL_law 10 rt RL TMW tm_NWC D cy tm_s0 tm_a0 0 (tlW cy ad ar o1 o2 cL cD κ b0 u v w xo xd) A → tmTx κ u bs → Rel2 v bs w → tmG p l e room_1 s m args below meth c (cells + 64) (slots + 8000) Q 10 D cy tm_s0 tm_a0 0 (tlW cy ad ar o1 o2 cL cD κ b0 u v w xo xd) A () 2790 [(0, .ref b), (1, .ref (ad 247)), (2, .ref (ar 0)), (3, .ref o1), (4, .ref o2), (5, .int (nI i))] [] tm_v0 (some ())) : tmG p l e room_1 s m args below meth c (cells) (slots) Q 10 D cy tm_s0 tm_a0 0 (tlW cy ad ar o1 o2 cL cD κ b0 u v w xo xd) A () 1699 [(0, .ref b), (1, .ref (ad 247)), (2, .ref (ar 0)), (3, .ref o1), (4, .ref o2), (5, .int (nI i))] [] tm_v0 (some ()) := by
  obtain ⟨r, v', w', ho, hr, hR'⟩ := hp v bs w hR
  refine tg_aload_n 1 C0 dL_law_1699 rfl rfl ?_
  refine tl_mi (X' := tlW cy ad ar o1 o2 cL cD κ b0 u v' w xo xd) (NW1 := tm_NWC) (pre := []) (suf := (tmXB cy (ad 256) κ b0 u ++ (tm_w cy tm_shR ar 13 w ++ tlO o1 o2 cL cD xo xd))) (sh := tm_shC) (n := 256) (ad := ad) (As := []) (fs := [some 0, some 248, none, none, some 249, none, some 250, some 251, some 256]) 247 0 C0 (List.append_assoc _ _ _) (List.append_assoc _ _ _) (fun _ h => h) tm_NWC_ok dL_law_1700 (c_X7_finish l _) ho rfl rfl (by decide) rfl rfl (tm_gV tl_L_249 ti_X7_finish ts_X7_finish tn_X7 tc_X7_finish) rfl rfl rfl rfl (by decide +kernel) ⟨Nat.le_of_ble_eq_true rfl, Nat.le_of_ble_eq_true rfl⟩ (Nat.le_of_ble_eq_true rfl) ⟨by show _ ≤ 601024; omega, by show _ ≤ 7293034; omega⟩ (fun C0 => ?_)
  refine tg_aload_n 2 C0 dL_law_1703 rfl rfl ?_
  refine tl_mi (X' := tlW cy ad ar o1 o2 cL cD κ b0 u v' w' xo xd) (NW1 := tm_NWR) (pre := (tm_w cy tm_shC ad 256 v' ++ tmXB cy (ad 256) κ b0 u)) (suf := tlO o1 o2 cL cD xo xd) (sh := tm_shR) (n := 13) (ad := ar) (As := []) (fs := [none, some 1, some 2, none, some 3, some 4, some 5, none, none, none, none, none, some 6, none, some 7, some 8, none, none, none, none, none, none, none, some 9, none, some 10, some 11, some 12]) 0 0 C0 rfl rfl (fun _ _ _ h => by cases h) rfl dL_law_1704 (c_X8_finish l _) hr rfl rfl (by decide) rfl rfl (tm_gV tl_L_252 ti_X8_finish ts_X8_finish tn_X8 tc_X8_finish) rfl rfl rfl rfl (by decide +kernel) ⟨Nat.le_of_ble_eq_true rfl, Nat.le_of_ble_eq_true rfl⟩ (Nat.le_of_ble_eq_true rfl) ⟨by show _ ≤ 601024; omega, by show _ ≤ 7293034; omega⟩ (fun C0 => ?_)
  refine tg_eq (r := if r = r then some () else none) (by rw [if_pos rfl]) ?_
  refine tg_icmp_eq 2790 C0 dL_law_1707 (by decide) (fun _ => ?_) (fun q => absurd rfl q)
  exact tl_widen (by omega) (by omega) (cont _ _ _ _ _ _ _ _ C0 hT hR')
-- ----- case 31: fill
set_option maxRecDepth 100000 in
theorem law_case_31 {p : Program} {l : Launch} {e : Env} {s : State} {m : MethodId} {args : Array Value} {below : List Frame} {meth : Method} {c : Code} {A : Nat → Prop} {D : va_G} {cy : Nat → ClassId} {ad ar : Nat → Nat} {o1 o2 : Nat} {cL cD : ClassId} {adK adV adE : Nat → Nat} {tC : Nat} {Q : State → Prop} {rt : Option FieldType} {cells slots b i L : Nat} {xs : Nat → Int32} {Rel Rel2 : tmM → List Int32 → tmM → Prop} (hl : l.stackTraces = false) (hp : tP_fill Rel Rel2) (hX : va_X b L xs s s.heap) (hbl : b < s.heap.size) (hbA : ¬ A b) (hi : i + 5 ≤ L ∧ L ≤ 2560) (hE : tmSc adK adV adE tC A s s.heap) (hTh : tmTh A s s.heap) (hF : tlF D cy cL cD s) (hcs : cells + 64 ≤ 601024 ∧ slots + 8000 ≤ 7293034) {κ b0 : Nat} {u v w : tmM} {bs : List Int32} {xo : Int64} {xd : UInt64} (C0 : tmC p s m args meth c cL_law 10 rt RL TMW tm_NWC D cy tm_s0 tm_a0 0 (tlW cy ad ar o1 o2 cL cD κ b0 u v w xo xd) A) (hT : tmTx κ u bs) (hR : Rel v bs w) (cont : ∀ (κ b0 : Nat) (u v w : tmM) (bs : List Int32) (xo : Int64) (xd : UInt64), tmC p s m args meth c cL_law 10 rt RL TMW tm_NWC D cy tm_s0 tm_a0 0 (tlW cy ad ar o1 o2 cL cD κ b0 u v w xo xd) A → tmTx κ u bs → Rel2 v bs w → tmG p l e room_1 s m args below meth c (cells + 64) (slots + 8000) Q 10 D cy tm_s0 tm_a0 0 (tlW cy ad ar o1 o2 cL cD κ b0 u v w xo xd) A () 2790 [(0, .ref b), (1, .ref (ad 247)), (2, .ref (ar 0)), (3, .ref o1), (4, .ref o2), (5, .int (nI i))] [] tm_v0 (some ())) : tmG p l e room_1 s m args below meth c (cells) (slots) Q 10 D cy tm_s0 tm_a0 0 (tlW cy ad ar o1 o2 cL cD κ b0 u v w xo xd) A () 1712 [(0, .ref b), (1, .ref (ad 247)), (2, .ref (ar 0)), (3, .ref o1), (4, .ref o2), (5, .int (nI i))] [] tm_v0 (some ()) := by
  obtain ⟨k, xo', xd', v', bs', r, w1, w2, ho, hr, ht, heq, hR'⟩ := hp (xs (i + 1)) (xs (i + 2)) (xs (i + 3)) (xs (i + 4)) v bs w xo xd hR
  refine tg_aload_n 1 C0 dL_law_1712 rfl rfl ?_
  refine tg_aload_n 0 C0 dL_law_1713 rfl rfl ?_
  refine tg_iload 5 C0 dL_law_1714 rfl ?_
  refine tg_iconst (x := nI 1) C0 dL_law_1716 (by decide) ?_
  refine tg_iadd C0 dL_law_1717 ?_
  rw [tl_add i 1]
  refine tl_sld C0 hX hbl hbA (tl_idx (by omega) hi.2) dL_law_1718 ?_
  rw [nI_clamp (show i + 1 < 2147483648 by omega)]
  refine tg_aload_n 0 C0 dL_law_1719 rfl rfl ?_
  refine tg_iload 5 C0 dL_law_1720 rfl ?_
  refine tg_iconst (x := nI 2) C0 dL_law_1722 (by decide) ?_
  refine tg_iadd C0 dL_law_1723 ?_
  rw [tl_add i 2]
  refine tl_sld C0 hX hbl hbA (tl_idx (by omega) hi.2) dL_law_1724 ?_
  rw [nI_clamp (show i + 2 < 2147483648 by omega)]
  refine tg_aload_n 0 C0 dL_law_1725 rfl rfl ?_
  refine tg_iload 5 C0 dL_law_1726 rfl ?_
  refine tg_iconst (x := nI 3) C0 dL_law_1728 (by decide) ?_
  refine tg_iadd C0 dL_law_1729 ?_
  rw [tl_add i 3]
  refine tl_sld C0 hX hbl hbA (tl_idx (by omega) hi.2) dL_law_1730 ?_
  rw [nI_clamp (show i + 3 < 2147483648 by omega)]
  refine tg_aload_n 0 C0 dL_law_1731 rfl rfl ?_
  refine tg_iload 5 C0 dL_law_1732 rfl ?_
  refine tg_iconst (x := nI 4) C0 dL_law_1734 (by decide) ?_
  refine tg_iadd C0 dL_law_1735 ?_
  rw [tl_add i 4]
  refine tl_sld C0 hX hbl hbA (tl_idx (by omega) hi.2) dL_law_1736 ?_
  rw [nI_clamp (show i + 4 < 2147483648 by omega)]
  refine tg_aload_n 3 C0 dL_law_1737 rfl rfl ?_
  refine tl_callS (st := []) (st0 := _) (xo' := xo') (xd' := xd') (v' := v') (bs' := bs') 6 C0 hE hTh hF hT dL_law_1738 (cL_c_fill l hl (xs (i + 1)) (xs (i + 2)) (xs (i + 3)) (xs (i + 4)) v bs) ho rfl (tl_gS2 tl_L_253 tst_L_fill tn_L tc_L_fill) rfl rfl rfl rfl (by decide +kernel) ⟨Nat.le_of_ble_eq_true rfl, Nat.le_of_ble_eq_true rfl⟩ (Nat.le_of_ble_eq_true rfl) ⟨by show _ ≤ 601024; omega, by show _ ≤ 7293034; omega⟩ (fun κ b0 u hT C0 => ?_)
  refine tg_istore [(6, .int k), (0, .ref b), (1, .ref (ad 247)), (2, .ref (ar 0)), (3, .ref o1), (4, .ref o2), (5, .int (nI i))] C0 dL_law_1741 (by decide) rfl ?_
  refine tg_aload_n 3 C0 dL_law_1743 rfl rfl ?_
  refine tg_aload_n 1 C0 dL_law_1744 rfl rfl ?_
  refine tg_iload 6 C0 dL_law_1745 rfl ?_
  refine tg_iconst (x := nI 1) C0 dL_law_1747 (by decide) ?_
  refine tg_iadd C0 dL_law_1748 ?_
  rw [tl_add i 1]
  refine tl_sld C0 hX hbl hbA (tl_idx (by omega) hi.2) dL_law_1749 ?_
  rw [nI_clamp (show i + 1 < 2147483648 by omega)]
  refine tg_aload_n 1 C0 dL_law_1750 rfl rfl ?_
  refine tg_iload 6 C0 dL_law_1751 rfl ?_
  refine tg_iconst (x := nI 2) C0 dL_law_1753 (by decide) ?_
  refine tg_iadd C0 dL_law_1754 ?_
  rw [tl_add i 2]
  refine tl_sld C0 hX hbl hbA (tl_idx (by omega) hi.2) dL_law_1755 ?_
  rw [nI_clamp (show i + 2 < 2147483648 by omega)]
  refine tg_aload_n 1 C0 dL_law_1756 rfl rfl ?_
  refine tg_iload 6 C0 dL_law_1757 rfl ?_
  refine tg_iconst (x := nI 3) C0 dL_law_1759 (by decide) ?_
  refine tg_iadd C0 dL_law_1760 ?_
  rw [tl_add i 3]
  refine tl_sld C0 hX hbl hbA (tl_idx (by omega) hi.2) dL_law_1761 ?_
  rw [nI_clamp (show i + 3 < 2147483648 by omega)]
  refine tg_aload_n 1 C0 dL_law_1762 rfl rfl ?_
  refine tg_iload 6 C0 dL_law_1763 rfl ?_
  refine tg_iconst (x := nI 4) C0 dL_law_1765 (by decide) ?_
  refine tg_iadd C0 dL_law_1766 ?_
  rw [tl_add i 4]
  refine tl_sld C0 hX hbl hbA (tl_idx (by omega) hi.2) dL_law_1767 ?_
  rw [nI_clamp (show i + 4 < 2147483648 by omega)]
  refine tl_mi (X' := tlW cy ad ar o1 o2 cL cD κ b0 u v' w1 xo' xd') (NW1 := tm_NWR) (pre := (tm_w cy tm_shC ad 256 v' ++ tmXB cy (ad 256) κ b0 u)) (suf := tlO o1 o2 cL cD xo' xd') (sh := tm_shR) (n := 13) (ad := ar) (As := [.int (xs (i + 1)), .int (xs (i + 2)), .int (xs (i + 3)), .int (xs (i + 4))]) (fs := [none, some 1, some 2, none, some 3, some 4, some 5, none, none, none, none, none, some 6, none, some 7, some 8, none, none, none, none, none, none, none, some 9, none, some 10, some 11, some 12]) 0 4 C0 rfl rfl (fun _ _ _ h => by cases h) rfl dL_law_1768 (c_X8_fill l (xs (i + 1)) (xs (i + 2)) (xs (i + 3)) (xs (i + 4)) _) hr rfl rfl (by decide) rfl rfl (tm_gV tl_L_256 ti_X8_fill ts_X8_fill tn_X8 tc_X8_fill) rfl rfl rfl rfl (by decide +kernel) ⟨Nat.le_of_ble_eq_true rfl, Nat.le_of_ble_eq_true rfl⟩ (Nat.le_of_ble_eq_true rfl) ⟨by show _ ≤ 601024; omega, by show _ ≤ 7293034; omega⟩ (fun C0 => ?_)
  refine tg_istore [(7, .int r), (6, .int k), (0, .ref b), (1, .ref (ad 247)), (2, .ref (ar 0)), (3, .ref o1), (4, .ref o2), (5, .int (nI i))] C0 dL_law_1771 (by decide) rfl ?_
  refine tg_aload_n 4 C0 dL_law_1773 rfl rfl ?_
  refine tl_mi (X' := tlW cy ad ar o1 o2 cL cD κ b0 u v' w2 xo' xd') (NW1 := tm_NWR) (pre := (tm_w cy tm_shC ad 256 v' ++ tmXB cy (ad 256) κ b0 u)) (suf := tlO o1 o2 cL cD xo' xd') (sh := tm_shR) (n := 13) (ad := ar) (As := []) (fs := [none, some 1, some 2, none, some 3, some 4, some 5, none, none, none, none, none, some 6, none, some 7, some 8, none, none, none, none, none, none, none, some 9, none, some 10, some 11, some 12]) 0 0 C0 rfl rfl (fun _ _ _ h => by cases h) rfl dL_law_1774 (c_X8_thrown l _) ht rfl rfl (by decide) rfl rfl (tm_gV tl_L_145 ti_X8_thrown ts_X8_thrown tn_X8 tc_X8_thrown) rfl rfl rfl rfl (by decide +kernel) ⟨Nat.le_of_ble_eq_true rfl, Nat.le_of_ble_eq_true rfl⟩ (Nat.le_of_ble_eq_true rfl) ⟨by show _ ≤ 601024; omega, by show _ ≤ 7293034; omega⟩ (fun C0 => ?_)
  refine tg_iload 1 C0 dL_law_1777 rfl ?_
  refine tg_eq (r := if k = k then some () else none) (by rw [if_pos rfl]) ?_
  refine tg_icmp_eq 1784 C0 dL_law_1779 (by decide) (fun _ => ?_) (fun q => absurd rfl q)
  refine tg_iload 1 C0 dL_law_1784 rfl ?_
  refine tg_eq (r := if k = 0 then some () else some ()) (by split <;> rfl) ?_
  refine tg_if_ne 1801 C0 dL_law_1786 (by decide) (fun _ => ?_) (fun hk => ?_)
  · refine tg_goto 2790 C0 dL_law_1801 (by decide) ?_
    refine tg_sub (lv' := [(0, .ref b), (1, .ref (ad 247)), (2, .ref (ar 0)), (3, .ref o1), (4, .ref o2), (5, .int (nI i))]) [2, 3, 4, 5, 6, 7] rfl ?_
    exact tl_widen (by omega) (by omega) (cont _ _ _ _ _ _ _ _ C0 hT hR')
  refine tg_aload_n 5 C0 dL_law_1789 rfl rfl ?_
  refine tg_iconst (x := 0) C0 dL_law_1790 (by decide) ?_
  refine tl_lald C0 hF dL_law_1791 ?_
  refine tg_iload 0 C0 dL_law_1792 rfl ?_
  refine tl_i2l C0 dL_law_1794 ?_
  refine tl_lcmp (heq hk) C0 dL_law_1795 ?_
  refine tg_eq (r := if (0 : Int32) = 0 then some () else none) (by rw [if_pos rfl]) ?_
  refine tg_if_eq 1801 C0 dL_law_1796 (by decide) (fun _ => ?_) (fun q => absurd rfl q)
  refine tg_goto 2790 C0 dL_law_1801 (by decide) ?_
  refine tg_sub (lv' := [(0, .ref b), (1, .ref (ad 247)), (2, .ref (ar 0)), (3, .ref o1), (4, .ref o2), (5, .int (nI i))]) [2, 3, 4, 5, 6, 7] rfl ?_
  exact tl_widen (by omega) (by omega) (cont _ _ _ _ _ _ _ _ C0 hT hR')
-- ----- case 32: clearRange
set_option maxRecDepth 100000 in
theorem law_case_32 {p : Program} {l : Launch} {e : Env} {s : State} {m : MethodId} {args : Array Value} {below : List Frame} {meth : Method} {c : Code} {A : Nat → Prop} {D : va_G} {cy : Nat → ClassId} {ad ar : Nat → Nat} {o1 o2 : Nat} {cL cD : ClassId} {adK adV adE : Nat → Nat} {tC : Nat} {Q : State → Prop} {rt : Option FieldType} {cells slots b i L : Nat} {xs : Nat → Int32} {Rel Rel2 : tmM → List Int32 → tmM → Prop} (hl : l.stackTraces = false) (hp : tP_clearRange Rel Rel2) (hX : va_X b L xs s s.heap) (hbl : b < s.heap.size) (hbA : ¬ A b) (hi : i + 5 ≤ L ∧ L ≤ 2560) (hE : tmSc adK adV adE tC A s s.heap) (hTh : tmTh A s s.heap) (hF : tlF D cy cL cD s) (hcs : cells + 64 ≤ 601024 ∧ slots + 8000 ≤ 7293034) {κ b0 : Nat} {u v w : tmM} {bs : List Int32} {xo : Int64} {xd : UInt64} (C0 : tmC p s m args meth c cL_law 10 rt RL TMW tm_NWC D cy tm_s0 tm_a0 0 (tlW cy ad ar o1 o2 cL cD κ b0 u v w xo xd) A) (hT : tmTx κ u bs) (hR : Rel v bs w) (cont : ∀ (κ b0 : Nat) (u v w : tmM) (bs : List Int32) (xo : Int64) (xd : UInt64), tmC p s m args meth c cL_law 10 rt RL TMW tm_NWC D cy tm_s0 tm_a0 0 (tlW cy ad ar o1 o2 cL cD κ b0 u v w xo xd) A → tmTx κ u bs → Rel2 v bs w → tmG p l e room_1 s m args below meth c (cells + 64) (slots + 8000) Q 10 D cy tm_s0 tm_a0 0 (tlW cy ad ar o1 o2 cL cD κ b0 u v w xo xd) A () 2790 [(0, .ref b), (1, .ref (ad 247)), (2, .ref (ar 0)), (3, .ref o1), (4, .ref o2), (5, .int (nI i))] [] tm_v0 (some ())) : tmG p l e room_1 s m args below meth c (cells) (slots) Q 10 D cy tm_s0 tm_a0 0 (tlW cy ad ar o1 o2 cL cD κ b0 u v w xo xd) A () 1804 [(0, .ref b), (1, .ref (ad 247)), (2, .ref (ar 0)), (3, .ref o1), (4, .ref o2), (5, .int (nI i))] [] tm_v0 (some ()) := by
  obtain ⟨k, xo', xd', v', bs', r, w1, w2, ho, hr, ht, heq, hR'⟩ := hp (xs (i + 1)) (xs (i + 2)) v bs w xo xd hR
  refine tg_aload_n 1 C0 dL_law_1804 rfl rfl ?_
  refine tg_aload_n 0 C0 dL_law_1805 rfl rfl ?_
  refine tg_iload 5 C0 dL_law_1806 rfl ?_
  refine tg_iconst (x := nI 1) C0 dL_law_1808 (by decide) ?_
  refine tg_iadd C0 dL_law_1809 ?_
  rw [tl_add i 1]
  refine tl_sld C0 hX hbl hbA (tl_idx (by omega) hi.2) dL_law_1810 ?_
  rw [nI_clamp (show i + 1 < 2147483648 by omega)]
  refine tg_aload_n 0 C0 dL_law_1811 rfl rfl ?_
  refine tg_iload 5 C0 dL_law_1812 rfl ?_
  refine tg_iconst (x := nI 2) C0 dL_law_1814 (by decide) ?_
  refine tg_iadd C0 dL_law_1815 ?_
  rw [tl_add i 2]
  refine tl_sld C0 hX hbl hbA (tl_idx (by omega) hi.2) dL_law_1816 ?_
  rw [nI_clamp (show i + 2 < 2147483648 by omega)]
  refine tg_aload_n 3 C0 dL_law_1817 rfl rfl ?_
  refine tl_callS (st := []) (st0 := _) (xo' := xo') (xd' := xd') (v' := v') (bs' := bs') 4 C0 hE hTh hF hT dL_law_1818 (cL_c_clearRange l hl (xs (i + 1)) (xs (i + 2)) v bs) ho rfl (tl_gS2 tl_L_257 tst_L_clearRange tn_L tc_L_clearRange) rfl rfl rfl rfl (by decide +kernel) ⟨Nat.le_of_ble_eq_true rfl, Nat.le_of_ble_eq_true rfl⟩ (Nat.le_of_ble_eq_true rfl) ⟨by show _ ≤ 601024; omega, by show _ ≤ 7293034; omega⟩ (fun κ b0 u hT C0 => ?_)
  refine tg_istore [(6, .int k), (0, .ref b), (1, .ref (ad 247)), (2, .ref (ar 0)), (3, .ref o1), (4, .ref o2), (5, .int (nI i))] C0 dL_law_1821 (by decide) rfl ?_
  refine tg_aload_n 3 C0 dL_law_1823 rfl rfl ?_
  refine tg_aload_n 1 C0 dL_law_1824 rfl rfl ?_
  refine tg_iload 6 C0 dL_law_1825 rfl ?_
  refine tg_iconst (x := nI 1) C0 dL_law_1827 (by decide) ?_
  refine tg_iadd C0 dL_law_1828 ?_
  rw [tl_add i 1]
  refine tl_sld C0 hX hbl hbA (tl_idx (by omega) hi.2) dL_law_1829 ?_
  rw [nI_clamp (show i + 1 < 2147483648 by omega)]
  refine tg_aload_n 1 C0 dL_law_1830 rfl rfl ?_
  refine tg_iload 6 C0 dL_law_1831 rfl ?_
  refine tg_iconst (x := nI 2) C0 dL_law_1833 (by decide) ?_
  refine tg_iadd C0 dL_law_1834 ?_
  rw [tl_add i 2]
  refine tl_sld C0 hX hbl hbA (tl_idx (by omega) hi.2) dL_law_1835 ?_
  rw [nI_clamp (show i + 2 < 2147483648 by omega)]
  refine tl_mi (X' := tlW cy ad ar o1 o2 cL cD κ b0 u v' w1 xo' xd') (NW1 := tm_NWR) (pre := (tm_w cy tm_shC ad 256 v' ++ tmXB cy (ad 256) κ b0 u)) (suf := tlO o1 o2 cL cD xo' xd') (sh := tm_shR) (n := 13) (ad := ar) (As := [.int (xs (i + 1)), .int (xs (i + 2))]) (fs := [none, some 1, some 2, none, some 3, some 4, some 5, none, none, none, none, none, some 6, none, some 7, some 8, none, none, none, none, none, none, none, some 9, none, some 10, some 11, some 12]) 0 2 C0 rfl rfl (fun _ _ _ h => by cases h) rfl dL_law_1836 (c_X8_clearRange l (xs (i + 1)) (xs (i + 2)) _) hr rfl rfl (by decide) rfl rfl (tm_gV tl_L_259 ti_X8_clearRange ts_X8_clearRange tn_X8 tc_X8_clearRange) rfl rfl rfl rfl (by decide +kernel) ⟨Nat.le_of_ble_eq_true rfl, Nat.le_of_ble_eq_true rfl⟩ (Nat.le_of_ble_eq_true rfl) ⟨by show _ ≤ 601024; omega, by show _ ≤ 7293034; omega⟩ (fun C0 => ?_)
  refine tg_istore [(7, .int r), (6, .int k), (0, .ref b), (1, .ref (ad 247)), (2, .ref (ar 0)), (3, .ref o1), (4, .ref o2), (5, .int (nI i))] C0 dL_law_1839 (by decide) rfl ?_
  refine tg_aload_n 4 C0 dL_law_1841 rfl rfl ?_
  refine tl_mi (X' := tlW cy ad ar o1 o2 cL cD κ b0 u v' w2 xo' xd') (NW1 := tm_NWR) (pre := (tm_w cy tm_shC ad 256 v' ++ tmXB cy (ad 256) κ b0 u)) (suf := tlO o1 o2 cL cD xo' xd') (sh := tm_shR) (n := 13) (ad := ar) (As := []) (fs := [none, some 1, some 2, none, some 3, some 4, some 5, none, none, none, none, none, some 6, none, some 7, some 8, none, none, none, none, none, none, none, some 9, none, some 10, some 11, some 12]) 0 0 C0 rfl rfl (fun _ _ _ h => by cases h) rfl dL_law_1842 (c_X8_thrown l _) ht rfl rfl (by decide) rfl rfl (tm_gV tl_L_145 ti_X8_thrown ts_X8_thrown tn_X8 tc_X8_thrown) rfl rfl rfl rfl (by decide +kernel) ⟨Nat.le_of_ble_eq_true rfl, Nat.le_of_ble_eq_true rfl⟩ (Nat.le_of_ble_eq_true rfl) ⟨by show _ ≤ 601024; omega, by show _ ≤ 7293034; omega⟩ (fun C0 => ?_)
  refine tg_iload 1 C0 dL_law_1845 rfl ?_
  refine tg_eq (r := if k = k then some () else none) (by rw [if_pos rfl]) ?_
  refine tg_icmp_eq 1852 C0 dL_law_1847 (by decide) (fun _ => ?_) (fun q => absurd rfl q)
  refine tg_iload 1 C0 dL_law_1852 rfl ?_
  refine tg_eq (r := if k = 0 then some () else some ()) (by split <;> rfl) ?_
  refine tg_if_ne 1869 C0 dL_law_1854 (by decide) (fun _ => ?_) (fun hk => ?_)
  · refine tg_goto 2790 C0 dL_law_1869 (by decide) ?_
    refine tg_sub (lv' := [(0, .ref b), (1, .ref (ad 247)), (2, .ref (ar 0)), (3, .ref o1), (4, .ref o2), (5, .int (nI i))]) [2, 3, 4, 5, 6, 7] rfl ?_
    exact tl_widen (by omega) (by omega) (cont _ _ _ _ _ _ _ _ C0 hT hR')
  refine tg_aload_n 5 C0 dL_law_1857 rfl rfl ?_
  refine tg_iconst (x := 0) C0 dL_law_1858 (by decide) ?_
  refine tl_lald C0 hF dL_law_1859 ?_
  refine tg_iload 0 C0 dL_law_1860 rfl ?_
  refine tl_i2l C0 dL_law_1862 ?_
  refine tl_lcmp (heq hk) C0 dL_law_1863 ?_
  refine tg_eq (r := if (0 : Int32) = 0 then some () else none) (by rw [if_pos rfl]) ?_
  refine tg_if_eq 1869 C0 dL_law_1864 (by decide) (fun _ => ?_) (fun q => absurd rfl q)
  refine tg_goto 2790 C0 dL_law_1869 (by decide) ?_
  refine tg_sub (lv' := [(0, .ref b), (1, .ref (ad 247)), (2, .ref (ar 0)), (3, .ref o1), (4, .ref o2), (5, .int (nI i))]) [2, 3, 4, 5, 6, 7] rfl ?_
  exact tl_widen (by omega) (by omega) (cont _ _ _ _ _ _ _ _ C0 hT hR')
-- ----- case 33: why
set_option maxRecDepth 100000 in
theorem law_case_33 {p : Program} {l : Launch} {e : Env} {s : State} {m : MethodId} {args : Array Value} {below : List Frame} {meth : Method} {c : Code} {A : Nat → Prop} {D : va_G} {cy : Nat → ClassId} {ad ar : Nat → Nat} {o1 o2 : Nat} {cL cD : ClassId} {adK adV adE : Nat → Nat} {tC : Nat} {Q : State → Prop} {rt : Option FieldType} {cells slots b i L : Nat} {xs : Nat → Int32} {Rel Rel2 : tmM → List Int32 → tmM → Prop} (hl : l.stackTraces = false) (hp : tP_why Rel Rel2) (hX : va_X b L xs s s.heap) (hbl : b < s.heap.size) (hbA : ¬ A b) (hi : i + 5 ≤ L ∧ L ≤ 2560) (hE : tmSc adK adV adE tC A s s.heap) (hTh : tmTh A s s.heap) (hF : tlF D cy cL cD s) (hcs : cells + 64 ≤ 601024 ∧ slots + 8000 ≤ 7293034) {κ b0 : Nat} {u v w : tmM} {bs : List Int32} {xo : Int64} {xd : UInt64} (C0 : tmC p s m args meth c cL_law 10 rt RL TMW tm_NWC D cy tm_s0 tm_a0 0 (tlW cy ad ar o1 o2 cL cD κ b0 u v w xo xd) A) (hT : tmTx κ u bs) (hR : Rel v bs w) (cont : ∀ (κ b0 : Nat) (u v w : tmM) (bs : List Int32) (xo : Int64) (xd : UInt64), tmC p s m args meth c cL_law 10 rt RL TMW tm_NWC D cy tm_s0 tm_a0 0 (tlW cy ad ar o1 o2 cL cD κ b0 u v w xo xd) A → tmTx κ u bs → Rel2 v bs w → tmG p l e room_1 s m args below meth c (cells + 64) (slots + 8000) Q 10 D cy tm_s0 tm_a0 0 (tlW cy ad ar o1 o2 cL cD κ b0 u v w xo xd) A () 2790 [(0, .ref b), (1, .ref (ad 247)), (2, .ref (ar 0)), (3, .ref o1), (4, .ref o2), (5, .int (nI i))] [] tm_v0 (some ())) : tmG p l e room_1 s m args below meth c (cells) (slots) Q 10 D cy tm_s0 tm_a0 0 (tlW cy ad ar o1 o2 cL cD κ b0 u v w xo xd) A () 1872 [(0, .ref b), (1, .ref (ad 247)), (2, .ref (ar 0)), (3, .ref o1), (4, .ref o2), (5, .int (nI i))] [] tm_v0 (some ()) := by
  obtain ⟨k, xo', xd', v', bs', r, w1, w2, ho, hr, ht, heq, hR'⟩ := hp (xs (i + 1)) (xs (i + 2)) v bs w xo xd hR
  refine tg_aload_n 1 C0 dL_law_1872 rfl rfl ?_
  refine tg_aload_n 0 C0 dL_law_1873 rfl rfl ?_
  refine tg_iload 5 C0 dL_law_1874 rfl ?_
  refine tg_iconst (x := nI 1) C0 dL_law_1876 (by decide) ?_
  refine tg_iadd C0 dL_law_1877 ?_
  rw [tl_add i 1]
  refine tl_sld C0 hX hbl hbA (tl_idx (by omega) hi.2) dL_law_1878 ?_
  rw [nI_clamp (show i + 1 < 2147483648 by omega)]
  refine tg_aload_n 0 C0 dL_law_1879 rfl rfl ?_
  refine tg_iload 5 C0 dL_law_1880 rfl ?_
  refine tg_iconst (x := nI 2) C0 dL_law_1882 (by decide) ?_
  refine tg_iadd C0 dL_law_1883 ?_
  rw [tl_add i 2]
  refine tl_sld C0 hX hbl hbA (tl_idx (by omega) hi.2) dL_law_1884 ?_
  rw [nI_clamp (show i + 2 < 2147483648 by omega)]
  refine tg_aload_n 3 C0 dL_law_1885 rfl rfl ?_
  refine tl_callS (st := []) (st0 := _) (xo' := xo') (xd' := xd') (v' := v') (bs' := bs') 4 C0 hE hTh hF hT dL_law_1886 (cL_c_why l hl (xs (i + 1)) (xs (i + 2)) v bs) ho rfl (tl_gS2 tl_L_260 tst_L_why tn_L tc_L_why) rfl rfl rfl rfl (by decide +kernel) ⟨Nat.le_of_ble_eq_true rfl, Nat.le_of_ble_eq_true rfl⟩ (Nat.le_of_ble_eq_true rfl) ⟨by show _ ≤ 601024; omega, by show _ ≤ 7293034; omega⟩ (fun κ b0 u hT C0 => ?_)
  refine tg_istore [(6, .int k), (0, .ref b), (1, .ref (ad 247)), (2, .ref (ar 0)), (3, .ref o1), (4, .ref o2), (5, .int (nI i))] C0 dL_law_1889 (by decide) rfl ?_
  refine tg_aload_n 3 C0 dL_law_1891 rfl rfl ?_
  refine tg_aload_n 1 C0 dL_law_1892 rfl rfl ?_
  refine tg_iload 6 C0 dL_law_1893 rfl ?_
  refine tg_iconst (x := nI 1) C0 dL_law_1895 (by decide) ?_
  refine tg_iadd C0 dL_law_1896 ?_
  rw [tl_add i 1]
  refine tl_sld C0 hX hbl hbA (tl_idx (by omega) hi.2) dL_law_1897 ?_
  rw [nI_clamp (show i + 1 < 2147483648 by omega)]
  refine tg_aload_n 1 C0 dL_law_1898 rfl rfl ?_
  refine tg_iload 6 C0 dL_law_1899 rfl ?_
  refine tg_iconst (x := nI 2) C0 dL_law_1901 (by decide) ?_
  refine tg_iadd C0 dL_law_1902 ?_
  rw [tl_add i 2]
  refine tl_sld C0 hX hbl hbA (tl_idx (by omega) hi.2) dL_law_1903 ?_
  rw [nI_clamp (show i + 2 < 2147483648 by omega)]
  refine tl_mi (X' := tlW cy ad ar o1 o2 cL cD κ b0 u v' w1 xo' xd') (NW1 := tm_NWR) (pre := (tm_w cy tm_shC ad 256 v' ++ tmXB cy (ad 256) κ b0 u)) (suf := tlO o1 o2 cL cD xo' xd') (sh := tm_shR) (n := 13) (ad := ar) (As := [.int (xs (i + 1)), .int (xs (i + 2))]) (fs := [none, some 1, some 2, none, some 3, some 4, some 5, none, none, none, none, none, some 6, none, some 7, some 8, none, none, none, none, none, none, none, some 9, none, some 10, some 11, some 12]) 0 2 C0 rfl rfl (fun _ _ _ h => by cases h) rfl dL_law_1904 (c_X8_why l (xs (i + 1)) (xs (i + 2)) _) hr rfl rfl (by decide) rfl rfl (tm_gV tl_L_262 ti_X8_why ts_X8_why tn_X8 tc_X8_why) rfl rfl rfl rfl (by decide +kernel) ⟨Nat.le_of_ble_eq_true rfl, Nat.le_of_ble_eq_true rfl⟩ (Nat.le_of_ble_eq_true rfl) ⟨by show _ ≤ 601024; omega, by show _ ≤ 7293034; omega⟩ (fun C0 => ?_)
  refine tg_istore [(7, .int r), (6, .int k), (0, .ref b), (1, .ref (ad 247)), (2, .ref (ar 0)), (3, .ref o1), (4, .ref o2), (5, .int (nI i))] C0 dL_law_1907 (by decide) rfl ?_
  refine tg_aload_n 4 C0 dL_law_1909 rfl rfl ?_
  refine tl_mi (X' := tlW cy ad ar o1 o2 cL cD κ b0 u v' w2 xo' xd') (NW1 := tm_NWR) (pre := (tm_w cy tm_shC ad 256 v' ++ tmXB cy (ad 256) κ b0 u)) (suf := tlO o1 o2 cL cD xo' xd') (sh := tm_shR) (n := 13) (ad := ar) (As := []) (fs := [none, some 1, some 2, none, some 3, some 4, some 5, none, none, none, none, none, some 6, none, some 7, some 8, none, none, none, none, none, none, none, some 9, none, some 10, some 11, some 12]) 0 0 C0 rfl rfl (fun _ _ _ h => by cases h) rfl dL_law_1910 (c_X8_thrown l _) ht rfl rfl (by decide) rfl rfl (tm_gV tl_L_145 ti_X8_thrown ts_X8_thrown tn_X8 tc_X8_thrown) rfl rfl rfl rfl (by decide +kernel) ⟨Nat.le_of_ble_eq_true rfl, Nat.le_of_ble_eq_true rfl⟩ (Nat.le_of_ble_eq_true rfl) ⟨by show _ ≤ 601024; omega, by show _ ≤ 7293034; omega⟩ (fun C0 => ?_)
  refine tg_iload 1 C0 dL_law_1913 rfl ?_
  refine tg_eq (r := if k = k then some () else none) (by rw [if_pos rfl]) ?_
  refine tg_icmp_eq 1920 C0 dL_law_1915 (by decide) (fun _ => ?_) (fun q => absurd rfl q)
  refine tg_iload 1 C0 dL_law_1920 rfl ?_
  refine tg_eq (r := if k = 0 then some () else some ()) (by split <;> rfl) ?_
  refine tg_if_ne 1937 C0 dL_law_1922 (by decide) (fun _ => ?_) (fun hk => ?_)
  · refine tg_goto 2790 C0 dL_law_1937 (by decide) ?_
    refine tg_sub (lv' := [(0, .ref b), (1, .ref (ad 247)), (2, .ref (ar 0)), (3, .ref o1), (4, .ref o2), (5, .int (nI i))]) [2, 3, 4, 5, 6, 7] rfl ?_
    exact tl_widen (by omega) (by omega) (cont _ _ _ _ _ _ _ _ C0 hT hR')
  refine tg_aload_n 5 C0 dL_law_1925 rfl rfl ?_
  refine tg_iconst (x := 0) C0 dL_law_1926 (by decide) ?_
  refine tl_lald C0 hF dL_law_1927 ?_
  refine tg_iload 0 C0 dL_law_1928 rfl ?_
  refine tl_i2l C0 dL_law_1930 ?_
  refine tl_lcmp (heq hk) C0 dL_law_1931 ?_
  refine tg_eq (r := if (0 : Int32) = 0 then some () else none) (by rw [if_pos rfl]) ?_
  refine tg_if_eq 1937 C0 dL_law_1932 (by decide) (fun _ => ?_) (fun q => absurd rfl q)
  refine tg_goto 2790 C0 dL_law_1937 (by decide) ?_
  refine tg_sub (lv' := [(0, .ref b), (1, .ref (ad 247)), (2, .ref (ar 0)), (3, .ref o1), (4, .ref o2), (5, .int (nI i))]) [2, 3, 4, 5, 6, 7] rfl ?_
  exact tl_widen (by omega) (by omega) (cont _ _ _ _ _ _ _ _ C0 hT hR')
-- ----- case 34: next
set_option maxRecDepth 100000 in
theorem law_case_34 {p : Program} {l : Launch} {e : Env} {s : State} {m : MethodId} {args : Array Value} {below : List Frame} {meth : Method} {c : Code} {A : Nat → Prop} {D : va_G} {cy : Nat → ClassId} {ad ar : Nat → Nat} {o1 o2 : Nat} {cL cD : ClassId} {adK adV adE : Nat → Nat} {tC : Nat} {Q : State → Prop} {rt : Option FieldType} {cells slots b i L : Nat} {xs : Nat → Int32} {Rel Rel2 : tmM → List Int32 → tmM → Prop} (hl : l.stackTraces = false) (hp : tP_next Rel Rel2) (hX : va_X b L xs s s.heap) (hbl : b < s.heap.size) (hbA : ¬ A b) (hi : i + 5 ≤ L ∧ L ≤ 2560) (hE : tmSc adK adV adE tC A s s.heap) (hTh : tmTh A s s.heap) (hF : tlF D cy cL cD s) (hcs : cells + 64 ≤ 601024 ∧ slots + 8000 ≤ 7293034) {κ b0 : Nat} {u v w : tmM} {bs : List Int32} {xo : Int64} {xd : UInt64} (C0 : tmC p s m args meth c cL_law 10 rt RL TMW tm_NWC D cy tm_s0 tm_a0 0 (tlW cy ad ar o1 o2 cL cD κ b0 u v w xo xd) A) (hT : tmTx κ u bs) (hR : Rel v bs w) (cont : ∀ (κ b0 : Nat) (u v w : tmM) (bs : List Int32) (xo : Int64) (xd : UInt64), tmC p s m args meth c cL_law 10 rt RL TMW tm_NWC D cy tm_s0 tm_a0 0 (tlW cy ad ar o1 o2 cL cD κ b0 u v w xo xd) A → tmTx κ u bs → Rel2 v bs w → tmG p l e room_1 s m args below meth c (cells + 64) (slots + 8000) Q 10 D cy tm_s0 tm_a0 0 (tlW cy ad ar o1 o2 cL cD κ b0 u v w xo xd) A () 2790 [(0, .ref b), (1, .ref (ad 247)), (2, .ref (ar 0)), (3, .ref o1), (4, .ref o2), (5, .int (nI i))] [] tm_v0 (some ())) : tmG p l e room_1 s m args below meth c (cells) (slots) Q 10 D cy tm_s0 tm_a0 0 (tlW cy ad ar o1 o2 cL cD κ b0 u v w xo xd) A () 1940 [(0, .ref b), (1, .ref (ad 247)), (2, .ref (ar 0)), (3, .ref o1), (4, .ref o2), (5, .int (nI i))] [] tm_v0 (some ()) := by
  obtain ⟨k, xo', xd', v', bs', r, w1, w2, ho, hr, ht, heq, hR'⟩ := hp (xs (i + 1)) v bs w xo xd hR
  refine tg_aload_n 1 C0 dL_law_1940 rfl rfl ?_
  refine tg_aload_n 0 C0 dL_law_1941 rfl rfl ?_
  refine tg_iload 5 C0 dL_law_1942 rfl ?_
  refine tg_iconst (x := nI 1) C0 dL_law_1944 (by decide) ?_
  refine tg_iadd C0 dL_law_1945 ?_
  rw [tl_add i 1]
  refine tl_sld C0 hX hbl hbA (tl_idx (by omega) hi.2) dL_law_1946 ?_
  rw [nI_clamp (show i + 1 < 2147483648 by omega)]
  refine tg_aload_n 3 C0 dL_law_1947 rfl rfl ?_
  refine tl_callS (st := []) (st0 := _) (xo' := xo') (xd' := xd') (v' := v') (bs' := bs') 3 C0 hE hTh hF hT dL_law_1948 (cL_c_next l hl (xs (i + 1)) v bs) ho rfl (tl_gS2 tl_L_263 tst_L_next tn_L tc_L_next) rfl rfl rfl rfl (by decide +kernel) ⟨Nat.le_of_ble_eq_true rfl, Nat.le_of_ble_eq_true rfl⟩ (Nat.le_of_ble_eq_true rfl) ⟨by show _ ≤ 601024; omega, by show _ ≤ 7293034; omega⟩ (fun κ b0 u hT C0 => ?_)
  refine tg_istore [(6, .int k), (0, .ref b), (1, .ref (ad 247)), (2, .ref (ar 0)), (3, .ref o1), (4, .ref o2), (5, .int (nI i))] C0 dL_law_1951 (by decide) rfl ?_
  refine tg_aload_n 3 C0 dL_law_1953 rfl rfl ?_
  refine tg_aload_n 1 C0 dL_law_1954 rfl rfl ?_
  refine tg_iload 6 C0 dL_law_1955 rfl ?_
  refine tg_iconst (x := nI 1) C0 dL_law_1957 (by decide) ?_
  refine tg_iadd C0 dL_law_1958 ?_
  rw [tl_add i 1]
  refine tl_sld C0 hX hbl hbA (tl_idx (by omega) hi.2) dL_law_1959 ?_
  rw [nI_clamp (show i + 1 < 2147483648 by omega)]
  refine tl_mi (X' := tlW cy ad ar o1 o2 cL cD κ b0 u v' w1 xo' xd') (NW1 := tm_NWR) (pre := (tm_w cy tm_shC ad 256 v' ++ tmXB cy (ad 256) κ b0 u)) (suf := tlO o1 o2 cL cD xo' xd') (sh := tm_shR) (n := 13) (ad := ar) (As := [.int (xs (i + 1))]) (fs := [none, some 1, some 2, none, some 3, some 4, some 5, none, none, none, none, none, some 6, none, some 7, some 8, none, none, none, none, none, none, none, some 9, none, some 10, some 11, some 12]) 0 1 C0 rfl rfl (fun _ _ _ h => by cases h) rfl dL_law_1960 (c_X8_next l (xs (i + 1)) _) hr rfl rfl (by decide) rfl rfl (tm_gV tl_L_265 ti_X8_next ts_X8_next tn_X8 tc_X8_next) rfl rfl rfl rfl (by decide +kernel) ⟨Nat.le_of_ble_eq_true rfl, Nat.le_of_ble_eq_true rfl⟩ (Nat.le_of_ble_eq_true rfl) ⟨by show _ ≤ 601024; omega, by show _ ≤ 7293034; omega⟩ (fun C0 => ?_)
  refine tg_istore [(7, .int r), (6, .int k), (0, .ref b), (1, .ref (ad 247)), (2, .ref (ar 0)), (3, .ref o1), (4, .ref o2), (5, .int (nI i))] C0 dL_law_1963 (by decide) rfl ?_
  refine tg_aload_n 4 C0 dL_law_1965 rfl rfl ?_
  refine tl_mi (X' := tlW cy ad ar o1 o2 cL cD κ b0 u v' w2 xo' xd') (NW1 := tm_NWR) (pre := (tm_w cy tm_shC ad 256 v' ++ tmXB cy (ad 256) κ b0 u)) (suf := tlO o1 o2 cL cD xo' xd') (sh := tm_shR) (n := 13) (ad := ar) (As := []) (fs := [none, some 1, some 2, none, some 3, some 4, some 5, none, none, none, none, none, some 6, none, some 7, some 8, none, none, none, none, none, none, none, some 9, none, some 10, some 11, some 12]) 0 0 C0 rfl rfl (fun _ _ _ h => by cases h) rfl dL_law_1966 (c_X8_thrown l _) ht rfl rfl (by decide) rfl rfl (tm_gV tl_L_145 ti_X8_thrown ts_X8_thrown tn_X8 tc_X8_thrown) rfl rfl rfl rfl (by decide +kernel) ⟨Nat.le_of_ble_eq_true rfl, Nat.le_of_ble_eq_true rfl⟩ (Nat.le_of_ble_eq_true rfl) ⟨by show _ ≤ 601024; omega, by show _ ≤ 7293034; omega⟩ (fun C0 => ?_)
  refine tg_iload 1 C0 dL_law_1969 rfl ?_
  refine tg_eq (r := if k = k then some () else none) (by rw [if_pos rfl]) ?_
  refine tg_icmp_eq 1976 C0 dL_law_1971 (by decide) (fun _ => ?_) (fun q => absurd rfl q)
  refine tg_iload 1 C0 dL_law_1976 rfl ?_
  refine tg_eq (r := if k = 0 then some () else some ()) (by split <;> rfl) ?_
  refine tg_if_ne 1993 C0 dL_law_1978 (by decide) (fun _ => ?_) (fun hk => ?_)
  · refine tg_goto 2790 C0 dL_law_1993 (by decide) ?_
    refine tg_sub (lv' := [(0, .ref b), (1, .ref (ad 247)), (2, .ref (ar 0)), (3, .ref o1), (4, .ref o2), (5, .int (nI i))]) [2, 3, 4, 5, 6, 7] rfl ?_
    exact tl_widen (by omega) (by omega) (cont _ _ _ _ _ _ _ _ C0 hT hR')
  refine tg_aload_n 5 C0 dL_law_1981 rfl rfl ?_
  refine tg_iconst (x := 0) C0 dL_law_1982 (by decide) ?_
  refine tl_lald C0 hF dL_law_1983 ?_
  refine tg_iload 0 C0 dL_law_1984 rfl ?_
  refine tl_i2l C0 dL_law_1986 ?_
  refine tl_lcmp (heq hk) C0 dL_law_1987 ?_
  refine tg_eq (r := if (0 : Int32) = 0 then some () else none) (by rw [if_pos rfl]) ?_
  refine tg_if_eq 1993 C0 dL_law_1988 (by decide) (fun _ => ?_) (fun q => absurd rfl q)
  refine tg_goto 2790 C0 dL_law_1993 (by decide) ?_
  refine tg_sub (lv' := [(0, .ref b), (1, .ref (ad 247)), (2, .ref (ar 0)), (3, .ref o1), (4, .ref o2), (5, .int (nI i))]) [2, 3, 4, 5, 6, 7] rfl ?_
  exact tl_widen (by omega) (by omega) (cont _ _ _ _ _ _ _ _ C0 hT hR')
-- ----- case 35: advance
set_option maxRecDepth 100000 in
theorem law_case_35 {p : Program} {l : Launch} {e : Env} {s : State} {m : MethodId} {args : Array Value} {below : List Frame} {meth : Method} {c : Code} {A : Nat → Prop} {D : va_G} {cy : Nat → ClassId} {ad ar : Nat → Nat} {o1 o2 : Nat} {cL cD : ClassId} {adK adV adE : Nat → Nat} {tC : Nat} {Q : State → Prop} {rt : Option FieldType} {cells slots b i L : Nat} {xs : Nat → Int32} {Rel Rel2 : tmM → List Int32 → tmM → Prop} (hl : l.stackTraces = false) (hp : tP_advance Rel Rel2) (hX : va_X b L xs s s.heap) (hbl : b < s.heap.size) (hbA : ¬ A b) (hi : i + 5 ≤ L ∧ L ≤ 2560) (hE : tmSc adK adV adE tC A s s.heap) (hTh : tmTh A s s.heap) (hF : tlF D cy cL cD s) (hcs : cells + 64 ≤ 601024 ∧ slots + 8000 ≤ 7293034) {κ b0 : Nat} {u v w : tmM} {bs : List Int32} {xo : Int64} {xd : UInt64} (C0 : tmC p s m args meth c cL_law 10 rt RL TMW tm_NWC D cy tm_s0 tm_a0 0 (tlW cy ad ar o1 o2 cL cD κ b0 u v w xo xd) A) (hT : tmTx κ u bs) (hR : Rel v bs w) (cont : ∀ (κ b0 : Nat) (u v w : tmM) (bs : List Int32) (xo : Int64) (xd : UInt64), tmC p s m args meth c cL_law 10 rt RL TMW tm_NWC D cy tm_s0 tm_a0 0 (tlW cy ad ar o1 o2 cL cD κ b0 u v w xo xd) A → tmTx κ u bs → Rel2 v bs w → tmG p l e room_1 s m args below meth c (cells + 64) (slots + 8000) Q 10 D cy tm_s0 tm_a0 0 (tlW cy ad ar o1 o2 cL cD κ b0 u v w xo xd) A () 2790 [(0, .ref b), (1, .ref (ad 247)), (2, .ref (ar 0)), (3, .ref o1), (4, .ref o2), (5, .int (nI i))] [] tm_v0 (some ())) : tmG p l e room_1 s m args below meth c (cells) (slots) Q 10 D cy tm_s0 tm_a0 0 (tlW cy ad ar o1 o2 cL cD κ b0 u v w xo xd) A () 1996 [(0, .ref b), (1, .ref (ad 247)), (2, .ref (ar 0)), (3, .ref o1), (4, .ref o2), (5, .int (nI i))] [] tm_v0 (some ()) := by
  obtain ⟨k, xo', xd', v', bs', r, w1, w2, ho, hr, ht, heq, hR'⟩ := hp (xs (i + 1)) v bs w xo xd hR
  refine tg_aload_n 1 C0 dL_law_1996 rfl rfl ?_
  refine tg_aload_n 0 C0 dL_law_1997 rfl rfl ?_
  refine tg_iload 5 C0 dL_law_1998 rfl ?_
  refine tg_iconst (x := nI 1) C0 dL_law_2000 (by decide) ?_
  refine tg_iadd C0 dL_law_2001 ?_
  rw [tl_add i 1]
  refine tl_sld C0 hX hbl hbA (tl_idx (by omega) hi.2) dL_law_2002 ?_
  rw [nI_clamp (show i + 1 < 2147483648 by omega)]
  refine tg_aload_n 3 C0 dL_law_2003 rfl rfl ?_
  refine tl_callS (st := []) (st0 := _) (xo' := xo') (xd' := xd') (v' := v') (bs' := bs') 3 C0 hE hTh hF hT dL_law_2004 (cL_c_advance l hl (xs (i + 1)) v bs) ho rfl (tl_gS2 tl_L_266 tst_L_advance tn_L tc_L_advance) rfl rfl rfl rfl (by decide +kernel) ⟨Nat.le_of_ble_eq_true rfl, Nat.le_of_ble_eq_true rfl⟩ (Nat.le_of_ble_eq_true rfl) ⟨by show _ ≤ 601024; omega, by show _ ≤ 7293034; omega⟩ (fun κ b0 u hT C0 => ?_)
  refine tg_istore [(6, .int k), (0, .ref b), (1, .ref (ad 247)), (2, .ref (ar 0)), (3, .ref o1), (4, .ref o2), (5, .int (nI i))] C0 dL_law_2007 (by decide) rfl ?_
  refine tg_aload_n 3 C0 dL_law_2009 rfl rfl ?_
  refine tg_aload_n 1 C0 dL_law_2010 rfl rfl ?_
  refine tg_iload 6 C0 dL_law_2011 rfl ?_
  refine tg_iconst (x := nI 1) C0 dL_law_2013 (by decide) ?_
  refine tg_iadd C0 dL_law_2014 ?_
  rw [tl_add i 1]
  refine tl_sld C0 hX hbl hbA (tl_idx (by omega) hi.2) dL_law_2015 ?_
  rw [nI_clamp (show i + 1 < 2147483648 by omega)]
  refine tl_mi (X' := tlW cy ad ar o1 o2 cL cD κ b0 u v' w1 xo' xd') (NW1 := tm_NWR) (pre := (tm_w cy tm_shC ad 256 v' ++ tmXB cy (ad 256) κ b0 u)) (suf := tlO o1 o2 cL cD xo' xd') (sh := tm_shR) (n := 13) (ad := ar) (As := [.int (xs (i + 1))]) (fs := [none, some 1, some 2, none, some 3, some 4, some 5, none, none, none, none, none, some 6, none, some 7, some 8, none, none, none, none, none, none, none, some 9, none, some 10, some 11, some 12]) 0 1 C0 rfl rfl (fun _ _ _ h => by cases h) rfl dL_law_2016 (c_X8_advance l (xs (i + 1)) _) hr rfl rfl (by decide) rfl rfl (tm_gV tl_L_268 ti_X8_advance ts_X8_advance tn_X8 tc_X8_advance) rfl rfl rfl rfl (by decide +kernel) ⟨Nat.le_of_ble_eq_true rfl, Nat.le_of_ble_eq_true rfl⟩ (Nat.le_of_ble_eq_true rfl) ⟨by show _ ≤ 601024; omega, by show _ ≤ 7293034; omega⟩ (fun C0 => ?_)
  refine tg_istore [(7, .int r), (6, .int k), (0, .ref b), (1, .ref (ad 247)), (2, .ref (ar 0)), (3, .ref o1), (4, .ref o2), (5, .int (nI i))] C0 dL_law_2019 (by decide) rfl ?_
  refine tg_aload_n 4 C0 dL_law_2021 rfl rfl ?_
  refine tl_mi (X' := tlW cy ad ar o1 o2 cL cD κ b0 u v' w2 xo' xd') (NW1 := tm_NWR) (pre := (tm_w cy tm_shC ad 256 v' ++ tmXB cy (ad 256) κ b0 u)) (suf := tlO o1 o2 cL cD xo' xd') (sh := tm_shR) (n := 13) (ad := ar) (As := []) (fs := [none, some 1, some 2, none, some 3, some 4, some 5, none, none, none, none, none, some 6, none, some 7, some 8, none, none, none, none, none, none, none, some 9, none, some 10, some 11, some 12]) 0 0 C0 rfl rfl (fun _ _ _ h => by cases h) rfl dL_law_2022 (c_X8_thrown l _) ht rfl rfl (by decide) rfl rfl (tm_gV tl_L_145 ti_X8_thrown ts_X8_thrown tn_X8 tc_X8_thrown) rfl rfl rfl rfl (by decide +kernel) ⟨Nat.le_of_ble_eq_true rfl, Nat.le_of_ble_eq_true rfl⟩ (Nat.le_of_ble_eq_true rfl) ⟨by show _ ≤ 601024; omega, by show _ ≤ 7293034; omega⟩ (fun C0 => ?_)
  refine tg_iload 1 C0 dL_law_2025 rfl ?_
  refine tg_eq (r := if k = k then some () else none) (by rw [if_pos rfl]) ?_
  refine tg_icmp_eq 2032 C0 dL_law_2027 (by decide) (fun _ => ?_) (fun q => absurd rfl q)
  refine tg_iload 1 C0 dL_law_2032 rfl ?_
  refine tg_eq (r := if k = 0 then some () else some ()) (by split <;> rfl) ?_
  refine tg_if_ne 2049 C0 dL_law_2034 (by decide) (fun _ => ?_) (fun hk => ?_)
  · refine tg_goto 2790 C0 dL_law_2049 (by decide) ?_
    refine tg_sub (lv' := [(0, .ref b), (1, .ref (ad 247)), (2, .ref (ar 0)), (3, .ref o1), (4, .ref o2), (5, .int (nI i))]) [2, 3, 4, 5, 6, 7] rfl ?_
    exact tl_widen (by omega) (by omega) (cont _ _ _ _ _ _ _ _ C0 hT hR')
  refine tg_aload_n 5 C0 dL_law_2037 rfl rfl ?_
  refine tg_iconst (x := 0) C0 dL_law_2038 (by decide) ?_
  refine tl_lald C0 hF dL_law_2039 ?_
  refine tg_iload 0 C0 dL_law_2040 rfl ?_
  refine tl_i2l C0 dL_law_2042 ?_
  refine tl_lcmp (heq hk) C0 dL_law_2043 ?_
  refine tg_eq (r := if (0 : Int32) = 0 then some () else none) (by rw [if_pos rfl]) ?_
  refine tg_if_eq 2049 C0 dL_law_2044 (by decide) (fun _ => ?_) (fun q => absurd rfl q)
  refine tg_goto 2790 C0 dL_law_2049 (by decide) ?_
  refine tg_sub (lv' := [(0, .ref b), (1, .ref (ad 247)), (2, .ref (ar 0)), (3, .ref o1), (4, .ref o2), (5, .int (nI i))]) [2, 3, 4, 5, 6, 7] rfl ?_
  exact tl_widen (by omega) (by omega) (cont _ _ _ _ _ _ _ _ C0 hT hR')
-- ----- case 36: differing
set_option maxRecDepth 100000 in
theorem law_case_36 {p : Program} {l : Launch} {e : Env} {s : State} {m : MethodId} {args : Array Value} {below : List Frame} {meth : Method} {c : Code} {A : Nat → Prop} {D : va_G} {cy : Nat → ClassId} {ad ar : Nat → Nat} {o1 o2 : Nat} {cL cD : ClassId} {adK adV adE : Nat → Nat} {tC : Nat} {Q : State → Prop} {rt : Option FieldType} {cells slots b i L : Nat} {xs : Nat → Int32} {Rel Rel2 : tmM → List Int32 → tmM → Prop} (hl : l.stackTraces = false) (hp : tP_differing Rel Rel2) (hX : va_X b L xs s s.heap) (hbl : b < s.heap.size) (hbA : ¬ A b) (hi : i + 5 ≤ L ∧ L ≤ 2560) (hE : tmSc adK adV adE tC A s s.heap) (hTh : tmTh A s s.heap) (hF : tlF D cy cL cD s) (hcs : cells + 64 ≤ 601024 ∧ slots + 8000 ≤ 7293034) {κ b0 : Nat} {u v w : tmM} {bs : List Int32} {xo : Int64} {xd : UInt64} (C0 : tmC p s m args meth c cL_law 10 rt RL TMW tm_NWC D cy tm_s0 tm_a0 0 (tlW cy ad ar o1 o2 cL cD κ b0 u v w xo xd) A) (hT : tmTx κ u bs) (hR : Rel v bs w) (cont : ∀ (κ b0 : Nat) (u v w : tmM) (bs : List Int32) (xo : Int64) (xd : UInt64), tmC p s m args meth c cL_law 10 rt RL TMW tm_NWC D cy tm_s0 tm_a0 0 (tlW cy ad ar o1 o2 cL cD κ b0 u v w xo xd) A → tmTx κ u bs → Rel2 v bs w → tmG p l e room_1 s m args below meth c (cells + 64) (slots + 8000) Q 10 D cy tm_s0 tm_a0 0 (tlW cy ad ar o1 o2 cL cD κ b0 u v w xo xd) A () 2790 [(0, .ref b), (1, .ref (ad 247)), (2, .ref (ar 0)), (3, .ref o1), (4, .ref o2), (5, .int (nI i))] [] tm_v0 (some ())) : tmG p l e room_1 s m args below meth c (cells) (slots) Q 10 D cy tm_s0 tm_a0 0 (tlW cy ad ar o1 o2 cL cD κ b0 u v w xo xd) A () 2052 [(0, .ref b), (1, .ref (ad 247)), (2, .ref (ar 0)), (3, .ref o1), (4, .ref o2), (5, .int (nI i))] [] tm_v0 (some ()) := by
  obtain ⟨k, xo', xd', v', bs', r, w1, w2, ho, hr, ht, heq, hR'⟩ := hp (xs (i + 1)) v bs w xo xd hR
  refine tg_aload_n 1 C0 dL_law_2052 rfl rfl ?_
  refine tg_aload_n 0 C0 dL_law_2053 rfl rfl ?_
  refine tg_iload 5 C0 dL_law_2054 rfl ?_
  refine tg_iconst (x := nI 1) C0 dL_law_2056 (by decide) ?_
  refine tg_iadd C0 dL_law_2057 ?_
  rw [tl_add i 1]
  refine tl_sld C0 hX hbl hbA (tl_idx (by omega) hi.2) dL_law_2058 ?_
  rw [nI_clamp (show i + 1 < 2147483648 by omega)]
  refine tg_aload_n 3 C0 dL_law_2059 rfl rfl ?_
  refine tl_callS (st := []) (st0 := _) (xo' := xo') (xd' := xd') (v' := v') (bs' := bs') 3 C0 hE hTh hF hT dL_law_2060 (cL_c_differing l hl (xs (i + 1)) v bs) ho rfl (tl_gS2 tl_L_269 tst_L_differing tn_L tc_L_differing) rfl rfl rfl rfl (by decide +kernel) ⟨Nat.le_of_ble_eq_true rfl, Nat.le_of_ble_eq_true rfl⟩ (Nat.le_of_ble_eq_true rfl) ⟨by show _ ≤ 601024; omega, by show _ ≤ 7293034; omega⟩ (fun κ b0 u hT C0 => ?_)
  refine tg_istore [(6, .int k), (0, .ref b), (1, .ref (ad 247)), (2, .ref (ar 0)), (3, .ref o1), (4, .ref o2), (5, .int (nI i))] C0 dL_law_2063 (by decide) rfl ?_
  refine tg_aload_n 3 C0 dL_law_2065 rfl rfl ?_
  refine tg_aload_n 1 C0 dL_law_2066 rfl rfl ?_
  refine tg_iload 6 C0 dL_law_2067 rfl ?_
  refine tg_iconst (x := nI 1) C0 dL_law_2069 (by decide) ?_
  refine tg_iadd C0 dL_law_2070 ?_
  rw [tl_add i 1]
  refine tl_sld C0 hX hbl hbA (tl_idx (by omega) hi.2) dL_law_2071 ?_
  rw [nI_clamp (show i + 1 < 2147483648 by omega)]
  refine tl_mi (X' := tlW cy ad ar o1 o2 cL cD κ b0 u v' w1 xo' xd') (NW1 := tm_NWR) (pre := (tm_w cy tm_shC ad 256 v' ++ tmXB cy (ad 256) κ b0 u)) (suf := tlO o1 o2 cL cD xo' xd') (sh := tm_shR) (n := 13) (ad := ar) (As := [.int (xs (i + 1))]) (fs := [none, some 1, some 2, none, some 3, some 4, some 5, none, none, none, none, none, some 6, none, some 7, some 8, none, none, none, none, none, none, none, some 9, none, some 10, some 11, some 12]) 0 1 C0 rfl rfl (fun _ _ _ h => by cases h) rfl dL_law_2072 (c_X8_differing l (xs (i + 1)) _) hr rfl rfl (by decide) rfl rfl (tm_gV tl_L_271 ti_X8_differing ts_X8_differing tn_X8 tc_X8_differing) rfl rfl rfl rfl (by decide +kernel) ⟨Nat.le_of_ble_eq_true rfl, Nat.le_of_ble_eq_true rfl⟩ (Nat.le_of_ble_eq_true rfl) ⟨by show _ ≤ 601024; omega, by show _ ≤ 7293034; omega⟩ (fun C0 => ?_)
  refine tg_istore [(7, .int r), (6, .int k), (0, .ref b), (1, .ref (ad 247)), (2, .ref (ar 0)), (3, .ref o1), (4, .ref o2), (5, .int (nI i))] C0 dL_law_2075 (by decide) rfl ?_
  refine tg_aload_n 4 C0 dL_law_2077 rfl rfl ?_
  refine tl_mi (X' := tlW cy ad ar o1 o2 cL cD κ b0 u v' w2 xo' xd') (NW1 := tm_NWR) (pre := (tm_w cy tm_shC ad 256 v' ++ tmXB cy (ad 256) κ b0 u)) (suf := tlO o1 o2 cL cD xo' xd') (sh := tm_shR) (n := 13) (ad := ar) (As := []) (fs := [none, some 1, some 2, none, some 3, some 4, some 5, none, none, none, none, none, some 6, none, some 7, some 8, none, none, none, none, none, none, none, some 9, none, some 10, some 11, some 12]) 0 0 C0 rfl rfl (fun _ _ _ h => by cases h) rfl dL_law_2078 (c_X8_thrown l _) ht rfl rfl (by decide) rfl rfl (tm_gV tl_L_145 ti_X8_thrown ts_X8_thrown tn_X8 tc_X8_thrown) rfl rfl rfl rfl (by decide +kernel) ⟨Nat.le_of_ble_eq_true rfl, Nat.le_of_ble_eq_true rfl⟩ (Nat.le_of_ble_eq_true rfl) ⟨by show _ ≤ 601024; omega, by show _ ≤ 7293034; omega⟩ (fun C0 => ?_)
  refine tg_iload 1 C0 dL_law_2081 rfl ?_
  refine tg_eq (r := if k = k then some () else none) (by rw [if_pos rfl]) ?_
  refine tg_icmp_eq 2088 C0 dL_law_2083 (by decide) (fun _ => ?_) (fun q => absurd rfl q)
  refine tg_iload 1 C0 dL_law_2088 rfl ?_
  refine tg_eq (r := if k = 0 then some () else some ()) (by split <;> rfl) ?_
  refine tg_if_ne 2105 C0 dL_law_2090 (by decide) (fun _ => ?_) (fun hk => ?_)
  · refine tg_goto 2790 C0 dL_law_2105 (by decide) ?_
    refine tg_sub (lv' := [(0, .ref b), (1, .ref (ad 247)), (2, .ref (ar 0)), (3, .ref o1), (4, .ref o2), (5, .int (nI i))]) [2, 3, 4, 5, 6, 7] rfl ?_
    exact tl_widen (by omega) (by omega) (cont _ _ _ _ _ _ _ _ C0 hT hR')
  refine tg_aload_n 5 C0 dL_law_2093 rfl rfl ?_
  refine tg_iconst (x := 0) C0 dL_law_2094 (by decide) ?_
  refine tl_lald C0 hF dL_law_2095 ?_
  refine tg_iload 0 C0 dL_law_2096 rfl ?_
  refine tl_i2l C0 dL_law_2098 ?_
  refine tl_lcmp (heq hk) C0 dL_law_2099 ?_
  refine tg_eq (r := if (0 : Int32) = 0 then some () else none) (by rw [if_pos rfl]) ?_
  refine tg_if_eq 2105 C0 dL_law_2100 (by decide) (fun _ => ?_) (fun q => absurd rfl q)
  refine tg_goto 2790 C0 dL_law_2105 (by decide) ?_
  refine tg_sub (lv' := [(0, .ref b), (1, .ref (ad 247)), (2, .ref (ar 0)), (3, .ref o1), (4, .ref o2), (5, .int (nI i))]) [2, 3, 4, 5, 6, 7] rfl ?_
  exact tl_widen (by omega) (by omega) (cont _ _ _ _ _ _ _ _ C0 hT hR')
-- ----- case 37: lookup
set_option maxRecDepth 100000 in
theorem law_case_37 {p : Program} {l : Launch} {e : Env} {s : State} {m : MethodId} {args : Array Value} {below : List Frame} {meth : Method} {c : Code} {A : Nat → Prop} {D : va_G} {cy : Nat → ClassId} {ad ar : Nat → Nat} {o1 o2 : Nat} {cL cD : ClassId} {adK adV adE : Nat → Nat} {tC : Nat} {Q : State → Prop} {rt : Option FieldType} {cells slots b i L : Nat} {xs : Nat → Int32} {Rel Rel2 : tmM → List Int32 → tmM → Prop} (hl : l.stackTraces = false) (hp : tP_lookup Rel Rel2) (hX : va_X b L xs s s.heap) (hbl : b < s.heap.size) (hbA : ¬ A b) (hi : i + 5 ≤ L ∧ L ≤ 2560) (hE : tmSc adK adV adE tC A s s.heap) (hTh : tmTh A s s.heap) (hF : tlF D cy cL cD s) (hcs : cells + 64 ≤ 601024 ∧ slots + 8000 ≤ 7293034) {κ b0 : Nat} {u v w : tmM} {bs : List Int32} {xo : Int64} {xd : UInt64} (C0 : tmC p s m args meth c cL_law 10 rt RL TMW tm_NWC D cy tm_s0 tm_a0 0 (tlW cy ad ar o1 o2 cL cD κ b0 u v w xo xd) A) (hT : tmTx κ u bs) (hR : Rel v bs w) (cont : ∀ (κ b0 : Nat) (u v w : tmM) (bs : List Int32) (xo : Int64) (xd : UInt64), tmC p s m args meth c cL_law 10 rt RL TMW tm_NWC D cy tm_s0 tm_a0 0 (tlW cy ad ar o1 o2 cL cD κ b0 u v w xo xd) A → tmTx κ u bs → Rel2 v bs w → tmG p l e room_1 s m args below meth c (cells + 64) (slots + 8000) Q 10 D cy tm_s0 tm_a0 0 (tlW cy ad ar o1 o2 cL cD κ b0 u v w xo xd) A () 2790 [(0, .ref b), (1, .ref (ad 247)), (2, .ref (ar 0)), (3, .ref o1), (4, .ref o2), (5, .int (nI i))] [] tm_v0 (some ())) : tmG p l e room_1 s m args below meth c (cells) (slots) Q 10 D cy tm_s0 tm_a0 0 (tlW cy ad ar o1 o2 cL cD κ b0 u v w xo xd) A () 2108 [(0, .ref b), (1, .ref (ad 247)), (2, .ref (ar 0)), (3, .ref o1), (4, .ref o2), (5, .int (nI i))] [] tm_v0 (some ()) := by
  obtain ⟨k, xo', xd', v', bs', r, w1, w2, ho, hr, ht, heq, hR'⟩ := hp (xs (i + 1)) (xs (i + 2)) v bs w xo xd hR
  refine tg_aload_n 1 C0 dL_law_2108 rfl rfl ?_
  refine tg_aload_n 0 C0 dL_law_2109 rfl rfl ?_
  refine tg_iload 5 C0 dL_law_2110 rfl ?_
  refine tg_iconst (x := nI 1) C0 dL_law_2112 (by decide) ?_
  refine tg_iadd C0 dL_law_2113 ?_
  rw [tl_add i 1]
  refine tl_sld C0 hX hbl hbA (tl_idx (by omega) hi.2) dL_law_2114 ?_
  rw [nI_clamp (show i + 1 < 2147483648 by omega)]
  refine tg_aload_n 0 C0 dL_law_2115 rfl rfl ?_
  refine tg_iload 5 C0 dL_law_2116 rfl ?_
  refine tg_iconst (x := nI 2) C0 dL_law_2118 (by decide) ?_
  refine tg_iadd C0 dL_law_2119 ?_
  rw [tl_add i 2]
  refine tl_sld C0 hX hbl hbA (tl_idx (by omega) hi.2) dL_law_2120 ?_
  rw [nI_clamp (show i + 2 < 2147483648 by omega)]
  refine tg_aload_n 3 C0 dL_law_2121 rfl rfl ?_
  refine tl_callS (st := []) (st0 := _) (xo' := xo') (xd' := xd') (v' := v') (bs' := bs') 4 C0 hE hTh hF hT dL_law_2122 (cL_c_lookup l hl (xs (i + 1)) (xs (i + 2)) v bs) ho rfl (tl_gS2 tl_L_272 tst_L_lookup tn_L tc_L_lookup) rfl rfl rfl rfl (by decide +kernel) ⟨Nat.le_of_ble_eq_true rfl, Nat.le_of_ble_eq_true rfl⟩ (Nat.le_of_ble_eq_true rfl) ⟨by show _ ≤ 601024; omega, by show _ ≤ 7293034; omega⟩ (fun κ b0 u hT C0 => ?_)
  refine tg_istore [(6, .int k), (0, .ref b), (1, .ref (ad 247)), (2, .ref (ar 0)), (3, .ref o1), (4, .ref o2), (5, .int (nI i))] C0 dL_law_2125 (by decide) rfl ?_
  refine tg_aload_n 3 C0 dL_law_2127 rfl rfl ?_
  refine tg_aload_n 1 C0 dL_law_2128 rfl rfl ?_
  refine tg_iload 6 C0 dL_law_2129 rfl ?_
  refine tg_iconst (x := nI 1) C0 dL_law_2131 (by decide) ?_
  refine tg_iadd C0 dL_law_2132 ?_
  rw [tl_add i 1]
  refine tl_sld C0 hX hbl hbA (tl_idx (by omega) hi.2) dL_law_2133 ?_
  rw [nI_clamp (show i + 1 < 2147483648 by omega)]
  refine tg_aload_n 1 C0 dL_law_2134 rfl rfl ?_
  refine tg_iload 6 C0 dL_law_2135 rfl ?_
  refine tg_iconst (x := nI 2) C0 dL_law_2137 (by decide) ?_
  refine tg_iadd C0 dL_law_2138 ?_
  rw [tl_add i 2]
  refine tl_sld C0 hX hbl hbA (tl_idx (by omega) hi.2) dL_law_2139 ?_
  rw [nI_clamp (show i + 2 < 2147483648 by omega)]
  refine tl_mi (X' := tlW cy ad ar o1 o2 cL cD κ b0 u v' w1 xo' xd') (NW1 := tm_NWR) (pre := (tm_w cy tm_shC ad 256 v' ++ tmXB cy (ad 256) κ b0 u)) (suf := tlO o1 o2 cL cD xo' xd') (sh := tm_shR) (n := 13) (ad := ar) (As := [.int (xs (i + 1)), .int (xs (i + 2))]) (fs := [none, some 1, some 2, none, some 3, some 4, some 5, none, none, none, none, none, some 6, none, some 7, some 8, none, none, none, none, none, none, none, some 9, none, some 10, some 11, some 12]) 0 2 C0 rfl rfl (fun _ _ _ h => by cases h) rfl dL_law_2140 (c_X8_lookup l (xs (i + 1)) (xs (i + 2)) _) hr rfl rfl (by decide) rfl rfl (tm_gV tl_L_274 ti_X8_lookup ts_X8_lookup tn_X8 tc_X8_lookup) rfl rfl rfl rfl (by decide +kernel) ⟨Nat.le_of_ble_eq_true rfl, Nat.le_of_ble_eq_true rfl⟩ (Nat.le_of_ble_eq_true rfl) ⟨by show _ ≤ 601024; omega, by show _ ≤ 7293034; omega⟩ (fun C0 => ?_)
  refine tg_istore [(7, .int r), (6, .int k), (0, .ref b), (1, .ref (ad 247)), (2, .ref (ar 0)), (3, .ref o1), (4, .ref o2), (5, .int (nI i))] C0 dL_law_2143 (by decide) rfl ?_
  refine tg_aload_n 4 C0 dL_law_2145 rfl rfl ?_
  refine tl_mi (X' := tlW cy ad ar o1 o2 cL cD κ b0 u v' w2 xo' xd') (NW1 := tm_NWR) (pre := (tm_w cy tm_shC ad 256 v' ++ tmXB cy (ad 256) κ b0 u)) (suf := tlO o1 o2 cL cD xo' xd') (sh := tm_shR) (n := 13) (ad := ar) (As := []) (fs := [none, some 1, some 2, none, some 3, some 4, some 5, none, none, none, none, none, some 6, none, some 7, some 8, none, none, none, none, none, none, none, some 9, none, some 10, some 11, some 12]) 0 0 C0 rfl rfl (fun _ _ _ h => by cases h) rfl dL_law_2146 (c_X8_thrown l _) ht rfl rfl (by decide) rfl rfl (tm_gV tl_L_145 ti_X8_thrown ts_X8_thrown tn_X8 tc_X8_thrown) rfl rfl rfl rfl (by decide +kernel) ⟨Nat.le_of_ble_eq_true rfl, Nat.le_of_ble_eq_true rfl⟩ (Nat.le_of_ble_eq_true rfl) ⟨by show _ ≤ 601024; omega, by show _ ≤ 7293034; omega⟩ (fun C0 => ?_)
  refine tg_iload 1 C0 dL_law_2149 rfl ?_
  refine tg_eq (r := if k = k then some () else none) (by rw [if_pos rfl]) ?_
  refine tg_icmp_eq 2156 C0 dL_law_2151 (by decide) (fun _ => ?_) (fun q => absurd rfl q)
  refine tg_iload 1 C0 dL_law_2156 rfl ?_
  refine tg_eq (r := if k = 0 then some () else some ()) (by split <;> rfl) ?_
  refine tg_if_ne 2173 C0 dL_law_2158 (by decide) (fun _ => ?_) (fun hk => ?_)
  · refine tg_goto 2790 C0 dL_law_2173 (by decide) ?_
    refine tg_sub (lv' := [(0, .ref b), (1, .ref (ad 247)), (2, .ref (ar 0)), (3, .ref o1), (4, .ref o2), (5, .int (nI i))]) [2, 3, 4, 5, 6, 7] rfl ?_
    exact tl_widen (by omega) (by omega) (cont _ _ _ _ _ _ _ _ C0 hT hR')
  refine tg_aload_n 5 C0 dL_law_2161 rfl rfl ?_
  refine tg_iconst (x := 0) C0 dL_law_2162 (by decide) ?_
  refine tl_lald C0 hF dL_law_2163 ?_
  refine tg_iload 0 C0 dL_law_2164 rfl ?_
  refine tl_i2l C0 dL_law_2166 ?_
  refine tl_lcmp (heq hk) C0 dL_law_2167 ?_
  refine tg_eq (r := if (0 : Int32) = 0 then some () else none) (by rw [if_pos rfl]) ?_
  refine tg_if_eq 2173 C0 dL_law_2168 (by decide) (fun _ => ?_) (fun q => absurd rfl q)
  refine tg_goto 2790 C0 dL_law_2173 (by decide) ?_
  refine tg_sub (lv' := [(0, .ref b), (1, .ref (ad 247)), (2, .ref (ar 0)), (3, .ref o1), (4, .ref o2), (5, .int (nI i))]) [2, 3, 4, 5, 6, 7] rfl ?_
  exact tl_widen (by omega) (by omega) (cont _ _ _ _ _ _ _ _ C0 hT hR')
-- ----- case 38: total
set_option maxRecDepth 100000 in
theorem law_case_38 {p : Program} {l : Launch} {e : Env} {s : State} {m : MethodId} {args : Array Value} {below : List Frame} {meth : Method} {c : Code} {A : Nat → Prop} {D : va_G} {cy : Nat → ClassId} {ad ar : Nat → Nat} {o1 o2 : Nat} {cL cD : ClassId} {adK adV adE : Nat → Nat} {tC : Nat} {Q : State → Prop} {rt : Option FieldType} {cells slots b i L : Nat} {xs : Nat → Int32} {Rel Rel2 : tmM → List Int32 → tmM → Prop} (hl : l.stackTraces = false) (hp : tP_total Rel Rel2) (hX : va_X b L xs s s.heap) (hbl : b < s.heap.size) (hbA : ¬ A b) (hi : i + 5 ≤ L ∧ L ≤ 2560) (hE : tmSc adK adV adE tC A s s.heap) (hTh : tmTh A s s.heap) (hF : tlF D cy cL cD s) (hcs : cells + 64 ≤ 601024 ∧ slots + 8000 ≤ 7293034) {κ b0 : Nat} {u v w : tmM} {bs : List Int32} {xo : Int64} {xd : UInt64} (C0 : tmC p s m args meth c cL_law 10 rt RL TMW tm_NWC D cy tm_s0 tm_a0 0 (tlW cy ad ar o1 o2 cL cD κ b0 u v w xo xd) A) (hT : tmTx κ u bs) (hR : Rel v bs w) (cont : ∀ (κ b0 : Nat) (u v w : tmM) (bs : List Int32) (xo : Int64) (xd : UInt64), tmC p s m args meth c cL_law 10 rt RL TMW tm_NWC D cy tm_s0 tm_a0 0 (tlW cy ad ar o1 o2 cL cD κ b0 u v w xo xd) A → tmTx κ u bs → Rel2 v bs w → tmG p l e room_1 s m args below meth c (cells + 64) (slots + 8000) Q 10 D cy tm_s0 tm_a0 0 (tlW cy ad ar o1 o2 cL cD κ b0 u v w xo xd) A () 2790 [(0, .ref b), (1, .ref (ad 247)), (2, .ref (ar 0)), (3, .ref o1), (4, .ref o2), (5, .int (nI i))] [] tm_v0 (some ())) : tmG p l e room_1 s m args below meth c (cells) (slots) Q 10 D cy tm_s0 tm_a0 0 (tlW cy ad ar o1 o2 cL cD κ b0 u v w xo xd) A () 2176 [(0, .ref b), (1, .ref (ad 247)), (2, .ref (ar 0)), (3, .ref o1), (4, .ref o2), (5, .int (nI i))] [] tm_v0 (some ()) := by
  obtain ⟨k, xo', xd', v', bs', r, w1, w2, ho, hr, ht, heq, hR'⟩ := hp (xs (i + 1)) (xs (i + 2)) v bs w xo xd hR
  refine tg_aload_n 1 C0 dL_law_2176 rfl rfl ?_
  refine tg_aload_n 0 C0 dL_law_2177 rfl rfl ?_
  refine tg_iload 5 C0 dL_law_2178 rfl ?_
  refine tg_iconst (x := nI 1) C0 dL_law_2180 (by decide) ?_
  refine tg_iadd C0 dL_law_2181 ?_
  rw [tl_add i 1]
  refine tl_sld C0 hX hbl hbA (tl_idx (by omega) hi.2) dL_law_2182 ?_
  rw [nI_clamp (show i + 1 < 2147483648 by omega)]
  refine tg_aload_n 0 C0 dL_law_2183 rfl rfl ?_
  refine tg_iload 5 C0 dL_law_2184 rfl ?_
  refine tg_iconst (x := nI 2) C0 dL_law_2186 (by decide) ?_
  refine tg_iadd C0 dL_law_2187 ?_
  rw [tl_add i 2]
  refine tl_sld C0 hX hbl hbA (tl_idx (by omega) hi.2) dL_law_2188 ?_
  rw [nI_clamp (show i + 2 < 2147483648 by omega)]
  refine tg_aload_n 3 C0 dL_law_2189 rfl rfl ?_
  refine tl_callS (st := []) (st0 := _) (xo' := xo') (xd' := xd') (v' := v') (bs' := bs') 4 C0 hE hTh hF hT dL_law_2190 (cL_c_total l hl (xs (i + 1)) (xs (i + 2)) v bs) ho rfl (tl_gS2 tl_L_275 tst_L_total tn_L tc_L_total) rfl rfl rfl rfl (by decide +kernel) ⟨Nat.le_of_ble_eq_true rfl, Nat.le_of_ble_eq_true rfl⟩ (Nat.le_of_ble_eq_true rfl) ⟨by show _ ≤ 601024; omega, by show _ ≤ 7293034; omega⟩ (fun κ b0 u hT C0 => ?_)
  refine tg_istore [(6, .int k), (0, .ref b), (1, .ref (ad 247)), (2, .ref (ar 0)), (3, .ref o1), (4, .ref o2), (5, .int (nI i))] C0 dL_law_2193 (by decide) rfl ?_
  refine tg_aload_n 3 C0 dL_law_2195 rfl rfl ?_
  refine tg_aload_n 1 C0 dL_law_2196 rfl rfl ?_
  refine tg_iload 6 C0 dL_law_2197 rfl ?_
  refine tg_iconst (x := nI 1) C0 dL_law_2199 (by decide) ?_
  refine tg_iadd C0 dL_law_2200 ?_
  rw [tl_add i 1]
  refine tl_sld C0 hX hbl hbA (tl_idx (by omega) hi.2) dL_law_2201 ?_
  rw [nI_clamp (show i + 1 < 2147483648 by omega)]
  refine tg_aload_n 1 C0 dL_law_2202 rfl rfl ?_
  refine tg_iload 6 C0 dL_law_2203 rfl ?_
  refine tg_iconst (x := nI 2) C0 dL_law_2205 (by decide) ?_
  refine tg_iadd C0 dL_law_2206 ?_
  rw [tl_add i 2]
  refine tl_sld C0 hX hbl hbA (tl_idx (by omega) hi.2) dL_law_2207 ?_
  rw [nI_clamp (show i + 2 < 2147483648 by omega)]
  refine tl_mi (X' := tlW cy ad ar o1 o2 cL cD κ b0 u v' w1 xo' xd') (NW1 := tm_NWR) (pre := (tm_w cy tm_shC ad 256 v' ++ tmXB cy (ad 256) κ b0 u)) (suf := tlO o1 o2 cL cD xo' xd') (sh := tm_shR) (n := 13) (ad := ar) (As := [.int (xs (i + 1)), .int (xs (i + 2))]) (fs := [none, some 1, some 2, none, some 3, some 4, some 5, none, none, none, none, none, some 6, none, some 7, some 8, none, none, none, none, none, none, none, some 9, none, some 10, some 11, some 12]) 0 2 C0 rfl rfl (fun _ _ _ h => by cases h) rfl dL_law_2208 (c_X8_total l (xs (i + 1)) (xs (i + 2)) _) hr rfl rfl (by decide) rfl rfl (tm_gV tl_L_277 ti_X8_total ts_X8_total tn_X8 tc_X8_total) rfl rfl rfl rfl (by decide +kernel) ⟨Nat.le_of_ble_eq_true rfl, Nat.le_of_ble_eq_true rfl⟩ (Nat.le_of_ble_eq_true rfl) ⟨by show _ ≤ 601024; omega, by show _ ≤ 7293034; omega⟩ (fun C0 => ?_)
  refine tg_istore [(7, .int r), (6, .int k), (0, .ref b), (1, .ref (ad 247)), (2, .ref (ar 0)), (3, .ref o1), (4, .ref o2), (5, .int (nI i))] C0 dL_law_2211 (by decide) rfl ?_
  refine tg_aload_n 4 C0 dL_law_2213 rfl rfl ?_
  refine tl_mi (X' := tlW cy ad ar o1 o2 cL cD κ b0 u v' w2 xo' xd') (NW1 := tm_NWR) (pre := (tm_w cy tm_shC ad 256 v' ++ tmXB cy (ad 256) κ b0 u)) (suf := tlO o1 o2 cL cD xo' xd') (sh := tm_shR) (n := 13) (ad := ar) (As := []) (fs := [none, some 1, some 2, none, some 3, some 4, some 5, none, none, none, none, none, some 6, none, some 7, some 8, none, none, none, none, none, none, none, some 9, none, some 10, some 11, some 12]) 0 0 C0 rfl rfl (fun _ _ _ h => by cases h) rfl dL_law_2214 (c_X8_thrown l _) ht rfl rfl (by decide) rfl rfl (tm_gV tl_L_145 ti_X8_thrown ts_X8_thrown tn_X8 tc_X8_thrown) rfl rfl rfl rfl (by decide +kernel) ⟨Nat.le_of_ble_eq_true rfl, Nat.le_of_ble_eq_true rfl⟩ (Nat.le_of_ble_eq_true rfl) ⟨by show _ ≤ 601024; omega, by show _ ≤ 7293034; omega⟩ (fun C0 => ?_)
  refine tg_iload 1 C0 dL_law_2217 rfl ?_
  refine tg_eq (r := if k = k then some () else none) (by rw [if_pos rfl]) ?_
  refine tg_icmp_eq 2224 C0 dL_law_2219 (by decide) (fun _ => ?_) (fun q => absurd rfl q)
  refine tg_iload 1 C0 dL_law_2224 rfl ?_
  refine tg_eq (r := if k = 0 then some () else some ()) (by split <;> rfl) ?_
  refine tg_if_ne 2241 C0 dL_law_2226 (by decide) (fun _ => ?_) (fun hk => ?_)
  · refine tg_goto 2790 C0 dL_law_2241 (by decide) ?_
    refine tg_sub (lv' := [(0, .ref b), (1, .ref (ad 247)), (2, .ref (ar 0)), (3, .ref o1), (4, .ref o2), (5, .int (nI i))]) [2, 3, 4, 5, 6, 7] rfl ?_
    exact tl_widen (by omega) (by omega) (cont _ _ _ _ _ _ _ _ C0 hT hR')
  refine tg_aload_n 5 C0 dL_law_2229 rfl rfl ?_
  refine tg_iconst (x := 0) C0 dL_law_2230 (by decide) ?_
  refine tl_lald C0 hF dL_law_2231 ?_
  refine tg_iload 0 C0 dL_law_2232 rfl ?_
  refine tl_i2l C0 dL_law_2234 ?_
  refine tl_lcmp (heq hk) C0 dL_law_2235 ?_
  refine tg_eq (r := if (0 : Int32) = 0 then some () else none) (by rw [if_pos rfl]) ?_
  refine tg_if_eq 2241 C0 dL_law_2236 (by decide) (fun _ => ?_) (fun q => absurd rfl q)
  refine tg_goto 2790 C0 dL_law_2241 (by decide) ?_
  refine tg_sub (lv' := [(0, .ref b), (1, .ref (ad 247)), (2, .ref (ar 0)), (3, .ref o1), (4, .ref o2), (5, .int (nI i))]) [2, 3, 4, 5, 6, 7] rfl ?_
  exact tl_widen (by omega) (by omega) (cont _ _ _ _ _ _ _ _ C0 hT hR')
-- ----- case 39: mean
set_option maxRecDepth 100000 in
theorem law_case_39 {p : Program} {l : Launch} {e : Env} {s : State} {m : MethodId} {args : Array Value} {below : List Frame} {meth : Method} {c : Code} {A : Nat → Prop} {D : va_G} {cy : Nat → ClassId} {ad ar : Nat → Nat} {o1 o2 : Nat} {cL cD : ClassId} {adK adV adE : Nat → Nat} {tC : Nat} {Q : State → Prop} {rt : Option FieldType} {cells slots b i L : Nat} {xs : Nat → Int32} {Rel Rel2 : tmM → List Int32 → tmM → Prop} (hl : l.stackTraces = false) (hp : tP_mean Rel Rel2) (hX : va_X b L xs s s.heap) (hbl : b < s.heap.size) (hbA : ¬ A b) (hi : i + 5 ≤ L ∧ L ≤ 2560) (hE : tmSc adK adV adE tC A s s.heap) (hTh : tmTh A s s.heap) (hF : tlF D cy cL cD s) (hcs : cells + 64 ≤ 601024 ∧ slots + 8000 ≤ 7293034) {κ b0 : Nat} {u v w : tmM} {bs : List Int32} {xo : Int64} {xd : UInt64} (C0 : tmC p s m args meth c cL_law 10 rt RL TMW tm_NWC D cy tm_s0 tm_a0 0 (tlW cy ad ar o1 o2 cL cD κ b0 u v w xo xd) A) (hT : tmTx κ u bs) (hR : Rel v bs w) (cont : ∀ (κ b0 : Nat) (u v w : tmM) (bs : List Int32) (xo : Int64) (xd : UInt64), tmC p s m args meth c cL_law 10 rt RL TMW tm_NWC D cy tm_s0 tm_a0 0 (tlW cy ad ar o1 o2 cL cD κ b0 u v w xo xd) A → tmTx κ u bs → Rel2 v bs w → tmG p l e room_1 s m args below meth c (cells + 64) (slots + 8000) Q 10 D cy tm_s0 tm_a0 0 (tlW cy ad ar o1 o2 cL cD κ b0 u v w xo xd) A () 2790 [(0, .ref b), (1, .ref (ad 247)), (2, .ref (ar 0)), (3, .ref o1), (4, .ref o2), (5, .int (nI i))] [] tm_v0 (some ())) : tmG p l e room_1 s m args below meth c (cells) (slots) Q 10 D cy tm_s0 tm_a0 0 (tlW cy ad ar o1 o2 cL cD κ b0 u v w xo xd) A () 2244 [(0, .ref b), (1, .ref (ad 247)), (2, .ref (ar 0)), (3, .ref o1), (4, .ref o2), (5, .int (nI i))] [] tm_v0 (some ()) := by
  obtain ⟨k, xo', xd', v', bs', r, w1, w2, ho, hr, ht, heq, hR'⟩ := hp (xs (i + 1)) v bs w xo xd hR
  refine tg_aload_n 1 C0 dL_law_2244 rfl rfl ?_
  refine tg_aload_n 0 C0 dL_law_2245 rfl rfl ?_
  refine tg_iload 5 C0 dL_law_2246 rfl ?_
  refine tg_iconst (x := nI 1) C0 dL_law_2248 (by decide) ?_
  refine tg_iadd C0 dL_law_2249 ?_
  rw [tl_add i 1]
  refine tl_sld C0 hX hbl hbA (tl_idx (by omega) hi.2) dL_law_2250 ?_
  rw [nI_clamp (show i + 1 < 2147483648 by omega)]
  refine tg_aload 4 C0 dL_law_2251 rfl ?_
  refine tl_callS (st := []) (st0 := _) (xo' := xo') (xd' := xd') (v' := v') (bs' := bs') 3 C0 hE hTh hF hT dL_law_2253 (cL_c_mean l hl (xs (i + 1)) v bs) ho rfl (tl_gS2 tl_L_278 tst_L_mean tn_L tc_L_mean) rfl rfl rfl rfl (by decide +kernel) ⟨Nat.le_of_ble_eq_true rfl, Nat.le_of_ble_eq_true rfl⟩ (Nat.le_of_ble_eq_true rfl) ⟨by show _ ≤ 601024; omega, by show _ ≤ 7293034; omega⟩ (fun κ b0 u hT C0 => ?_)
  refine tg_istore [(6, .int k), (0, .ref b), (1, .ref (ad 247)), (2, .ref (ar 0)), (3, .ref o1), (4, .ref o2), (5, .int (nI i))] C0 dL_law_2256 (by decide) rfl ?_
  refine tg_aload_n 3 C0 dL_law_2258 rfl rfl ?_
  refine tg_aload_n 1 C0 dL_law_2259 rfl rfl ?_
  refine tg_iload 6 C0 dL_law_2260 rfl ?_
  refine tg_iconst (x := nI 1) C0 dL_law_2262 (by decide) ?_
  refine tg_iadd C0 dL_law_2263 ?_
  rw [tl_add i 1]
  refine tl_sld C0 hX hbl hbA (tl_idx (by omega) hi.2) dL_law_2264 ?_
  rw [nI_clamp (show i + 1 < 2147483648 by omega)]
  refine tl_md (X' := tlW cy ad ar o1 o2 cL cD κ b0 u v' w1 xo' xd') (NW1 := tm_NWR) (pre := (tm_w cy tm_shC ad 256 v' ++ tmXB cy (ad 256) κ b0 u)) (suf := tlO o1 o2 cL cD xo' xd') (sh := tm_shR) (n := 13) (ad := ar) (As := [.int (xs (i + 1))]) (fs := [none, some 1, some 2, none, some 3, some 4, some 5, none, none, none, none, none, some 6, none, some 7, some 8, none, none, none, none, none, none, none, some 9, none, some 10, some 11, some 12]) 0 1 C0 rfl rfl (fun _ _ _ h => by cases h) rfl dL_law_2265 (c_X8_mean l (xs (i + 1)) _) hr rfl rfl (by decide) rfl rfl (tm_gV tl_L_281 ti_X8_mean ts_X8_mean tn_X8 tc_X8_mean) rfl rfl rfl rfl (by decide +kernel) ⟨Nat.le_of_ble_eq_true rfl, Nat.le_of_ble_eq_true rfl⟩ (Nat.le_of_ble_eq_true rfl) ⟨by show _ ≤ 601024; omega, by show _ ≤ 7293034; omega⟩ (fun C0 => ?_)
  refine tl_dstore [(7, .double r), (6, .int k), (0, .ref b), (1, .ref (ad 247)), (2, .ref (ar 0)), (3, .ref o1), (4, .ref o2), (5, .int (nI i))] C0 dL_law_2268 (by decide) rfl ?_
  refine tg_aload_n 4 C0 dL_law_2270 rfl rfl ?_
  refine tl_mi (X' := tlW cy ad ar o1 o2 cL cD κ b0 u v' w2 xo' xd') (NW1 := tm_NWR) (pre := (tm_w cy tm_shC ad 256 v' ++ tmXB cy (ad 256) κ b0 u)) (suf := tlO o1 o2 cL cD xo' xd') (sh := tm_shR) (n := 13) (ad := ar) (As := []) (fs := [none, some 1, some 2, none, some 3, some 4, some 5, none, none, none, none, none, some 6, none, some 7, some 8, none, none, none, none, none, none, none, some 9, none, some 10, some 11, some 12]) 0 0 C0 rfl rfl (fun _ _ _ h => by cases h) rfl dL_law_2271 (c_X8_thrown l _) ht rfl rfl (by decide) rfl rfl (tm_gV tl_L_145 ti_X8_thrown ts_X8_thrown tn_X8 tc_X8_thrown) rfl rfl rfl rfl (by decide +kernel) ⟨Nat.le_of_ble_eq_true rfl, Nat.le_of_ble_eq_true rfl⟩ (Nat.le_of_ble_eq_true rfl) ⟨by show _ ≤ 601024; omega, by show _ ≤ 7293034; omega⟩ (fun C0 => ?_)
  refine tg_iload 1 C0 dL_law_2274 rfl ?_
  refine tg_eq (r := if k = k then some () else none) (by rw [if_pos rfl]) ?_
  refine tg_icmp_eq 2281 C0 dL_law_2276 (by decide) (fun _ => ?_) (fun q => absurd rfl q)
  refine tg_iload 1 C0 dL_law_2281 rfl ?_
  refine tg_eq (r := if k = 0 then some () else some ()) (by split <;> rfl) ?_
  refine tg_if_ne 2318 C0 dL_law_2283 (by decide) (fun _ => ?_) (fun hk => ?_)
  · refine tg_goto 2790 C0 dL_law_2318 (by decide) ?_
    refine tg_sub (lv' := [(0, .ref b), (1, .ref (ad 247)), (2, .ref (ar 0)), (3, .ref o1), (4, .ref o2), (5, .int (nI i))]) [2, 3, 4, 5, 6, 7] rfl ?_
    exact tl_widen (by omega) (by omega) (cont _ _ _ _ _ _ _ _ C0 hT hR')
  refine tg_aload 6 C0 dL_law_2286 rfl ?_
  refine tg_iconst (x := 0) C0 dL_law_2288 (by decide) ?_
  refine tl_dald C0 hF dL_law_2289 ?_
  refine tl_dload 0 C0 dL_law_2290 rfl ?_
  refine tl_dcmp (heq hk) C0 dL_law_2292 ?_
  refine tg_eq (r := if (0 : Int32) = 0 then some () else none) (by rw [if_pos rfl]) ?_
  refine tg_if_eq 2318 C0 dL_law_2293 (by decide) (fun _ => ?_) (fun q => absurd rfl q)
  refine tg_goto 2790 C0 dL_law_2318 (by decide) ?_
  refine tg_sub (lv' := [(0, .ref b), (1, .ref (ad 247)), (2, .ref (ar 0)), (3, .ref o1), (4, .ref o2), (5, .int (nI i))]) [2, 3, 4, 5, 6, 7] rfl ?_
  exact tl_widen (by omega) (by omega) (cont _ _ _ _ _ _ _ _ C0 hT hR')
