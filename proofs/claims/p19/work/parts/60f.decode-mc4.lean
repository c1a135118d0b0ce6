/-! decode rows -/
theorem dX12_init_1747 : decode cX12_init 1747 = .ok (.dup, 1) := by decide +kernel
theorem dX12_init_1748 : decode cX12_init 1748 = .ok (.iconst 3, 1) := by decide +kernel
theorem dX12_init_1749 : decode cX12_init 1749 = .ok (.bipush 116, 2) := by decide +kernel
theorem dX12_init_1751 : decode cX12_init 1751 = .ok (.iastore, 1) := by decide +kernel
theorem dX12_init_1752 : decode cX12_init 1752 = .ok (.dup, 1) := by decide +kernel
theorem dX12_init_1753 : decode cX12_init 1753 = .ok (.iconst 4, 1) := by decide +kernel
theorem dX12_init_1754 : decode cX12_init 1754 = .ok (.bipush 114, 2) := by decide +kernel
theorem dX12_init_1756 : decode cX12_init 1756 = .ok (.iastore, 1) := by decide +kernel
theorem dX12_init_1757 : decode cX12_init 1757 = .ok (.dup, 1) := by decide +kernel
theorem dX12_init_1758 : decode cX12_init 1758 = .ok (.iconst 5, 1) := by decide +kernel
theorem dX12_init_1759 : decode cX12_init 1759 = .ok (.bipush 117, 2) := by decide +kernel
theorem dX12_init_1761 : decode cX12_init 1761 = .ok (.iastore, 1) := by decide +kernel
theorem dX12_init_1762 : decode cX12_init 1762 = .ok (.dup, 1) := by decide +kernel
theorem dX12_init_1763 : decode cX12_init 1763 = .ok (.bipush 6, 2) := by decide +kernel
theorem dX12_init_1765 : decode cX12_init 1765 = .ok (.bipush 116, 2) := by decide +kernel
theorem dX12_init_1767 : decode cX12_init 1767 = .ok (.iastore, 1) := by decide +kernel
theorem dX12_init_1768 : decode cX12_init 1768 = .ok (.dup, 1) := by decide +kernel
theorem dX12_init_1769 : decode cX12_init 1769 = .ok (.bipush 7, 2) := by decide +kernel
theorem dX12_init_1771 : decode cX12_init 1771 = .ok (.bipush 104, 2) := by decide +kernel
theorem dX12_init_1773 : decode cX12_init 1773 = .ok (.iastore, 1) := by decide +kernel
theorem dX12_init_1774 : decode cX12_init 1774 = .ok (.dup, 1) := by decide +kernel
theorem dX12_init_1775 : decode cX12_init 1775 = .ok (.bipush 8, 2) := by decide +kernel
theorem dX12_init_1777 : decode cX12_init 1777 = .ok (.bipush 32, 2) := by decide +kernel
theorem dX12_init_1779 : decode cX12_init 1779 = .ok (.iastore, 1) := by decide +kernel
theorem dX12_init_1780 : decode cX12_init 1780 = .ok (.dup, 1) := by decide +kernel
theorem dX12_init_1781 : decode cX12_init 1781 = .ok (.bipush 9, 2) := by decide +kernel
theorem dX12_init_1783 : decode cX12_init 1783 = .ok (.bipush 119, 2) := by decide +kernel
theorem dX12_init_1785 : decode cX12_init 1785 = .ok (.iastore, 1) := by decide +kernel
theorem dX12_init_1786 : decode cX12_init 1786 = .ok (.dup, 1) := by decide +kernel
theorem dX12_init_1787 : decode cX12_init 1787 = .ok (.bipush 10, 2) := by decide +kernel
theorem dX12_init_1789 : decode cX12_init 1789 = .ok (.bipush 104, 2) := by decide +kernel
theorem dX12_init_1791 : decode cX12_init 1791 = .ok (.iastore, 1) := by decide +kernel
theorem dX12_init_1792 : decode cX12_init 1792 = .ok (.dup, 1) := by decide +kernel
theorem dX12_init_1793 : decode cX12_init 1793 = .ok (.bipush 11, 2) := by decide +kernel
theorem dX12_init_1795 : decode cX12_init 1795 = .ok (.bipush 111, 2) := by decide +kernel
theorem dX12_init_1797 : decode cX12_init 1797 = .ok (.iastore, 1) := by decide +kernel
theorem dX12_init_1798 : decode cX12_init 1798 = .ok (.dup, 1) := by decide +kernel
theorem dX12_init_1799 : decode cX12_init 1799 = .ok (.bipush 12, 2) := by decide +kernel
theorem dX12_init_1801 : decode cX12_init 1801 = .ok (.bipush 108, 2) := by decide +kernel
theorem dX12_init_1803 : decode cX12_init 1803 = .ok (.iastore, 1) := by decide +kernel
theorem dX12_init_1804 : decode cX12_init 1804 = .ok (.dup, 1) := by decide +kernel
theorem dX12_init_1805 : decode cX12_init 1805 = .ok (.bipush 13, 2) := by decide +kernel
theorem dX12_init_1807 : decode cX12_init 1807 = .ok (.bipush 101, 2) := by decide +kernel
theorem dX12_init_1809 : decode cX12_init 1809 = .ok (.iastore, 1) := by decide +kernel
theorem dX12_init_1810 : decode cX12_init 1810 = .ok (.dup, 1) := by decide +kernel
theorem dX12_init_1811 : decode cX12_init 1811 = .ok (.bipush 14, 2) := by decide +kernel
theorem dX12_init_1813 : decode cX12_init 1813 = .ok (.bipush 32, 2) := by decide +kernel
theorem dX12_init_1815 : decode cX12_init 1815 = .ok (.iastore, 1) := by decide +kernel
theorem dX12_init_1816 : decode cX12_init 1816 = .ok (.dup, 1) := by decide +kernel
theorem dX12_init_1817 : decode cX12_init 1817 = .ok (.bipush 15, 2) := by decide +kernel
theorem dX12_init_1819 : decode cX12_init 1819 = .ok (.bipush 97, 2) := by decide +kernel
theorem dX12_init_1821 : decode cX12_init 1821 = .ok (.iastore, 1) := by decide +kernel
theorem dX12_init_1822 : decode cX12_init 1822 = .ok (.dup, 1) := by decide +kernel
theorem dX12_init_1823 : decode cX12_init 1823 = .ok (.bipush 16, 2) := by decide +kernel
theorem dX12_init_1825 : decode cX12_init 1825 = .ok (.bipush 116, 2) := by decide +kernel
theorem dX12_init_1827 : decode cX12_init 1827 = .ok (.iastore, 1) := by decide +kernel
theorem dX12_init_1828 : decode cX12_init 1828 = .ok (.dup, 1) := by decide +kernel
theorem dX12_init_1829 : decode cX12_init 1829 = .ok (.bipush 17, 2) := by decide +kernel
theorem dX12_init_1831 : decode cX12_init 1831 = .ok (.bipush 111, 2) := by decide +kernel
theorem dX12_init_1833 : decode cX12_init 1833 = .ok (.iastore, 1) := by decide +kernel
theorem dX12_init_1834 : decode cX12_init 1834 = .ok (.dup, 1) := by decide +kernel
theorem dX12_init_1835 : decode cX12_init 1835 = .ok (.bipush 18, 2) := by decide +kernel
theorem dX12_init_1837 : decode cX12_init 1837 = .ok (.bipush 109, 2) := by decide +kernel
theorem dX12_init_1839 : decode cX12_init 1839 = .ok (.iastore, 1) := by decide +kernel
theorem dX12_init_1840 : decode cX12_init 1840 = .ok (.dup, 1) := by decide +kernel
theorem dX12_init_1841 : decode cX12_init 1841 = .ok (.bipush 19, 2) := by decide +kernel
theorem dX12_init_1843 : decode cX12_init 1843 = .ok (.bipush 32, 2) := by decide +kernel
theorem dX12_init_1845 : decode cX12_init 1845 = .ok (.iastore, 1) := by decide +kernel
theorem dX12_init_1846 : decode cX12_init 1846 = .ok (.dup, 1) := by decide +kernel
theorem dX12_init_1847 : decode cX12_init 1847 = .ok (.bipush 20, 2) := by decide +kernel
theorem dX12_init_1849 : decode cX12_init 1849 = .ok (.bipush 115, 2) := by decide +kernel
theorem dX12_init_1851 : decode cX12_init 1851 = .ok (.iastore, 1) := by decide +kernel
theorem dX12_init_1852 : decode cX12_init 1852 = .ok (.dup, 1) := by decide +kernel
theorem dX12_init_1853 : decode cX12_init 1853 = .ok (.bipush 21, 2) := by decide +kernel
theorem dX12_init_1855 : decode cX12_init 1855 = .ok (.bipush 116, 2) := by decide +kernel
theorem dX12_init_1857 : decode cX12_init 1857 = .ok (.iastore, 1) := by decide +kernel
theorem dX12_init_1858 : decode cX12_init 1858 = .ok (.dup, 1) := by decide +kernel
theorem dX12_init_1859 : decode cX12_init 1859 = .ok (.bipush 22, 2) := by decide +kernel
theorem dX12_init_1861 : decode cX12_init 1861 = .ok (.bipush 114, 2) := by decide +kernel
theorem dX12_init_1863 : decode cX12_init 1863 = .ok (.iastore, 1) := by decide +kernel
theorem dX12_init_1864 : decode cX12_init 1864 = .ok (.dup, 1) := by decide +kernel
theorem dX12_init_1865 : decode cX12_init 1865 = .ok (.bipush 23, 2) := by decide +kernel
theorem dX12_init_1867 : decode cX12_init 1867 = .ok (.bipush 105, 2) := by decide +kernel
theorem dX12_init_1869 : decode cX12_init 1869 = .ok (.iastore, 1) := by decide +kernel
theorem dX12_init_1870 : decode cX12_init 1870 = .ok (.dup, 1) := by decide +kernel
theorem dX12_init_1871 : decode cX12_init 1871 = .ok (.bipush 24, 2) := by decide +kernel
theorem dX12_init_1873 : decode cX12_init 1873 = .ok (.bipush 110, 2) := by decide +kernel
theorem dX12_init_1875 : decode cX12_init 1875 = .ok (.iastore, 1) := by decide +kernel
theorem dX12_init_1876 : decode cX12_init 1876 = .ok (.dup, 1) := by decide +kernel
theorem dX12_init_1877 : decode cX12_init 1877 = .ok (.bipush 25, 2) := by decide +kernel
theorem dX12_init_1879 : decode cX12_init 1879 = .ok (.bipush 103, 2) := by decide +kernel
theorem dX12_init_1881 : decode cX12_init 1881 = .ok (.iastore, 1) := by decide +kernel
theorem dX12_init_1882 : decode cX12_init 1882 = .ok (.dup, 1) := by decide +kernel
theorem dX12_init_1883 : decode cX12_init 1883 = .ok (.bipush 26, 2) := by decide +kernel
theorem dX12_init_1885 : decode cX12_init 1885 = .ok (.bipush 32, 2) := by decide +kernel
theorem dX12_init_1887 : decode cX12_init 1887 = .ok (.iastore, 1) := by decide +kernel
theorem dX12_init_1888 : decode cX12_init 1888 = .ok (.dup, 1) := by decide +kernel
theorem dX12_init_1889 : decode cX12_init 1889 = .ok (.bipush 27, 2) := by decide +kernel
theorem dX12_init_1891 : decode cX12_init 1891 = .ok (.bipush 116, 2) := by decide +kernel
theorem dX12_init_1893 : decode cX12_init 1893 = .ok (.iastore, 1) := by decide +kernel
theorem dX12_init_1894 : decode cX12_init 1894 = .ok (.dup, 1) := by decide +kernel
theorem dX12_init_1895 : decode cX12_init 1895 = .ok (.bipush 28, 2) := by decide +kernel
theorem dX12_init_1897 : decode cX12_init 1897 = .ok (.bipush 117, 2) := by decide +kernel
theorem dX12_init_1899 : decode cX12_init 1899 = .ok (.iastore, 1) := by decide +kernel
theorem dX12_init_1900 : decode cX12_init 1900 = .ok (.dup, 1) := by decide +kernel
theorem dX12_init_1901 : decode cX12_init 1901 = .ok (.bipush 29, 2) := by decide +kernel
theorem dX12_init_1903 : decode cX12_init 1903 = .ok (.bipush 112, 2) := by decide +kernel
theorem dX12_init_1905 : decode cX12_init 1905 = .ok (.iastore, 1) := by decide +kernel
theorem dX12_init_1906 : decode cX12_init 1906 = .ok (.dup, 1) := by decide +kernel
theorem dX12_init_1907 : decode cX12_init 1907 = .ok (.bipush 30, 2) := by decide +kernel
theorem dX12_init_1909 : decode cX12_init 1909 = .ok (.bipush 108, 2) := by decide +kernel
theorem dX12_init_1911 : decode cX12_init 1911 = .ok (.iastore, 1) := by decide +kernel
theorem dX12_init_1912 : decode cX12_init 1912 = .ok (.dup, 1) := by decide +kernel
theorem dX12_init_1913 : decode cX12_init 1913 = .ok (.bipush 31, 2) := by decide +kernel
theorem dX12_init_1915 : decode cX12_init 1915 = .ok (.bipush 101, 2) := by decide +kernel
theorem dX12_init_1917 : decode cX12_init 1917 = .ok (.iastore, 1) := by decide +kernel
theorem dX12_init_1918 : decode cX12_init 1918 = .ok (.dup, 1) := by decide +kernel
theorem dX12_init_1919 : decode cX12_init 1919 = .ok (.bipush 32, 2) := by decide +kernel
theorem dX12_init_1921 : decode cX12_init 1921 = .ok (.bipush 32, 2) := by decide +kernel
theorem dX12_init_1923 : decode cX12_init 1923 = .ok (.iastore, 1) := by decide +kernel
theorem dX12_init_1924 : decode cX12_init 1924 = .ok (.dup, 1) := by decide +kernel
theorem dX12_init_1925 : decode cX12_init 1925 = .ok (.bipush 33, 2) := by decide +kernel
theorem dX12_init_1927 : decode cX12_init 1927 = .ok (.bipush 115, 2) := by decide +kernel
theorem dX12_init_1929 : decode cX12_init 1929 = .ok (.iastore, 1) := by decide +kernel
theorem dX12_init_1930 : decode cX12_init 1930 = .ok (.dup, 1) := by decide +kernel
theorem dX12_init_1931 : decode cX12_init 1931 = .ok (.bipush 34, 2) := by decide +kernel
theorem dX12_init_1933 : decode cX12_init 1933 = .ok (.bipush 101, 2) := by decide +kernel
theorem dX12_init_1935 : decode cX12_init 1935 = .ok (.iastore, 1) := by decide +kernel
theorem dX12_init_1936 : decode cX12_init 1936 = .ok (.dup, 1) := by decide +kernel
theorem dX12_init_1937 : decode cX12_init 1937 = .ok (.bipush 35, 2) := by decide +kernel
theorem dX12_init_1939 : decode cX12_init 1939 = .ok (.bipush 116, 2) := by decide +kernel
theorem dX12_init_1941 : decode cX12_init 1941 = .ok (.iastore, 1) := by decide +kernel
theorem dX12_init_1942 : decode cX12_init 1942 = .ok (.dup, 1) := by decide +kernel
theorem dX12_init_1943 : decode cX12_init 1943 = .ok (.bipush 36, 2) := by decide +kernel
theorem dX12_init_1945 : decode cX12_init 1945 = .ok (.bipush 32, 2) := by decide +kernel
theorem dX12_init_1947 : decode cX12_init 1947 = .ok (.iastore, 1) := by decide +kernel
theorem dX12_init_1948 : decode cX12_init 1948 = .ok (.putfield 533, 3) := by decide +kernel
theorem dX12_init_1951 : decode cX12_init 1951 = .ok (.aload_n 0, 1) := by decide +kernel
theorem dX12_init_1952 : decode cX12_init 1952 = .ok (.ldc_w 1001, 3) := by decide +kernel
theorem dX12_init_1955 : decode cX12_init 1955 = .ok (.newarray .int, 2) := by decide +kernel
theorem dX12_init_1957 : decode cX12_init 1957 = .ok (.putfield 7, 3) := by decide +kernel
theorem dX12_init_1960 : decode cX12_init 1960 = .ok (.aload_n 0, 1) := by decide +kernel
theorem dX12_init_1961 : decode cX12_init 1961 = .ok (.ldc_w 1002, 3) := by decide +kernel
theorem dX12_init_1964 : decode cX12_init 1964 = .ok (.newarray .int, 2) := by decide +kernel
theorem dX12_init_1966 : decode cX12_init 1966 = .ok (.putfield 83, 3) := by decide +kernel
theorem dX12_init_1969 : decode cX12_init 1969 = .ok (.aload_n 0, 1) := by decide +kernel
theorem dX12_init_1970 : decode cX12_init 1970 = .ok (.ldc_w 1002, 3) := by decide +kernel
theorem dX12_init_1973 : decode cX12_init 1973 = .ok (.newarray .int, 2) := by decide +kernel
theorem dX12_init_1975 : decode cX12_init 1975 = .ok (.putfield 86, 3) := by decide +kernel
theorem dX12_init_1978 : decode cX12_init 1978 = .ok (.aload_n 0, 1) := by decide +kernel
theorem dX12_init_1979 : decode cX12_init 1979 = .ok (.ldc_w 1002, 3) := by decide +kernel
theorem dX12_init_1982 : decode cX12_init 1982 = .ok (.newarray .int, 2) := by decide +kernel
theorem dX12_init_1984 : decode cX12_init 1984 = .ok (.putfield 89, 3) := by decide +kernel
theorem dX12_init_1987 : decode cX12_init 1987 = .ok (.aload_n 0, 1) := by decide +kernel
theorem dX12_init_1988 : decode cX12_init 1988 = .ok (.ldc_w 1002, 3) := by decide +kernel
theorem dX12_init_1991 : decode cX12_init 1991 = .ok (.newarray .int, 2) := by decide +kernel
theorem dX12_init_1993 : decode cX12_init 1993 = .ok (.putfield 92, 3) := by decide +kernel
theorem dX12_init_1996 : decode cX12_init 1996 = .ok (.aload_n 0, 1) := by decide +kernel
theorem dX12_init_1997 : decode cX12_init 1997 = .ok (.ldc_w 1002, 3) := by decide +kernel
theorem dX12_init_2000 : decode cX12_init 2000 = .ok (.newarray .int, 2) := by decide +kernel
theorem dX12_init_2002 : decode cX12_init 2002 = .ok (.putfield 95, 3) := by decide +kernel
theorem dX12_init_2005 : decode cX12_init 2005 = .ok (.aload_n 0, 1) := by decide +kernel
theorem dX12_init_2006 : decode cX12_init 2006 = .ok (.ldc_w 1002, 3) := by decide +kernel
theorem dX12_init_2009 : decode cX12_init 2009 = .ok (.newarray .int, 2) := by decide +kernel
theorem dX12_init_2011 : decode cX12_init 2011 = .ok (.putfield 98, 3) := by decide +kernel
theorem dX12_init_2014 : decode cX12_init 2014 = .ok (.aload_n 0, 1) := by decide +kernel
theorem dX12_init_2015 : decode cX12_init 2015 = .ok (.sipush 401, 3) := by decide +kernel
theorem dX12_init_2018 : decode cX12_init 2018 = .ok (.newarray .int, 2) := by decide +kernel
theorem dX12_init_2020 : decode cX12_init 2020 = .ok (.putfield 291, 3) := by decide +kernel
theorem dX12_init_2023 : decode cX12_init 2023 = .ok (.aload_n 0, 1) := by decide +kernel
theorem dX12_init_2024 : decode cX12_init 2024 = .ok (.sipush 401, 3) := by decide +kernel
theorem dX12_init_2027 : decode cX12_init 2027 = .ok (.newarray .int, 2) := by decide +kernel
theorem dX12_init_2029 : decode cX12_init 2029 = .ok (.putfield 318, 3) := by decide +kernel
theorem dX12_init_2032 : decode cX12_init 2032 = .ok (.aload_n 0, 1) := by decide +kernel
theorem dX12_init_2033 : decode cX12_init 2033 = .ok (.ldc_w 1002, 3) := by decide +kernel
theorem dX12_init_2036 : decode cX12_init 2036 = .ok (.newarray .int, 2) := by decide +kernel
theorem dX12_init_2038 : decode cX12_init 2038 = .ok (.putfield 108, 3) := by decide +kernel
theorem dX12_init_2041 : decode cX12_init 2041 = .ok (.aload_n 0, 1) := by decide +kernel
theorem dX12_init_2042 : decode cX12_init 2042 = .ok (.sipush 200, 3) := by decide +kernel
theorem dX12_init_2045 : decode cX12_init 2045 = .ok (.newarray .int, 2) := by decide +kernel
theorem dX12_init_2047 : decode cX12_init 2047 = .ok (.putfield 148, 3) := by decide +kernel
theorem dX12_init_2050 : decode cX12_init 2050 = .ok (.aload_n 0, 1) := by decide +kernel
theorem dX12_init_2051 : decode cX12_init 2051 = .ok (.sipush 200, 3) := by decide +kernel
theorem dX12_init_2054 : decode cX12_init 2054 = .ok (.newarray .int, 2) := by decide +kernel
theorem dX12_init_2056 : decode cX12_init 2056 = .ok (.putfield 142, 3) := by decide +kernel
theorem dX12_init_2059 : decode cX12_init 2059 = .ok (.aload_n 0, 1) := by decide +kernel
theorem dX12_init_2060 : decode cX12_init 2060 = .ok (.sipush 200, 3) := by decide +kernel
theorem dX12_init_2063 : decode cX12_init 2063 = .ok (.newarray .int, 2) := by decide +kernel
theorem dX12_init_2065 : decode cX12_init 2065 = .ok (.putfield 145, 3) := by decide +kernel
theorem dX12_init_2068 : decode cX12_init 2068 = .ok (.aload_n 0, 1) := by decide +kernel
theorem dX12_init_2069 : decode cX12_init 2069 = .ok (.sipush 200, 3) := by decide +kernel
theorem dX12_init_2072 : decode cX12_init 2072 = .ok (.newarray .int, 2) := by decide +kernel
theorem dX12_init_2074 : decode cX12_init 2074 = .ok (.putfield 151, 3) := by decide +kernel
theorem dX12_init_2077 : decode cX12_init 2077 = .ok (.aload_n 0, 1) := by decide +kernel
theorem dX12_init_2078 : decode cX12_init 2078 = .ok (.bipush 41, 2) := by decide +kernel
theorem dX12_init_2080 : decode cX12_init 2080 = .ok (.newarray .int, 2) := by decide +kernel
theorem dX12_init_2082 : decode cX12_init 2082 = .ok (.putfield 359, 3) := by decide +kernel
theorem dX12_init_2085 : decode cX12_init 2085 = .ok (.aload_n 0, 1) := by decide +kernel
theorem dX12_init_2086 : decode cX12_init 2086 = .ok (.bipush 41, 2) := by decide +kernel
theorem dX12_init_2088 : decode cX12_init 2088 = .ok (.newarray .int, 2) := by decide +kernel
theorem dX12_init_2090 : decode cX12_init 2090 = .ok (.putfield 239, 3) := by decide +kernel
theorem dX12_init_2093 : decode cX12_init 2093 = .ok (.aload_n 0, 1) := by decide +kernel
theorem dX12_init_2094 : decode cX12_init 2094 = .ok (.sipush 328, 3) := by decide +kernel
theorem dX12_init_2097 : decode cX12_init 2097 = .ok (.newarray .int, 2) := by decide +kernel
theorem dX12_init_2099 : decode cX12_init 2099 = .ok (.putfield 330, 3) := by decide +kernel
theorem dX12_init_2102 : decode cX12_init 2102 = .ok (.aload_n 0, 1) := by decide +kernel
theorem dX12_init_2103 : decode cX12_init 2103 = .ok (.sipush 2580, 3) := by decide +kernel
theorem dX12_init_2106 : decode cX12_init 2106 = .ok (.newarray .boolean, 2) := by decide +kernel
theorem dX12_init_2108 : decode cX12_init 2108 = .ok (.putfield 160, 3) := by decide +kernel
theorem dX12_init_2111 : decode cX12_init 2111 = .ok (.aload_n 0, 1) := by decide +kernel
theorem dX12_init_2112 : decode cX12_init 2112 = .ok (.bipush 43, 2) := by decide +kernel
theorem dX12_init_2114 : decode cX12_init 2114 = .ok (.newarray .int, 2) := by decide +kernel
theorem dX12_init_2116 : decode cX12_init 2116 = .ok (.putfield 157, 3) := by decide +kernel
theorem dX12_init_2119 : decode cX12_init 2119 = .ok (.aload_n 0, 1) := by decide +kernel
theorem dX12_init_2120 : decode cX12_init 2120 = .ok (.sipush 400, 3) := by decide +kernel
theorem dX12_init_2123 : decode cX12_init 2123 = .ok (.newarray .int, 2) := by decide +kernel
theorem dX12_init_2125 : decode cX12_init 2125 = .ok (.putfield 117, 3) := by decide +kernel
theorem dX12_init_2128 : decode cX12_init 2128 = .ok (.aload_n 0, 1) := by decide +kernel
theorem dX12_init_2129 : decode cX12_init 2129 = .ok (.sipush 400, 3) := by decide +kernel
theorem dX12_init_2132 : decode cX12_init 2132 = .ok (.newarray .int, 2) := by decide +kernel
theorem dX12_init_2134 : decode cX12_init 2134 = .ok (.putfield 120, 3) := by decide +kernel
theorem dX12_init_2137 : decode cX12_init 2137 = .ok (.aload_n 0, 1) := by decide +kernel
theorem dX12_init_2138 : decode cX12_init 2138 = .ok (.sipush 400, 3) := by decide +kernel
theorem dX12_init_2141 : decode cX12_init 2141 = .ok (.newarray .int, 2) := by decide +kernel
theorem dX12_init_2143 : decode cX12_init 2143 = .ok (.putfield 127, 3) := by decide +kernel
theorem dX12_init_2146 : decode cX12_init 2146 = .ok (.aload_n 0, 1) := by decide +kernel
theorem dX12_init_2147 : decode cX12_init 2147 = .ok (.sipush 4000, 3) := by decide +kernel
theorem dX12_init_2150 : decode cX12_init 2150 = .ok (.newarray .int, 2) := by decide +kernel
theorem dX12_init_2152 : decode cX12_init 2152 = .ok (.putfield 266, 3) := by decide +kernel
theorem dX12_init_2155 : decode cX12_init 2155 = .ok (.aload_n 0, 1) := by decide +kernel
theorem dX12_init_2156 : decode cX12_init 2156 = .ok (.sipush 4000, 3) := by decide +kernel
theorem dX12_init_2159 : decode cX12_init 2159 = .ok (.newarray .int, 2) := by decide +kernel
theorem dX12_init_2161 : decode cX12_init 2161 = .ok (.putfield 269, 3) := by decide +kernel
theorem dX12_init_2164 : decode cX12_init 2164 = .ok (.aload_n 0, 1) := by decide +kernel
theorem dX12_init_2165 : decode cX12_init 2165 = .ok (.sipush 4000, 3) := by decide +kernel
theorem dX12_init_2168 : decode cX12_init 2168 = .ok (.newarray .int, 2) := by decide +kernel
theorem dX12_init_2170 : decode cX12_init 2170 = .ok (.putfield 272, 3) := by decide +kernel
theorem dX12_init_2173 : decode cX12_init 2173 = .ok (.aload_n 0, 1) := by decide +kernel
theorem dX12_init_2174 : decode cX12_init 2174 = .ok (.ldc_w 1003, 3) := by decide +kernel
theorem dX12_init_2177 : decode cX12_init 2177 = .ok (.newarray .int, 2) := by decide +kernel
theorem dX12_init_2179 : decode cX12_init 2179 = .ok (.putfield 372, 3) := by decide +kernel
theorem dX12_init_2182 : decode cX12_init 2182 = .ok (.aload_n 0, 1) := by decide +kernel
theorem dX12_init_2183 : decode cX12_init 2183 = .ok (.ldc_w 1004, 3) := by decide +kernel
theorem dX12_init_2186 : decode cX12_init 2186 = .ok (.newarray .int, 2) := by decide +kernel
theorem dX12_init_2188 : decode cX12_init 2188 = .ok (.putfield 382, 3) := by decide +kernel
theorem dX12_init_2191 : decode cX12_init 2191 = .ok (.aload_n 0, 1) := by decide +kernel
theorem dX12_init_2192 : decode cX12_init 2192 = .ok (.sipush 11514, 3) := by decide +kernel
theorem dX12_init_2195 : decode cX12_init 2195 = .ok (.newarray .int, 2) := by decide +kernel
theorem dX12_init_2197 : decode cX12_init 2197 = .ok (.putfield 395, 3) := by decide +kernel
theorem dX12_init_2200 : decode cX12_init 2200 = .ok (.aload_n 0, 1) := by decide +kernel
theorem dX12_init_2201 : decode cX12_init 2201 = .ok (.ldc_w 1005, 3) := by decide +kernel
theorem dX12_init_2204 : decode cX12_init 2204 = .ok (.newarray .int, 2) := by decide +kernel
theorem dX12_init_2206 : decode cX12_init 2206 = .ok (.putfield 405, 3) := by decide +kernel
theorem dX12_init_2209 : decode cX12_init 2209 = .ok (.aload_n 0, 1) := by decide +kernel
theorem dX12_init_2210 : decode cX12_init 2210 = .ok (.bipush 20, 2) := by decide +kernel
theorem dX12_init_2212 : decode cX12_init 2212 = .ok (.newarray .int, 2) := by decide +kernel
theorem dX12_init_2214 : decode cX12_init 2214 = .ok (.putfield 968, 3) := by decide +kernel
theorem dX12_init_2217 : decode cX12_init 2217 = .ok (.aload_n 0, 1) := by decide +kernel
theorem dX12_init_2218 : decode cX12_init 2218 = .ok (.sipush 1380, 3) := by decide +kernel
theorem dX12_init_2221 : decode cX12_init 2221 = .ok (.newarray .int, 2) := by decide +kernel
theorem dX12_init_2223 : decode cX12_init 2223 = .ok (.putfield 408, 3) := by decide +kernel
theorem dX12_init_2226 : decode cX12_init 2226 = .ok (.aload_n 0, 1) := by decide +kernel
theorem dX12_init_2227 : decode cX12_init 2227 = .ok (.sipush 4000, 3) := by decide +kernel
theorem dX12_init_2230 : decode cX12_init 2230 = .ok (.newarray .int, 2) := by decide +kernel
theorem dX12_init_2232 : decode cX12_init 2232 = .ok (.putfield 411, 3) := by decide +kernel
theorem dX12_init_2235 : decode cX12_init 2235 = .ok (.aload_n 0, 1) := by decide +kernel
theorem dX12_init_2236 : decode cX12_init 2236 = .ok (.sipush 4000, 3) := by decide +kernel
theorem dX12_init_2239 : decode cX12_init 2239 = .ok (.newarray .int, 2) := by decide +kernel
theorem dX12_init_2241 : decode cX12_init 2241 = .ok (.putfield 700, 3) := by decide +kernel
theorem dX12_init_2244 : decode cX12_init 2244 = .ok (.aload_n 0, 1) := by decide +kernel
theorem dX12_init_2245 : decode cX12_init 2245 = .ok (.bipush 8, 2) := by decide +kernel
theorem dX12_init_2247 : decode cX12_init 2247 = .ok (.newarray .int, 2) := by decide +kernel
theorem dX12_init_2249 : decode cX12_init 2249 = .ok (.putfield 417, 3) := by decide +kernel
theorem dX12_init_2252 : decode cX12_init 2252 = .ok (.aload_n 0, 1) := by decide +kernel
theorem dX12_init_2253 : decode cX12_init 2253 = .ok (.bipush 8, 2) := by decide +kernel
theorem dX12_init_2255 : decode cX12_init 2255 = .ok (.newarray .int, 2) := by decide +kernel
theorem dX12_init_2257 : decode cX12_init 2257 = .ok (.putfield 420, 3) := by decide +kernel
theorem dX12_init_2260 : decode cX12_init 2260 = .ok (.aload_n 0, 1) := by decide +kernel
theorem dX12_init_2261 : decode cX12_init 2261 = .ok (.bipush 8, 2) := by decide +kernel
theorem dX12_init_2263 : decode cX12_init 2263 = .ok (.newarray .int, 2) := by decide +kernel
theorem dX12_init_2265 : decode cX12_init 2265 = .ok (.putfield 423, 3) := by decide +kernel
theorem dX12_init_2268 : decode cX12_init 2268 = .ok (.aload_n 0, 1) := by decide +kernel
theorem dX12_init_2269 : decode cX12_init 2269 = .ok (.bipush 8, 2) := by decide +kernel
theorem dX12_init_2271 : decode cX12_init 2271 = .ok (.newarray .boolean, 2) := by decide +kernel
theorem dX12_init_2273 : decode cX12_init 2273 = .ok (.putfield 1006, 3) := by decide +kernel
theorem dX12_init_2276 : decode cX12_init 2276 = .ok (.aload_n 0, 1) := by decide +kernel
theorem dX12_init_2277 : decode cX12_init 2277 = .ok (.iconst 2, 1) := by decide +kernel
theorem dX12_init_2278 : decode cX12_init 2278 = .ok (.newarray .int, 2) := by decide +kernel
theorem dX12_init_2280 : decode cX12_init 2280 = .ok (.putfield 426, 3) := by decide +kernel
theorem dX12_init_2283 : decode cX12_init 2283 = .ok (.aload_n 0, 1) := by decide +kernel
theorem dX12_init_2284 : decode cX12_init 2284 = .ok (.ldc_w 1009, 3) := by decide +kernel
theorem dX12_init_2287 : decode cX12_init 2287 = .ok (.newarray .int, 2) := by decide +kernel
theorem dX12_init_2289 : decode cX12_init 2289 = .ok (.putfield 448, 3) := by decide +kernel
theorem dX12_init_2292 : decode cX12_init 2292 = .ok (.aload_n 0, 1) := by decide +kernel
theorem dX12_init_2293 : decode cX12_init 2293 = .ok (.sipush 140, 3) := by decide +kernel
theorem dX12_init_2296 : decode cX12_init 2296 = .ok (.newarray .int, 2) := by decide +kernel
theorem dX12_init_2298 : decode cX12_init 2298 = .ok (.putfield 469, 3) := by decide +kernel
theorem dX12_init_2301 : decode cX12_init 2301 = .ok (.aload_n 0, 1) := by decide +kernel
theorem dX12_init_2302 : decode cX12_init 2302 = .ok (.sipush 140, 3) := by decide +kernel
theorem dX12_init_2305 : decode cX12_init 2305 = .ok (.newarray .int, 2) := by decide +kernel
theorem dX12_init_2307 : decode cX12_init 2307 = .ok (.putfield 475, 3) := by decide +kernel
theorem dX12_init_2310 : decode cX12_init 2310 = .ok (.aload_n 0, 1) := by decide +kernel
theorem dX12_init_2311 : decode cX12_init 2311 = .ok (.sipush 300, 3) := by decide +kernel
theorem dX12_init_2314 : decode cX12_init 2314 = .ok (.newarray .int, 2) := by decide +kernel
theorem dX12_init_2316 : decode cX12_init 2316 = .ok (.putfield 481, 3) := by decide +kernel
theorem dX12_init_2319 : decode cX12_init 2319 = .ok (.aload_n 0, 1) := by decide +kernel
theorem dX12_init_2320 : decode cX12_init 2320 = .ok (.sipush 140, 3) := by decide +kernel
theorem dX12_init_2323 : decode cX12_init 2323 = .ok (.newarray .int, 2) := by decide +kernel
theorem dX12_init_2325 : decode cX12_init 2325 = .ok (.putfield 506, 3) := by decide +kernel
theorem dX12_init_2328 : decode cX12_init 2328 = .ok (.aload_n 0, 1) := by decide +kernel
theorem dX12_init_2329 : decode cX12_init 2329 = .ok (.sipush 140, 3) := by decide +kernel
theorem dX12_init_2332 : decode cX12_init 2332 = .ok (.newarray .int, 2) := by decide +kernel
theorem dX12_init_2334 : decode cX12_init 2334 = .ok (.putfield 509, 3) := by decide +kernel
theorem dX12_init_2337 : decode cX12_init 2337 = .ok (.aload_n 0, 1) := by decide +kernel
theorem dX12_init_2338 : decode cX12_init 2338 = .ok (.sipush 140, 3) := by decide +kernel
theorem dX12_init_2341 : decode cX12_init 2341 = .ok (.newarray .int, 2) := by decide +kernel
theorem dX12_init_2343 : decode cX12_init 2343 = .ok (.putfield 521, 3) := by decide +kernel
theorem dX12_init_2346 : decode cX12_init 2346 = .ok (.aload_n 0, 1) := by decide +kernel
theorem dX12_init_2347 : decode cX12_init 2347 = .ok (.sipush 12000, 3) := by decide +kernel
theorem dX12_init_2350 : decode cX12_init 2350 = .ok (.newarray .int, 2) := by decide +kernel
theorem dX12_init_2352 : decode cX12_init 2352 = .ok (.putfield 527, 3) := by decide +kernel
theorem dX12_init_2355 : decode cX12_init 2355 = .ok (.aload_n 0, 1) := by decide +kernel
theorem dX12_init_2356 : decode cX12_init 2356 = .ok (.sipush 400, 3) := by decide +kernel
theorem dX12_init_2359 : decode cX12_init 2359 = .ok (.newarray .int, 2) := by decide +kernel
theorem dX12_init_2361 : decode cX12_init 2361 = .ok (.putfield 539, 3) := by decide +kernel
theorem dX12_init_2364 : decode cX12_init 2364 = .ok (.aload_n 0, 1) := by decide +kernel
theorem dX12_init_2365 : decode cX12_init 2365 = .ok (.sipush 4000, 3) := by decide +kernel
theorem dX12_init_2368 : decode cX12_init 2368 = .ok (.newarray .int, 2) := by decide +kernel
theorem dX12_init_2370 : decode cX12_init 2370 = .ok (.putfield 709, 3) := by decide +kernel
theorem dX12_init_2373 : decode cX12_init 2373 = .ok (.aload_n 0, 1) := by decide +kernel
theorem dX12_init_2374 : decode cX12_init 2374 = .ok (.sipush 8200, 3) := by decide +kernel
theorem dX12_init_2377 : decode cX12_init 2377 = .ok (.newarray .int, 2) := by decide +kernel
theorem dX12_init_2379 : decode cX12_init 2379 = .ok (.putfield 756, 3) := by decide +kernel
theorem dX12_init_2382 : decode cX12_init 2382 = .ok (.aload_n 0, 1) := by decide +kernel
theorem dX12_init_2383 : decode cX12_init 2383 = .ok (.ldc_w 368, 3) := by decide +kernel
theorem dX12_init_2386 : decode cX12_init 2386 = .ok (.newarray .int, 2) := by decide +kernel
theorem dX12_init_2388 : decode cX12_init 2388 = .ok (.putfield 980, 3) := by decide +kernel
theorem dX12_init_2391 : decode cX12_init 2391 = .ok (.aload_n 0, 1) := by decide +kernel
theorem dX12_init_2392 : decode cX12_init 2392 = .ok (.ldc_w 1001, 3) := by decide +kernel
theorem dX12_init_2395 : decode cX12_init 2395 = .ok (.newarray .int, 2) := by decide +kernel
theorem dX12_init_2397 : decode cX12_init 2397 = .ok (.putfield 1010, 3) := by decide +kernel
theorem dX12_init_2400 : decode cX12_init 2400 = .ok (.aload_n 0, 1) := by decide +kernel
theorem dX12_init_2401 : decode cX12_init 2401 = .ok (.ldc_w 1013, 3) := by decide +kernel
theorem dX12_init_2404 : decode cX12_init 2404 = .ok (.newarray .int, 2) := by decide +kernel
theorem dX12_init_2406 : decode cX12_init 2406 = .ok (.putfield 1014, 3) := by decide +kernel
theorem dX12_init_2409 : decode cX12_init 2409 = .ok (.aload_n 0, 1) := by decide +kernel
theorem dX12_init_2410 : decode cX12_init 2410 = .ok (.bipush 8, 2) := by decide +kernel
theorem dX12_init_2412 : decode cX12_init 2412 = .ok (.newarray .int, 2) := by decide +kernel
theorem dX12_init_2414 : decode cX12_init 2414 = .ok (.putfield 1017, 3) := by decide +kernel
theorem dX12_init_2417 : decode cX12_init 2417 = .ok (.aload_n 0, 1) := by decide +kernel
theorem dX12_init_2418 : decode cX12_init 2418 = .ok (.ldc_w 1001, 3) := by decide +kernel
theorem dX12_init_2421 : decode cX12_init 2421 = .ok (.newarray .int, 2) := by decide +kernel
theorem dX12_init_2423 : decode cX12_init 2423 = .ok (.putfield 1020, 3) := by decide +kernel
theorem dX12_init_2426 : decode cX12_init 2426 = .ok (.aload_n 0, 1) := by decide +kernel
theorem dX12_init_2427 : decode cX12_init 2427 = .ok (.sipush 12000, 3) := by decide +kernel
theorem dX12_init_2430 : decode cX12_init 2430 = .ok (.newarray .int, 2) := by decide +kernel
theorem dX12_init_2432 : decode cX12_init 2432 = .ok (.putfield 1023, 3) := by decide +kernel
theorem dX12_init_2435 : decode cX12_init 2435 = .ok (.aload_n 0, 1) := by decide +kernel
theorem dX12_init_2436 : decode cX12_init 2436 = .ok (.invokevirtual 1026, 3) := by decide +kernel
theorem dX12_init_2439 : decode cX12_init 2439 = .ok (.return_, 1) := by decide +kernel
