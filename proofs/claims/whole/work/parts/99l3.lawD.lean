/-! THE LAW: decode rows -/
theorem dL_1766 : decode code 1766 = .ok (.aload_n 0, 1) := by decide +kernel
theorem dL_1767 : decode code 1767 = .ok (.iload_n 3, 1) := by decide +kernel
theorem dL_1768 : decode code 1768 = .ok (.iconst 1, 1) := by decide +kernel
theorem dL_1769 : decode code 1769 = .ok (.iadd, 1) := by decide +kernel
theorem dL_1770 : decode code 1770 = .ok (.iaload, 1) := by decide +kernel
theorem dL_1771 : decode code 1771 = .ok (.invokevirtual 176, 3) := by decide +kernel
theorem dL_1774 : decode code 1774 = .ok (.if_icmp .eq 525, 3) := by decide +kernel
theorem dL_1777 : decode code 1777 = .ok (.iconst 0, 1) := by decide +kernel
theorem dL_1778 : decode code 1778 = .ok (.ireturn, 1) := by decide +kernel
theorem dL_1779 : decode code 1779 = .ok (.aload_n 1, 1) := by decide +kernel
theorem dL_1780 : decode code 1780 = .ok (.aload_n 0, 1) := by decide +kernel
theorem dL_1781 : decode code 1781 = .ok (.iload_n 3, 1) := by decide +kernel
theorem dL_1782 : decode code 1782 = .ok (.iconst 1, 1) := by decide +kernel
theorem dL_1783 : decode code 1783 = .ok (.iadd, 1) := by decide +kernel
theorem dL_1784 : decode code 1784 = .ok (.iaload, 1) := by decide +kernel
theorem dL_1785 : decode code 1785 = .ok (.aload_n 0, 1) := by decide +kernel
theorem dL_1786 : decode code 1786 = .ok (.iload_n 3, 1) := by decide +kernel
theorem dL_1787 : decode code 1787 = .ok (.iconst 2, 1) := by decide +kernel
theorem dL_1788 : decode code 1788 = .ok (.iadd, 1) := by decide +kernel
theorem dL_1789 : decode code 1789 = .ok (.iaload, 1) := by decide +kernel
theorem dL_1790 : decode code 1790 = .ok (.invokevirtual 177, 3) := by decide +kernel
theorem dL_1793 : decode code 1793 = .ok (.aload_n 2, 1) := by decide +kernel
theorem dL_1794 : decode code 1794 = .ok (.aload_n 0, 1) := by decide +kernel
theorem dL_1795 : decode code 1795 = .ok (.iload_n 3, 1) := by decide +kernel
theorem dL_1796 : decode code 1796 = .ok (.iconst 1, 1) := by decide +kernel
theorem dL_1797 : decode code 1797 = .ok (.iadd, 1) := by decide +kernel
theorem dL_1798 : decode code 1798 = .ok (.iaload, 1) := by decide +kernel
theorem dL_1799 : decode code 1799 = .ok (.aload_n 0, 1) := by decide +kernel
theorem dL_1800 : decode code 1800 = .ok (.iload_n 3, 1) := by decide +kernel
theorem dL_1801 : decode code 1801 = .ok (.iconst 2, 1) := by decide +kernel
theorem dL_1802 : decode code 1802 = .ok (.iadd, 1) := by decide +kernel
theorem dL_1803 : decode code 1803 = .ok (.iaload, 1) := by decide +kernel
theorem dL_1804 : decode code 1804 = .ok (.invokevirtual 180, 3) := by decide +kernel
theorem dL_1807 : decode code 1807 = .ok (.if_icmp .eq 492, 3) := by decide +kernel
theorem dL_1810 : decode code 1810 = .ok (.iconst 0, 1) := by decide +kernel
theorem dL_1811 : decode code 1811 = .ok (.ireturn, 1) := by decide +kernel
theorem dL_1812 : decode code 1812 = .ok (.aload_n 1, 1) := by decide +kernel
theorem dL_1813 : decode code 1813 = .ok (.aload_n 0, 1) := by decide +kernel
theorem dL_1814 : decode code 1814 = .ok (.iload_n 3, 1) := by decide +kernel
theorem dL_1815 : decode code 1815 = .ok (.iconst 1, 1) := by decide +kernel
theorem dL_1816 : decode code 1816 = .ok (.iadd, 1) := by decide +kernel
theorem dL_1817 : decode code 1817 = .ok (.iaload, 1) := by decide +kernel
theorem dL_1818 : decode code 1818 = .ok (.invokevirtual 181, 3) := by decide +kernel
theorem dL_1821 : decode code 1821 = .ok (.aload_n 2, 1) := by decide +kernel
theorem dL_1822 : decode code 1822 = .ok (.aload_n 0, 1) := by decide +kernel
theorem dL_1823 : decode code 1823 = .ok (.iload_n 3, 1) := by decide +kernel
theorem dL_1824 : decode code 1824 = .ok (.iconst 1, 1) := by decide +kernel
theorem dL_1825 : decode code 1825 = .ok (.iadd, 1) := by decide +kernel
theorem dL_1826 : decode code 1826 = .ok (.iaload, 1) := by decide +kernel
theorem dL_1827 : decode code 1827 = .ok (.invokevirtual 184, 3) := by decide +kernel
theorem dL_1830 : decode code 1830 = .ok (.if_icmp .eq 469, 3) := by decide +kernel
theorem dL_1833 : decode code 1833 = .ok (.iconst 0, 1) := by decide +kernel
theorem dL_1834 : decode code 1834 = .ok (.ireturn, 1) := by decide +kernel
theorem dL_1835 : decode code 1835 = .ok (.aload_n 1, 1) := by decide +kernel
theorem dL_1836 : decode code 1836 = .ok (.aload_n 0, 1) := by decide +kernel
theorem dL_1837 : decode code 1837 = .ok (.iload_n 3, 1) := by decide +kernel
theorem dL_1838 : decode code 1838 = .ok (.iconst 1, 1) := by decide +kernel
theorem dL_1839 : decode code 1839 = .ok (.iadd, 1) := by decide +kernel
theorem dL_1840 : decode code 1840 = .ok (.iaload, 1) := by decide +kernel
theorem dL_1841 : decode code 1841 = .ok (.invokevirtual 185, 3) := by decide +kernel
theorem dL_1844 : decode code 1844 = .ok (.aload_n 2, 1) := by decide +kernel
theorem dL_1845 : decode code 1845 = .ok (.aload_n 0, 1) := by decide +kernel
theorem dL_1846 : decode code 1846 = .ok (.iload_n 3, 1) := by decide +kernel
theorem dL_1847 : decode code 1847 = .ok (.iconst 1, 1) := by decide +kernel
theorem dL_1848 : decode code 1848 = .ok (.iadd, 1) := by decide +kernel
theorem dL_1849 : decode code 1849 = .ok (.iaload, 1) := by decide +kernel
theorem dL_1850 : decode code 1850 = .ok (.invokevirtual 188, 3) := by decide +kernel
theorem dL_1853 : decode code 1853 = .ok (.if_icmp .eq 446, 3) := by decide +kernel
theorem dL_1856 : decode code 1856 = .ok (.iconst 0, 1) := by decide +kernel
theorem dL_1857 : decode code 1857 = .ok (.ireturn, 1) := by decide +kernel
theorem dL_1858 : decode code 1858 = .ok (.aload_n 1, 1) := by decide +kernel
theorem dL_1859 : decode code 1859 = .ok (.invokevirtual 189, 3) := by decide +kernel
theorem dL_1862 : decode code 1862 = .ok (.aload_n 2, 1) := by decide +kernel
theorem dL_1863 : decode code 1863 = .ok (.invokevirtual 193, 3) := by decide +kernel
theorem dL_1866 : decode code 1866 = .ok (.if_icmp .eq 433, 3) := by decide +kernel
theorem dL_1869 : decode code 1869 = .ok (.iconst 0, 1) := by decide +kernel
theorem dL_1870 : decode code 1870 = .ok (.ireturn, 1) := by decide +kernel
theorem dL_1871 : decode code 1871 = .ok (.aload_n 1, 1) := by decide +kernel
theorem dL_1872 : decode code 1872 = .ok (.aload_n 0, 1) := by decide +kernel
theorem dL_1873 : decode code 1873 = .ok (.iload_n 3, 1) := by decide +kernel
theorem dL_1874 : decode code 1874 = .ok (.iconst 1, 1) := by decide +kernel
theorem dL_1875 : decode code 1875 = .ok (.iadd, 1) := by decide +kernel
theorem dL_1876 : decode code 1876 = .ok (.iaload, 1) := by decide +kernel
theorem dL_1877 : decode code 1877 = .ok (.aload_n 0, 1) := by decide +kernel
theorem dL_1878 : decode code 1878 = .ok (.iload_n 3, 1) := by decide +kernel
theorem dL_1879 : decode code 1879 = .ok (.iconst 2, 1) := by decide +kernel
theorem dL_1880 : decode code 1880 = .ok (.iadd, 1) := by decide +kernel
theorem dL_1881 : decode code 1881 = .ok (.iaload, 1) := by decide +kernel
theorem dL_1882 : decode code 1882 = .ok (.invokevirtual 194, 3) := by decide +kernel
theorem dL_1885 : decode code 1885 = .ok (.aload_n 2, 1) := by decide +kernel
theorem dL_1886 : decode code 1886 = .ok (.aload_n 0, 1) := by decide +kernel
theorem dL_1887 : decode code 1887 = .ok (.iload_n 3, 1) := by decide +kernel
theorem dL_1888 : decode code 1888 = .ok (.iconst 1, 1) := by decide +kernel
theorem dL_1889 : decode code 1889 = .ok (.iadd, 1) := by decide +kernel
theorem dL_1890 : decode code 1890 = .ok (.iaload, 1) := by decide +kernel
theorem dL_1891 : decode code 1891 = .ok (.aload_n 0, 1) := by decide +kernel
theorem dL_1892 : decode code 1892 = .ok (.iload_n 3, 1) := by decide +kernel
theorem dL_1893 : decode code 1893 = .ok (.iconst 2, 1) := by decide +kernel
theorem dL_1894 : decode code 1894 = .ok (.iadd, 1) := by decide +kernel
theorem dL_1895 : decode code 1895 = .ok (.iaload, 1) := by decide +kernel
theorem dL_1896 : decode code 1896 = .ok (.invokevirtual 197, 3) := by decide +kernel
theorem dL_1899 : decode code 1899 = .ok (.if_icmp .eq 400, 3) := by decide +kernel
theorem dL_1902 : decode code 1902 = .ok (.iconst 0, 1) := by decide +kernel
theorem dL_1903 : decode code 1903 = .ok (.ireturn, 1) := by decide +kernel
theorem dL_1904 : decode code 1904 = .ok (.aload_n 1, 1) := by decide +kernel
theorem dL_1905 : decode code 1905 = .ok (.aload_n 0, 1) := by decide +kernel
theorem dL_1906 : decode code 1906 = .ok (.iload_n 3, 1) := by decide +kernel
theorem dL_1907 : decode code 1907 = .ok (.iconst 1, 1) := by decide +kernel
theorem dL_1908 : decode code 1908 = .ok (.iadd, 1) := by decide +kernel
theorem dL_1909 : decode code 1909 = .ok (.iaload, 1) := by decide +kernel
theorem dL_1910 : decode code 1910 = .ok (.invokevirtual 198, 3) := by decide +kernel
theorem dL_1913 : decode code 1913 = .ok (.aload_n 2, 1) := by decide +kernel
theorem dL_1914 : decode code 1914 = .ok (.aload_n 0, 1) := by decide +kernel
theorem dL_1915 : decode code 1915 = .ok (.iload_n 3, 1) := by decide +kernel
theorem dL_1916 : decode code 1916 = .ok (.iconst 1, 1) := by decide +kernel
theorem dL_1917 : decode code 1917 = .ok (.iadd, 1) := by decide +kernel
theorem dL_1918 : decode code 1918 = .ok (.iaload, 1) := by decide +kernel
theorem dL_1919 : decode code 1919 = .ok (.invokevirtual 201, 3) := by decide +kernel
theorem dL_1922 : decode code 1922 = .ok (.if_icmp .eq 377, 3) := by decide +kernel
theorem dL_1925 : decode code 1925 = .ok (.iconst 0, 1) := by decide +kernel
theorem dL_1926 : decode code 1926 = .ok (.ireturn, 1) := by decide +kernel
theorem dL_1927 : decode code 1927 = .ok (.aload_n 1, 1) := by decide +kernel
theorem dL_1928 : decode code 1928 = .ok (.aload_n 0, 1) := by decide +kernel
theorem dL_1929 : decode code 1929 = .ok (.iload_n 3, 1) := by decide +kernel
theorem dL_1930 : decode code 1930 = .ok (.iconst 1, 1) := by decide +kernel
theorem dL_1931 : decode code 1931 = .ok (.iadd, 1) := by decide +kernel
theorem dL_1932 : decode code 1932 = .ok (.iaload, 1) := by decide +kernel
theorem dL_1933 : decode code 1933 = .ok (.invokevirtual 202, 3) := by decide +kernel
theorem dL_1936 : decode code 1936 = .ok (.aload_n 2, 1) := by decide +kernel
theorem dL_1937 : decode code 1937 = .ok (.aload_n 0, 1) := by decide +kernel
theorem dL_1938 : decode code 1938 = .ok (.iload_n 3, 1) := by decide +kernel
theorem dL_1939 : decode code 1939 = .ok (.iconst 1, 1) := by decide +kernel
theorem dL_1940 : decode code 1940 = .ok (.iadd, 1) := by decide +kernel
theorem dL_1941 : decode code 1941 = .ok (.iaload, 1) := by decide +kernel
theorem dL_1942 : decode code 1942 = .ok (.invokevirtual 205, 3) := by decide +kernel
theorem dL_1945 : decode code 1945 = .ok (.if_icmp .eq 354, 3) := by decide +kernel
theorem dL_1948 : decode code 1948 = .ok (.iconst 0, 1) := by decide +kernel
theorem dL_1949 : decode code 1949 = .ok (.ireturn, 1) := by decide +kernel
theorem dL_1950 : decode code 1950 = .ok (.aload_n 1, 1) := by decide +kernel
theorem dL_1951 : decode code 1951 = .ok (.aload_n 0, 1) := by decide +kernel
theorem dL_1952 : decode code 1952 = .ok (.iload_n 3, 1) := by decide +kernel
theorem dL_1953 : decode code 1953 = .ok (.iconst 1, 1) := by decide +kernel
theorem dL_1954 : decode code 1954 = .ok (.iadd, 1) := by decide +kernel
theorem dL_1955 : decode code 1955 = .ok (.iaload, 1) := by decide +kernel
theorem dL_1956 : decode code 1956 = .ok (.invokevirtual 206, 3) := by decide +kernel
theorem dL_1959 : decode code 1959 = .ok (.aload_n 2, 1) := by decide +kernel
theorem dL_1960 : decode code 1960 = .ok (.aload_n 0, 1) := by decide +kernel
theorem dL_1961 : decode code 1961 = .ok (.iload_n 3, 1) := by decide +kernel
theorem dL_1962 : decode code 1962 = .ok (.iconst 1, 1) := by decide +kernel
theorem dL_1963 : decode code 1963 = .ok (.iadd, 1) := by decide +kernel
theorem dL_1964 : decode code 1964 = .ok (.iaload, 1) := by decide +kernel
theorem dL_1965 : decode code 1965 = .ok (.invokevirtual 209, 3) := by decide +kernel
theorem dL_1968 : decode code 1968 = .ok (.if_icmp .eq 331, 3) := by decide +kernel
theorem dL_1971 : decode code 1971 = .ok (.iconst 0, 1) := by decide +kernel
theorem dL_1972 : decode code 1972 = .ok (.ireturn, 1) := by decide +kernel
theorem dL_1973 : decode code 1973 = .ok (.aload_n 1, 1) := by decide +kernel
theorem dL_1974 : decode code 1974 = .ok (.aload_n 0, 1) := by decide +kernel
theorem dL_1975 : decode code 1975 = .ok (.iload_n 3, 1) := by decide +kernel
theorem dL_1976 : decode code 1976 = .ok (.iconst 1, 1) := by decide +kernel
theorem dL_1977 : decode code 1977 = .ok (.iadd, 1) := by decide +kernel
theorem dL_1978 : decode code 1978 = .ok (.iaload, 1) := by decide +kernel
theorem dL_1979 : decode code 1979 = .ok (.aload_n 0, 1) := by decide +kernel
theorem dL_1980 : decode code 1980 = .ok (.iload_n 3, 1) := by decide +kernel
theorem dL_1981 : decode code 1981 = .ok (.iconst 2, 1) := by decide +kernel
theorem dL_1982 : decode code 1982 = .ok (.iadd, 1) := by decide +kernel
theorem dL_1983 : decode code 1983 = .ok (.iaload, 1) := by decide +kernel
theorem dL_1984 : decode code 1984 = .ok (.invokevirtual 210, 3) := by decide +kernel
theorem dL_1987 : decode code 1987 = .ok (.aload_n 2, 1) := by decide +kernel
theorem dL_1988 : decode code 1988 = .ok (.aload_n 0, 1) := by decide +kernel
theorem dL_1989 : decode code 1989 = .ok (.iload_n 3, 1) := by decide +kernel
theorem dL_1990 : decode code 1990 = .ok (.iconst 1, 1) := by decide +kernel
theorem dL_1991 : decode code 1991 = .ok (.iadd, 1) := by decide +kernel
theorem dL_1992 : decode code 1992 = .ok (.iaload, 1) := by decide +kernel
theorem dL_1993 : decode code 1993 = .ok (.aload_n 0, 1) := by decide +kernel
theorem dL_1994 : decode code 1994 = .ok (.iload_n 3, 1) := by decide +kernel
theorem dL_1995 : decode code 1995 = .ok (.iconst 2, 1) := by decide +kernel
theorem dL_1996 : decode code 1996 = .ok (.iadd, 1) := by decide +kernel
theorem dL_1997 : decode code 1997 = .ok (.iaload, 1) := by decide +kernel
theorem dL_1998 : decode code 1998 = .ok (.invokevirtual 213, 3) := by decide +kernel
theorem dL_2001 : decode code 2001 = .ok (.if_icmp .eq 298, 3) := by decide +kernel
theorem dL_2004 : decode code 2004 = .ok (.iconst 0, 1) := by decide +kernel
theorem dL_2005 : decode code 2005 = .ok (.ireturn, 1) := by decide +kernel
theorem dL_2006 : decode code 2006 = .ok (.aload_n 1, 1) := by decide +kernel
theorem dL_2007 : decode code 2007 = .ok (.aload_n 0, 1) := by decide +kernel
theorem dL_2008 : decode code 2008 = .ok (.iload_n 3, 1) := by decide +kernel
theorem dL_2009 : decode code 2009 = .ok (.iconst 1, 1) := by decide +kernel
theorem dL_2010 : decode code 2010 = .ok (.iadd, 1) := by decide +kernel
theorem dL_2011 : decode code 2011 = .ok (.iaload, 1) := by decide +kernel
theorem dL_2012 : decode code 2012 = .ok (.invokevirtual 214, 3) := by decide +kernel
theorem dL_2015 : decode code 2015 = .ok (.aload_n 2, 1) := by decide +kernel
theorem dL_2016 : decode code 2016 = .ok (.aload_n 0, 1) := by decide +kernel
theorem dL_2017 : decode code 2017 = .ok (.iload_n 3, 1) := by decide +kernel
theorem dL_2018 : decode code 2018 = .ok (.iconst 1, 1) := by decide +kernel
theorem dL_2019 : decode code 2019 = .ok (.iadd, 1) := by decide +kernel
theorem dL_2020 : decode code 2020 = .ok (.iaload, 1) := by decide +kernel
theorem dL_2021 : decode code 2021 = .ok (.invokevirtual 217, 3) := by decide +kernel
theorem dL_2024 : decode code 2024 = .ok (.if_icmp .eq 275, 3) := by decide +kernel
theorem dL_2027 : decode code 2027 = .ok (.iconst 0, 1) := by decide +kernel
theorem dL_2028 : decode code 2028 = .ok (.ireturn, 1) := by decide +kernel
theorem dL_2029 : decode code 2029 = .ok (.aload_n 1, 1) := by decide +kernel
theorem dL_2030 : decode code 2030 = .ok (.aload_n 0, 1) := by decide +kernel
theorem dL_2031 : decode code 2031 = .ok (.iload_n 3, 1) := by decide +kernel
theorem dL_2032 : decode code 2032 = .ok (.iconst 1, 1) := by decide +kernel
theorem dL_2033 : decode code 2033 = .ok (.iadd, 1) := by decide +kernel
theorem dL_2034 : decode code 2034 = .ok (.iaload, 1) := by decide +kernel
theorem dL_2035 : decode code 2035 = .ok (.aload_n 0, 1) := by decide +kernel
theorem dL_2036 : decode code 2036 = .ok (.iload_n 3, 1) := by decide +kernel
theorem dL_2037 : decode code 2037 = .ok (.iconst 2, 1) := by decide +kernel
theorem dL_2038 : decode code 2038 = .ok (.iadd, 1) := by decide +kernel
theorem dL_2039 : decode code 2039 = .ok (.iaload, 1) := by decide +kernel
theorem dL_2040 : decode code 2040 = .ok (.invokevirtual 218, 3) := by decide +kernel
theorem dL_2043 : decode code 2043 = .ok (.aload_n 2, 1) := by decide +kernel
theorem dL_2044 : decode code 2044 = .ok (.aload_n 0, 1) := by decide +kernel
theorem dL_2045 : decode code 2045 = .ok (.iload_n 3, 1) := by decide +kernel
theorem dL_2046 : decode code 2046 = .ok (.iconst 1, 1) := by decide +kernel
theorem dL_2047 : decode code 2047 = .ok (.iadd, 1) := by decide +kernel
theorem dL_2048 : decode code 2048 = .ok (.iaload, 1) := by decide +kernel
theorem dL_2049 : decode code 2049 = .ok (.aload_n 0, 1) := by decide +kernel
theorem dL_2050 : decode code 2050 = .ok (.iload_n 3, 1) := by decide +kernel
theorem dL_2051 : decode code 2051 = .ok (.iconst 2, 1) := by decide +kernel
theorem dL_2052 : decode code 2052 = .ok (.iadd, 1) := by decide +kernel
theorem dL_2053 : decode code 2053 = .ok (.iaload, 1) := by decide +kernel
theorem dL_2054 : decode code 2054 = .ok (.invokevirtual 221, 3) := by decide +kernel
theorem dL_2057 : decode code 2057 = .ok (.if_icmp .eq 242, 3) := by decide +kernel
theorem dL_2060 : decode code 2060 = .ok (.iconst 0, 1) := by decide +kernel
theorem dL_2061 : decode code 2061 = .ok (.ireturn, 1) := by decide +kernel
theorem dL_2062 : decode code 2062 = .ok (.aload_n 1, 1) := by decide +kernel
theorem dL_2063 : decode code 2063 = .ok (.aload_n 0, 1) := by decide +kernel
theorem dL_2064 : decode code 2064 = .ok (.iload_n 3, 1) := by decide +kernel
theorem dL_2065 : decode code 2065 = .ok (.iconst 1, 1) := by decide +kernel
theorem dL_2066 : decode code 2066 = .ok (.iadd, 1) := by decide +kernel
theorem dL_2067 : decode code 2067 = .ok (.iaload, 1) := by decide +kernel
theorem dL_2068 : decode code 2068 = .ok (.aload_n 0, 1) := by decide +kernel
theorem dL_2069 : decode code 2069 = .ok (.iload_n 3, 1) := by decide +kernel
theorem dL_2070 : decode code 2070 = .ok (.iconst 2, 1) := by decide +kernel
theorem dL_2071 : decode code 2071 = .ok (.iadd, 1) := by decide +kernel
theorem dL_2072 : decode code 2072 = .ok (.iaload, 1) := by decide +kernel
theorem dL_2073 : decode code 2073 = .ok (.aload_n 0, 1) := by decide +kernel
theorem dL_2074 : decode code 2074 = .ok (.iload_n 3, 1) := by decide +kernel
theorem dL_2075 : decode code 2075 = .ok (.iconst 3, 1) := by decide +kernel
theorem dL_2076 : decode code 2076 = .ok (.iadd, 1) := by decide +kernel
theorem dL_2077 : decode code 2077 = .ok (.iaload, 1) := by decide +kernel
theorem dL_2078 : decode code 2078 = .ok (.invokevirtual 222, 3) := by decide +kernel
theorem dL_2081 : decode code 2081 = .ok (.aload_n 2, 1) := by decide +kernel
theorem dL_2082 : decode code 2082 = .ok (.aload_n 0, 1) := by decide +kernel
theorem dL_2083 : decode code 2083 = .ok (.iload_n 3, 1) := by decide +kernel
theorem dL_2084 : decode code 2084 = .ok (.iconst 1, 1) := by decide +kernel
theorem dL_2085 : decode code 2085 = .ok (.iadd, 1) := by decide +kernel
theorem dL_2086 : decode code 2086 = .ok (.iaload, 1) := by decide +kernel
theorem dL_2087 : decode code 2087 = .ok (.aload_n 0, 1) := by decide +kernel
theorem dL_2088 : decode code 2088 = .ok (.iload_n 3, 1) := by decide +kernel
theorem dL_2089 : decode code 2089 = .ok (.iconst 2, 1) := by decide +kernel
theorem dL_2090 : decode code 2090 = .ok (.iadd, 1) := by decide +kernel
theorem dL_2091 : decode code 2091 = .ok (.iaload, 1) := by decide +kernel
theorem dL_2092 : decode code 2092 = .ok (.aload_n 0, 1) := by decide +kernel
theorem dL_2093 : decode code 2093 = .ok (.iload_n 3, 1) := by decide +kernel
theorem dL_2094 : decode code 2094 = .ok (.iconst 3, 1) := by decide +kernel
theorem dL_2095 : decode code 2095 = .ok (.iadd, 1) := by decide +kernel
theorem dL_2096 : decode code 2096 = .ok (.iaload, 1) := by decide +kernel
theorem dL_2097 : decode code 2097 = .ok (.invokevirtual 225, 3) := by decide +kernel
theorem dL_2100 : decode code 2100 = .ok (.if_icmp .eq 199, 3) := by decide +kernel
theorem dL_2103 : decode code 2103 = .ok (.iconst 0, 1) := by decide +kernel
theorem dL_2104 : decode code 2104 = .ok (.ireturn, 1) := by decide +kernel
theorem dL_2105 : decode code 2105 = .ok (.aload_n 1, 1) := by decide +kernel
theorem dL_2106 : decode code 2106 = .ok (.aload_n 0, 1) := by decide +kernel
theorem dL_2107 : decode code 2107 = .ok (.iload_n 3, 1) := by decide +kernel
theorem dL_2108 : decode code 2108 = .ok (.iconst 1, 1) := by decide +kernel
theorem dL_2109 : decode code 2109 = .ok (.iadd, 1) := by decide +kernel
theorem dL_2110 : decode code 2110 = .ok (.iaload, 1) := by decide +kernel
theorem dL_2111 : decode code 2111 = .ok (.invokevirtual 226, 3) := by decide +kernel
theorem dL_2114 : decode code 2114 = .ok (.aload_n 2, 1) := by decide +kernel
theorem dL_2115 : decode code 2115 = .ok (.aload_n 0, 1) := by decide +kernel
theorem dL_2116 : decode code 2116 = .ok (.iload_n 3, 1) := by decide +kernel
theorem dL_2117 : decode code 2117 = .ok (.iconst 1, 1) := by decide +kernel
theorem dL_2118 : decode code 2118 = .ok (.iadd, 1) := by decide +kernel
theorem dL_2119 : decode code 2119 = .ok (.iaload, 1) := by decide +kernel
theorem dL_2120 : decode code 2120 = .ok (.invokevirtual 229, 3) := by decide +kernel
theorem dL_2123 : decode code 2123 = .ok (.if_icmp .eq 176, 3) := by decide +kernel
theorem dL_2126 : decode code 2126 = .ok (.iconst 0, 1) := by decide +kernel
theorem dL_2127 : decode code 2127 = .ok (.ireturn, 1) := by decide +kernel
theorem dL_2128 : decode code 2128 = .ok (.aload_n 1, 1) := by decide +kernel
theorem dL_2129 : decode code 2129 = .ok (.aload_n 0, 1) := by decide +kernel
theorem dL_2130 : decode code 2130 = .ok (.iload_n 3, 1) := by decide +kernel
theorem dL_2131 : decode code 2131 = .ok (.iconst 1, 1) := by decide +kernel
theorem dL_2132 : decode code 2132 = .ok (.iadd, 1) := by decide +kernel
theorem dL_2133 : decode code 2133 = .ok (.iaload, 1) := by decide +kernel
theorem dL_2134 : decode code 2134 = .ok (.aload_n 0, 1) := by decide +kernel
theorem dL_2135 : decode code 2135 = .ok (.iload_n 3, 1) := by decide +kernel
theorem dL_2136 : decode code 2136 = .ok (.iconst 2, 1) := by decide +kernel
theorem dL_2137 : decode code 2137 = .ok (.iadd, 1) := by decide +kernel
theorem dL_2138 : decode code 2138 = .ok (.iaload, 1) := by decide +kernel
theorem dL_2139 : decode code 2139 = .ok (.aload_n 0, 1) := by decide +kernel
theorem dL_2140 : decode code 2140 = .ok (.iload_n 3, 1) := by decide +kernel
theorem dL_2141 : decode code 2141 = .ok (.iconst 3, 1) := by decide +kernel
theorem dL_2142 : decode code 2142 = .ok (.iadd, 1) := by decide +kernel
theorem dL_2143 : decode code 2143 = .ok (.iaload, 1) := by decide +kernel
theorem dL_2144 : decode code 2144 = .ok (.aload_n 0, 1) := by decide +kernel
theorem dL_2145 : decode code 2145 = .ok (.iload_n 3, 1) := by decide +kernel
theorem dL_2146 : decode code 2146 = .ok (.iconst 4, 1) := by decide +kernel
theorem dL_2147 : decode code 2147 = .ok (.iadd, 1) := by decide +kernel
theorem dL_2148 : decode code 2148 = .ok (.iaload, 1) := by decide +kernel
theorem dL_2149 : decode code 2149 = .ok (.invokevirtual 230, 3) := by decide +kernel
theorem dL_2152 : decode code 2152 = .ok (.aload_n 2, 1) := by decide +kernel
theorem dL_2153 : decode code 2153 = .ok (.aload_n 0, 1) := by decide +kernel
theorem dL_2154 : decode code 2154 = .ok (.iload_n 3, 1) := by decide +kernel
theorem dL_2155 : decode code 2155 = .ok (.iconst 1, 1) := by decide +kernel
theorem dL_2156 : decode code 2156 = .ok (.iadd, 1) := by decide +kernel
theorem dL_2157 : decode code 2157 = .ok (.iaload, 1) := by decide +kernel
theorem dL_2158 : decode code 2158 = .ok (.aload_n 0, 1) := by decide +kernel
theorem dL_2159 : decode code 2159 = .ok (.iload_n 3, 1) := by decide +kernel
theorem dL_2160 : decode code 2160 = .ok (.iconst 2, 1) := by decide +kernel
theorem dL_2161 : decode code 2161 = .ok (.iadd, 1) := by decide +kernel
theorem dL_2162 : decode code 2162 = .ok (.iaload, 1) := by decide +kernel
theorem dL_2163 : decode code 2163 = .ok (.aload_n 0, 1) := by decide +kernel
theorem dL_2164 : decode code 2164 = .ok (.iload_n 3, 1) := by decide +kernel
theorem dL_2165 : decode code 2165 = .ok (.iconst 3, 1) := by decide +kernel
theorem dL_2166 : decode code 2166 = .ok (.iadd, 1) := by decide +kernel
theorem dL_2167 : decode code 2167 = .ok (.iaload, 1) := by decide +kernel
theorem dL_2168 : decode code 2168 = .ok (.aload_n 0, 1) := by decide +kernel
theorem dL_2169 : decode code 2169 = .ok (.iload_n 3, 1) := by decide +kernel
theorem dL_2170 : decode code 2170 = .ok (.iconst 4, 1) := by decide +kernel
theorem dL_2171 : decode code 2171 = .ok (.iadd, 1) := by decide +kernel
theorem dL_2172 : decode code 2172 = .ok (.iaload, 1) := by decide +kernel
theorem dL_2173 : decode code 2173 = .ok (.invokevirtual 233, 3) := by decide +kernel
theorem dL_2176 : decode code 2176 = .ok (.if_icmp .eq 123, 3) := by decide +kernel
theorem dL_2179 : decode code 2179 = .ok (.iconst 0, 1) := by decide +kernel
theorem dL_2180 : decode code 2180 = .ok (.ireturn, 1) := by decide +kernel
theorem dL_2181 : decode code 2181 = .ok (.aload_n 1, 1) := by decide +kernel
theorem dL_2182 : decode code 2182 = .ok (.invokevirtual 234, 3) := by decide +kernel
theorem dL_2185 : decode code 2185 = .ok (.aload_n 2, 1) := by decide +kernel
theorem dL_2186 : decode code 2186 = .ok (.invokevirtual 237, 3) := by decide +kernel
theorem dL_2189 : decode code 2189 = .ok (.if_icmp .eq 110, 3) := by decide +kernel
theorem dL_2192 : decode code 2192 = .ok (.iconst 0, 1) := by decide +kernel
theorem dL_2193 : decode code 2193 = .ok (.ireturn, 1) := by decide +kernel
theorem dL_2194 : decode code 2194 = .ok (.aload_n 1, 1) := by decide +kernel
theorem dL_2195 : decode code 2195 = .ok (.aload_n 0, 1) := by decide +kernel
theorem dL_2196 : decode code 2196 = .ok (.iload_n 3, 1) := by decide +kernel
theorem dL_2197 : decode code 2197 = .ok (.iconst 1, 1) := by decide +kernel
theorem dL_2198 : decode code 2198 = .ok (.iadd, 1) := by decide +kernel
theorem dL_2199 : decode code 2199 = .ok (.iaload, 1) := by decide +kernel
theorem dL_2200 : decode code 2200 = .ok (.aload_n 0, 1) := by decide +kernel
theorem dL_2201 : decode code 2201 = .ok (.iload_n 3, 1) := by decide +kernel
theorem dL_2202 : decode code 2202 = .ok (.iconst 2, 1) := by decide +kernel
theorem dL_2203 : decode code 2203 = .ok (.iadd, 1) := by decide +kernel
theorem dL_2204 : decode code 2204 = .ok (.iaload, 1) := by decide +kernel
theorem dL_2205 : decode code 2205 = .ok (.invokevirtual 238, 3) := by decide +kernel
theorem dL_2208 : decode code 2208 = .ok (.aload_n 2, 1) := by decide +kernel
theorem dL_2209 : decode code 2209 = .ok (.aload_n 0, 1) := by decide +kernel
theorem dL_2210 : decode code 2210 = .ok (.iload_n 3, 1) := by decide +kernel
theorem dL_2211 : decode code 2211 = .ok (.iconst 1, 1) := by decide +kernel
theorem dL_2212 : decode code 2212 = .ok (.iadd, 1) := by decide +kernel
theorem dL_2213 : decode code 2213 = .ok (.iaload, 1) := by decide +kernel
theorem dL_2214 : decode code 2214 = .ok (.aload_n 0, 1) := by decide +kernel
theorem dL_2215 : decode code 2215 = .ok (.iload_n 3, 1) := by decide +kernel
theorem dL_2216 : decode code 2216 = .ok (.iconst 2, 1) := by decide +kernel
theorem dL_2217 : decode code 2217 = .ok (.iadd, 1) := by decide +kernel
theorem dL_2218 : decode code 2218 = .ok (.iaload, 1) := by decide +kernel
theorem dL_2219 : decode code 2219 = .ok (.invokevirtual 241, 3) := by decide +kernel
theorem dL_2222 : decode code 2222 = .ok (.if_icmp .eq 77, 3) := by decide +kernel
theorem dL_2225 : decode code 2225 = .ok (.iconst 0, 1) := by decide +kernel
theorem dL_2226 : decode code 2226 = .ok (.ireturn, 1) := by decide +kernel
theorem dL_2227 : decode code 2227 = .ok (.aload_n 1, 1) := by decide +kernel
theorem dL_2228 : decode code 2228 = .ok (.invokevirtual 242, 3) := by decide +kernel
theorem dL_2231 : decode code 2231 = .ok (.aload_n 2, 1) := by decide +kernel
theorem dL_2232 : decode code 2232 = .ok (.invokevirtual 245, 3) := by decide +kernel
theorem dL_2235 : decode code 2235 = .ok (.if_icmp .eq 64, 3) := by decide +kernel
theorem dL_2238 : decode code 2238 = .ok (.iconst 0, 1) := by decide +kernel
theorem dL_2239 : decode code 2239 = .ok (.ireturn, 1) := by decide +kernel
theorem dL_2240 : decode code 2240 = .ok (.aload_n 1, 1) := by decide +kernel
theorem dL_2241 : decode code 2241 = .ok (.invokevirtual 246, 3) := by decide +kernel
theorem dL_2244 : decode code 2244 = .ok (.aload_n 2, 1) := by decide +kernel
theorem dL_2245 : decode code 2245 = .ok (.invokevirtual 249, 3) := by decide +kernel
theorem dL_2248 : decode code 2248 = .ok (.if_icmp .eq 51, 3) := by decide +kernel
theorem dL_2251 : decode code 2251 = .ok (.iconst 0, 1) := by decide +kernel
theorem dL_2252 : decode code 2252 = .ok (.ireturn, 1) := by decide +kernel
theorem dL_2253 : decode code 2253 = .ok (.aload_n 1, 1) := by decide +kernel
theorem dL_2254 : decode code 2254 = .ok (.aload_n 0, 1) := by decide +kernel
theorem dL_2255 : decode code 2255 = .ok (.iload_n 3, 1) := by decide +kernel
theorem dL_2256 : decode code 2256 = .ok (.iconst 1, 1) := by decide +kernel
theorem dL_2257 : decode code 2257 = .ok (.iadd, 1) := by decide +kernel
theorem dL_2258 : decode code 2258 = .ok (.iaload, 1) := by decide +kernel
theorem dL_2259 : decode code 2259 = .ok (.invokevirtual 250, 3) := by decide +kernel
theorem dL_2262 : decode code 2262 = .ok (.aload_n 2, 1) := by decide +kernel
theorem dL_2263 : decode code 2263 = .ok (.aload_n 0, 1) := by decide +kernel
theorem dL_2264 : decode code 2264 = .ok (.iload_n 3, 1) := by decide +kernel
theorem dL_2265 : decode code 2265 = .ok (.iconst 1, 1) := by decide +kernel
theorem dL_2266 : decode code 2266 = .ok (.iadd, 1) := by decide +kernel
theorem dL_2267 : decode code 2267 = .ok (.iaload, 1) := by decide +kernel
theorem dL_2268 : decode code 2268 = .ok (.invokevirtual 253, 3) := by decide +kernel
theorem dL_2271 : decode code 2271 = .ok (.if_icmp .eq 28, 3) := by decide +kernel
theorem dL_2274 : decode code 2274 = .ok (.iconst 0, 1) := by decide +kernel
theorem dL_2275 : decode code 2275 = .ok (.ireturn, 1) := by decide +kernel
theorem dL_2276 : decode code 2276 = .ok (.aload_n 1, 1) := by decide +kernel
theorem dL_2277 : decode code 2277 = .ok (.aload_n 0, 1) := by decide +kernel
theorem dL_2278 : decode code 2278 = .ok (.iload_n 3, 1) := by decide +kernel
theorem dL_2279 : decode code 2279 = .ok (.iconst 1, 1) := by decide +kernel
theorem dL_2280 : decode code 2280 = .ok (.iadd, 1) := by decide +kernel
theorem dL_2281 : decode code 2281 = .ok (.iaload, 1) := by decide +kernel
theorem dL_2282 : decode code 2282 = .ok (.invokevirtual 254, 3) := by decide +kernel
theorem dL_2285 : decode code 2285 = .ok (.aload_n 2, 1) := by decide +kernel
theorem dL_2286 : decode code 2286 = .ok (.aload_n 0, 1) := by decide +kernel
theorem dL_2287 : decode code 2287 = .ok (.iload_n 3, 1) := by decide +kernel
theorem dL_2288 : decode code 2288 = .ok (.iconst 1, 1) := by decide +kernel
theorem dL_2289 : decode code 2289 = .ok (.iadd, 1) := by decide +kernel
theorem dL_2290 : decode code 2290 = .ok (.iaload, 1) := by decide +kernel
theorem dL_2291 : decode code 2291 = .ok (.invokevirtual 257, 3) := by decide +kernel
theorem dL_2294 : decode code 2294 = .ok (.if_icmp .eq 5, 3) := by decide +kernel
theorem dL_2297 : decode code 2297 = .ok (.iconst 0, 1) := by decide +kernel
theorem dL_2298 : decode code 2298 = .ok (.ireturn, 1) := by decide +kernel
theorem dL_2299 : decode code 2299 = .ok (.iinc 3 7, 3) := by decide +kernel
theorem dL_2302 : decode code 2302 = .ok (.goto (-2284), 3) := by decide +kernel
theorem dL_2305 : decode code 2305 = .ok (.iconst 1, 1) := by decide +kernel
theorem dL_2306 : decode code 2306 = .ok (.ireturn, 1) := by decide +kernel
