theorem dL_law_1859 : decode cL_law 1859 = .ok (.iload 6, 2) := by decide +kernel
theorem dL_law_1861 : decode cL_law 1861 = .ok (.ifCond .ne 15, 3) := by decide +kernel
theorem dL_law_1864 : decode cL_law 1864 = .ok (.aload_n 3, 1) := by decide +kernel
theorem dL_law_1865 : decode cL_law 1865 = .ok (.iconst 0, 1) := by decide +kernel
theorem dL_law_1866 : decode cL_law 1866 = .ok (.laload, 1) := by decide +kernel
theorem dL_law_1867 : decode cL_law 1867 = .ok (.iload 7, 2) := by decide +kernel
theorem dL_law_1869 : decode cL_law 1869 = .ok (.i2l, 1) := by decide +kernel
theorem dL_law_1870 : decode cL_law 1870 = .ok (.lcmp, 1) := by decide +kernel
theorem dL_law_1871 : decode cL_law 1871 = .ok (.ifCond .eq 5, 3) := by decide +kernel
theorem dL_law_1874 : decode cL_law 1874 = .ok (.iconst 0, 1) := by decide +kernel
theorem dL_law_1875 : decode cL_law 1875 = .ok (.ireturn, 1) := by decide +kernel
theorem dL_law_1876 : decode cL_law 1876 = .ok (.goto 1680, 3) := by decide +kernel
theorem dL_law_1879 : decode cL_law 1879 = .ok (.aload_n 1, 1) := by decide +kernel
theorem dL_law_1880 : decode cL_law 1880 = .ok (.aload_n 0, 1) := by decide +kernel
theorem dL_law_1881 : decode cL_law 1881 = .ok (.iload 5, 2) := by decide +kernel
theorem dL_law_1883 : decode cL_law 1883 = .ok (.iconst 1, 1) := by decide +kernel
theorem dL_law_1884 : decode cL_law 1884 = .ok (.iadd, 1) := by decide +kernel
theorem dL_law_1885 : decode cL_law 1885 = .ok (.iaload, 1) := by decide +kernel
theorem dL_law_1886 : decode cL_law 1886 = .ok (.aload_n 3, 1) := by decide +kernel
theorem dL_law_1887 : decode cL_law 1887 = .ok (.invokestatic 276, 3) := by decide +kernel
theorem dL_law_1890 : decode cL_law 1890 = .ok (.istore 6, 2) := by decide +kernel
theorem dL_law_1892 : decode cL_law 1892 = .ok (.aload_n 2, 1) := by decide +kernel
theorem dL_law_1893 : decode cL_law 1893 = .ok (.aload_n 0, 1) := by decide +kernel
theorem dL_law_1894 : decode cL_law 1894 = .ok (.iload 5, 2) := by decide +kernel
theorem dL_law_1896 : decode cL_law 1896 = .ok (.iconst 1, 1) := by decide +kernel
theorem dL_law_1897 : decode cL_law 1897 = .ok (.iadd, 1) := by decide +kernel
theorem dL_law_1898 : decode cL_law 1898 = .ok (.iaload, 1) := by decide +kernel
theorem dL_law_1899 : decode cL_law 1899 = .ok (.invokevirtual 278, 3) := by decide +kernel
theorem dL_law_1902 : decode cL_law 1902 = .ok (.lstore 7, 2) := by decide +kernel
theorem dL_law_1904 : decode cL_law 1904 = .ok (.aload_n 2, 1) := by decide +kernel
theorem dL_law_1905 : decode cL_law 1905 = .ok (.invokevirtual 195, 3) := by decide +kernel
theorem dL_law_1908 : decode cL_law 1908 = .ok (.iload 6, 2) := by decide +kernel
theorem dL_law_1910 : decode cL_law 1910 = .ok (.if_icmp .eq 5, 3) := by decide +kernel
theorem dL_law_1913 : decode cL_law 1913 = .ok (.iconst 0, 1) := by decide +kernel
theorem dL_law_1914 : decode cL_law 1914 = .ok (.ireturn, 1) := by decide +kernel
theorem dL_law_1915 : decode cL_law 1915 = .ok (.iload 6, 2) := by decide +kernel
theorem dL_law_1917 : decode cL_law 1917 = .ok (.ifCond .ne 14, 3) := by decide +kernel
theorem dL_law_1920 : decode cL_law 1920 = .ok (.aload_n 3, 1) := by decide +kernel
theorem dL_law_1921 : decode cL_law 1921 = .ok (.iconst 0, 1) := by decide +kernel
theorem dL_law_1922 : decode cL_law 1922 = .ok (.laload, 1) := by decide +kernel
theorem dL_law_1923 : decode cL_law 1923 = .ok (.lload 7, 2) := by decide +kernel
theorem dL_law_1925 : decode cL_law 1925 = .ok (.lcmp, 1) := by decide +kernel
theorem dL_law_1926 : decode cL_law 1926 = .ok (.ifCond .eq 5, 3) := by decide +kernel
theorem dL_law_1929 : decode cL_law 1929 = .ok (.iconst 0, 1) := by decide +kernel
theorem dL_law_1930 : decode cL_law 1930 = .ok (.ireturn, 1) := by decide +kernel
theorem dL_law_1931 : decode cL_law 1931 = .ok (.goto 1625, 3) := by decide +kernel
theorem dL_law_1934 : decode cL_law 1934 = .ok (.aload_n 1, 1) := by decide +kernel
theorem dL_law_1935 : decode cL_law 1935 = .ok (.aload_n 0, 1) := by decide +kernel
theorem dL_law_1936 : decode cL_law 1936 = .ok (.iload 5, 2) := by decide +kernel
theorem dL_law_1938 : decode cL_law 1938 = .ok (.iconst 1, 1) := by decide +kernel
theorem dL_law_1939 : decode cL_law 1939 = .ok (.iadd, 1) := by decide +kernel
theorem dL_law_1940 : decode cL_law 1940 = .ok (.iaload, 1) := by decide +kernel
theorem dL_law_1941 : decode cL_law 1941 = .ok (.aload_n 0, 1) := by decide +kernel
theorem dL_law_1942 : decode cL_law 1942 = .ok (.iload 5, 2) := by decide +kernel
theorem dL_law_1944 : decode cL_law 1944 = .ok (.iconst 2, 1) := by decide +kernel
theorem dL_law_1945 : decode cL_law 1945 = .ok (.iadd, 1) := by decide +kernel
theorem dL_law_1946 : decode cL_law 1946 = .ok (.iaload, 1) := by decide +kernel
theorem dL_law_1947 : decode cL_law 1947 = .ok (.aload_n 3, 1) := by decide +kernel
theorem dL_law_1948 : decode cL_law 1948 = .ok (.invokestatic 279, 3) := by decide +kernel
theorem dL_law_1951 : decode cL_law 1951 = .ok (.istore 6, 2) := by decide +kernel
theorem dL_law_1953 : decode cL_law 1953 = .ok (.aload_n 2, 1) := by decide +kernel
theorem dL_law_1954 : decode cL_law 1954 = .ok (.aload_n 0, 1) := by decide +kernel
theorem dL_law_1955 : decode cL_law 1955 = .ok (.iload 5, 2) := by decide +kernel
theorem dL_law_1957 : decode cL_law 1957 = .ok (.iconst 1, 1) := by decide +kernel
theorem dL_law_1958 : decode cL_law 1958 = .ok (.iadd, 1) := by decide +kernel
theorem dL_law_1959 : decode cL_law 1959 = .ok (.iaload, 1) := by decide +kernel
theorem dL_law_1960 : decode cL_law 1960 = .ok (.aload_n 0, 1) := by decide +kernel
theorem dL_law_1961 : decode cL_law 1961 = .ok (.iload 5, 2) := by decide +kernel
theorem dL_law_1963 : decode cL_law 1963 = .ok (.iconst 2, 1) := by decide +kernel
theorem dL_law_1964 : decode cL_law 1964 = .ok (.iadd, 1) := by decide +kernel
theorem dL_law_1965 : decode cL_law 1965 = .ok (.iaload, 1) := by decide +kernel
theorem dL_law_1966 : decode cL_law 1966 = .ok (.invokevirtual 281, 3) := by decide +kernel
theorem dL_law_1969 : decode cL_law 1969 = .ok (.istore 7, 2) := by decide +kernel
theorem dL_law_1971 : decode cL_law 1971 = .ok (.aload_n 2, 1) := by decide +kernel
theorem dL_law_1972 : decode cL_law 1972 = .ok (.invokevirtual 195, 3) := by decide +kernel
theorem dL_law_1975 : decode cL_law 1975 = .ok (.iload 6, 2) := by decide +kernel
theorem dL_law_1977 : decode cL_law 1977 = .ok (.if_icmp .eq 5, 3) := by decide +kernel
theorem dL_law_1980 : decode cL_law 1980 = .ok (.iconst 0, 1) := by decide +kernel
theorem dL_law_1981 : decode cL_law 1981 = .ok (.ireturn, 1) := by decide +kernel
theorem dL_law_1982 : decode cL_law 1982 = .ok (.iload 6, 2) := by decide +kernel
theorem dL_law_1984 : decode cL_law 1984 = .ok (.ifCond .ne 15, 3) := by decide +kernel
theorem dL_law_1987 : decode cL_law 1987 = .ok (.aload_n 3, 1) := by decide +kernel
theorem dL_law_1988 : decode cL_law 1988 = .ok (.iconst 0, 1) := by decide +kernel
theorem dL_law_1989 : decode cL_law 1989 = .ok (.laload, 1) := by decide +kernel
theorem dL_law_1990 : decode cL_law 1990 = .ok (.iload 7, 2) := by decide +kernel
theorem dL_law_1992 : decode cL_law 1992 = .ok (.i2l, 1) := by decide +kernel
theorem dL_law_1993 : decode cL_law 1993 = .ok (.lcmp, 1) := by decide +kernel
theorem dL_law_1994 : decode cL_law 1994 = .ok (.ifCond .eq 5, 3) := by decide +kernel
theorem dL_law_1997 : decode cL_law 1997 = .ok (.iconst 0, 1) := by decide +kernel
theorem dL_law_1998 : decode cL_law 1998 = .ok (.ireturn, 1) := by decide +kernel
theorem dL_law_1999 : decode cL_law 1999 = .ok (.goto 1557, 3) := by decide +kernel
theorem dL_law_2002 : decode cL_law 2002 = .ok (.aload_n 1, 1) := by decide +kernel
theorem dL_law_2003 : decode cL_law 2003 = .ok (.aload_n 0, 1) := by decide +kernel
theorem dL_law_2004 : decode cL_law 2004 = .ok (.iload 5, 2) := by decide +kernel
theorem dL_law_2006 : decode cL_law 2006 = .ok (.iconst 1, 1) := by decide +kernel
theorem dL_law_2007 : decode cL_law 2007 = .ok (.iadd, 1) := by decide +kernel
theorem dL_law_2008 : decode cL_law 2008 = .ok (.iaload, 1) := by decide +kernel
theorem dL_law_2009 : decode cL_law 2009 = .ok (.aload_n 3, 1) := by decide +kernel
theorem dL_law_2010 : decode cL_law 2010 = .ok (.invokestatic 282, 3) := by decide +kernel
theorem dL_law_2013 : decode cL_law 2013 = .ok (.istore 6, 2) := by decide +kernel
theorem dL_law_2015 : decode cL_law 2015 = .ok (.aload_n 2, 1) := by decide +kernel
theorem dL_law_2016 : decode cL_law 2016 = .ok (.aload_n 0, 1) := by decide +kernel
theorem dL_law_2017 : decode cL_law 2017 = .ok (.iload 5, 2) := by decide +kernel
theorem dL_law_2019 : decode cL_law 2019 = .ok (.iconst 1, 1) := by decide +kernel
theorem dL_law_2020 : decode cL_law 2020 = .ok (.iadd, 1) := by decide +kernel
theorem dL_law_2021 : decode cL_law 2021 = .ok (.iaload, 1) := by decide +kernel
theorem dL_law_2022 : decode cL_law 2022 = .ok (.invokevirtual 284, 3) := by decide +kernel
theorem dL_law_2025 : decode cL_law 2025 = .ok (.istore 7, 2) := by decide +kernel
theorem dL_law_2027 : decode cL_law 2027 = .ok (.aload_n 2, 1) := by decide +kernel
theorem dL_law_2028 : decode cL_law 2028 = .ok (.invokevirtual 195, 3) := by decide +kernel
theorem dL_law_2031 : decode cL_law 2031 = .ok (.iload 6, 2) := by decide +kernel
theorem dL_law_2033 : decode cL_law 2033 = .ok (.if_icmp .eq 5, 3) := by decide +kernel
theorem dL_law_2036 : decode cL_law 2036 = .ok (.iconst 0, 1) := by decide +kernel
theorem dL_law_2037 : decode cL_law 2037 = .ok (.ireturn, 1) := by decide +kernel
theorem dL_law_2038 : decode cL_law 2038 = .ok (.iload 6, 2) := by decide +kernel
theorem dL_law_2040 : decode cL_law 2040 = .ok (.ifCond .ne 15, 3) := by decide +kernel
theorem dL_law_2043 : decode cL_law 2043 = .ok (.aload_n 3, 1) := by decide +kernel
theorem dL_law_2044 : decode cL_law 2044 = .ok (.iconst 0, 1) := by decide +kernel
theorem dL_law_2045 : decode cL_law 2045 = .ok (.laload, 1) := by decide +kernel
theorem dL_law_2046 : decode cL_law 2046 = .ok (.iload 7, 2) := by decide +kernel
theorem dL_law_2048 : decode cL_law 2048 = .ok (.i2l, 1) := by decide +kernel
theorem dL_law_2049 : decode cL_law 2049 = .ok (.lcmp, 1) := by decide +kernel
theorem dL_law_2050 : decode cL_law 2050 = .ok (.ifCond .eq 5, 3) := by decide +kernel
theorem dL_law_2053 : decode cL_law 2053 = .ok (.iconst 0, 1) := by decide +kernel
theorem dL_law_2054 : decode cL_law 2054 = .ok (.ireturn, 1) := by decide +kernel
theorem dL_law_2055 : decode cL_law 2055 = .ok (.goto 1501, 3) := by decide +kernel
theorem dL_law_2058 : decode cL_law 2058 = .ok (.aload_n 1, 1) := by decide +kernel
theorem dL_law_2059 : decode cL_law 2059 = .ok (.aload_n 0, 1) := by decide +kernel
theorem dL_law_2060 : decode cL_law 2060 = .ok (.iload 5, 2) := by decide +kernel
theorem dL_law_2062 : decode cL_law 2062 = .ok (.iconst 1, 1) := by decide +kernel
theorem dL_law_2063 : decode cL_law 2063 = .ok (.iadd, 1) := by decide +kernel
theorem dL_law_2064 : decode cL_law 2064 = .ok (.iaload, 1) := by decide +kernel
theorem dL_law_2065 : decode cL_law 2065 = .ok (.aload_n 3, 1) := by decide +kernel
theorem dL_law_2066 : decode cL_law 2066 = .ok (.invokestatic 285, 3) := by decide +kernel
theorem dL_law_2069 : decode cL_law 2069 = .ok (.istore 6, 2) := by decide +kernel
theorem dL_law_2071 : decode cL_law 2071 = .ok (.aload_n 2, 1) := by decide +kernel
theorem dL_law_2072 : decode cL_law 2072 = .ok (.aload_n 0, 1) := by decide +kernel
theorem dL_law_2073 : decode cL_law 2073 = .ok (.iload 5, 2) := by decide +kernel
theorem dL_law_2075 : decode cL_law 2075 = .ok (.iconst 1, 1) := by decide +kernel
theorem dL_law_2076 : decode cL_law 2076 = .ok (.iadd, 1) := by decide +kernel
theorem dL_law_2077 : decode cL_law 2077 = .ok (.iaload, 1) := by decide +kernel
theorem dL_law_2078 : decode cL_law 2078 = .ok (.invokevirtual 287, 3) := by decide +kernel
theorem dL_law_2081 : decode cL_law 2081 = .ok (.istore 7, 2) := by decide +kernel
theorem dL_law_2083 : decode cL_law 2083 = .ok (.aload_n 2, 1) := by decide +kernel
theorem dL_law_2084 : decode cL_law 2084 = .ok (.invokevirtual 195, 3) := by decide +kernel
theorem dL_law_2087 : decode cL_law 2087 = .ok (.iload 6, 2) := by decide +kernel
theorem dL_law_2089 : decode cL_law 2089 = .ok (.if_icmp .eq 5, 3) := by decide +kernel
theorem dL_law_2092 : decode cL_law 2092 = .ok (.iconst 0, 1) := by decide +kernel
theorem dL_law_2093 : decode cL_law 2093 = .ok (.ireturn, 1) := by decide +kernel
theorem dL_law_2094 : decode cL_law 2094 = .ok (.iload 6, 2) := by decide +kernel
theorem dL_law_2096 : decode cL_law 2096 = .ok (.ifCond .ne 15, 3) := by decide +kernel
theorem dL_law_2099 : decode cL_law 2099 = .ok (.aload_n 3, 1) := by decide +kernel
theorem dL_law_2100 : decode cL_law 2100 = .ok (.iconst 0, 1) := by decide +kernel
theorem dL_law_2101 : decode cL_law 2101 = .ok (.laload, 1) := by decide +kernel
theorem dL_law_2102 : decode cL_law 2102 = .ok (.iload 7, 2) := by decide +kernel
theorem dL_law_2104 : decode cL_law 2104 = .ok (.i2l, 1) := by decide +kernel
theorem dL_law_2105 : decode cL_law 2105 = .ok (.lcmp, 1) := by decide +kernel
theorem dL_law_2106 : decode cL_law 2106 = .ok (.ifCond .eq 5, 3) := by decide +kernel
theorem dL_law_2109 : decode cL_law 2109 = .ok (.iconst 0, 1) := by decide +kernel
theorem dL_law_2110 : decode cL_law 2110 = .ok (.ireturn, 1) := by decide +kernel
theorem dL_law_2111 : decode cL_law 2111 = .ok (.goto 1445, 3) := by decide +kernel
theorem dL_law_2114 : decode cL_law 2114 = .ok (.aload_n 1, 1) := by decide +kernel
theorem dL_law_2115 : decode cL_law 2115 = .ok (.aload_n 0, 1) := by decide +kernel
theorem dL_law_2116 : decode cL_law 2116 = .ok (.iload 5, 2) := by decide +kernel
theorem dL_law_2118 : decode cL_law 2118 = .ok (.iconst 1, 1) := by decide +kernel
theorem dL_law_2119 : decode cL_law 2119 = .ok (.iadd, 1) := by decide +kernel
theorem dL_law_2120 : decode cL_law 2120 = .ok (.iaload, 1) := by decide +kernel
theorem dL_law_2121 : decode cL_law 2121 = .ok (.aload_n 3, 1) := by decide +kernel
theorem dL_law_2122 : decode cL_law 2122 = .ok (.invokestatic 288, 3) := by decide +kernel
theorem dL_law_2125 : decode cL_law 2125 = .ok (.istore 6, 2) := by decide +kernel
theorem dL_law_2127 : decode cL_law 2127 = .ok (.aload_n 2, 1) := by decide +kernel
theorem dL_law_2128 : decode cL_law 2128 = .ok (.aload_n 0, 1) := by decide +kernel
theorem dL_law_2129 : decode cL_law 2129 = .ok (.iload 5, 2) := by decide +kernel
theorem dL_law_2131 : decode cL_law 2131 = .ok (.iconst 1, 1) := by decide +kernel
theorem dL_law_2132 : decode cL_law 2132 = .ok (.iadd, 1) := by decide +kernel
theorem dL_law_2133 : decode cL_law 2133 = .ok (.iaload, 1) := by decide +kernel
theorem dL_law_2134 : decode cL_law 2134 = .ok (.invokevirtual 290, 3) := by decide +kernel
theorem dL_law_2137 : decode cL_law 2137 = .ok (.istore 7, 2) := by decide +kernel
theorem dL_law_2139 : decode cL_law 2139 = .ok (.aload_n 2, 1) := by decide +kernel
theorem dL_law_2140 : decode cL_law 2140 = .ok (.invokevirtual 195, 3) := by decide +kernel
theorem dL_law_2143 : decode cL_law 2143 = .ok (.iload 6, 2) := by decide +kernel
theorem dL_law_2145 : decode cL_law 2145 = .ok (.if_icmp .eq 5, 3) := by decide +kernel
theorem dL_law_2148 : decode cL_law 2148 = .ok (.iconst 0, 1) := by decide +kernel
theorem dL_law_2149 : decode cL_law 2149 = .ok (.ireturn, 1) := by decide +kernel
theorem dL_law_2150 : decode cL_law 2150 = .ok (.iload 6, 2) := by decide +kernel
theorem dL_law_2152 : decode cL_law 2152 = .ok (.ifCond .ne 15, 3) := by decide +kernel
theorem dL_law_2155 : decode cL_law 2155 = .ok (.aload_n 3, 1) := by decide +kernel
theorem dL_law_2156 : decode cL_law 2156 = .ok (.iconst 0, 1) := by decide +kernel
theorem dL_law_2157 : decode cL_law 2157 = .ok (.laload, 1) := by decide +kernel
theorem dL_law_2158 : decode cL_law 2158 = .ok (.iload 7, 2) := by decide +kernel
theorem dL_law_2160 : decode cL_law 2160 = .ok (.i2l, 1) := by decide +kernel
theorem dL_law_2161 : decode cL_law 2161 = .ok (.lcmp, 1) := by decide +kernel
theorem dL_law_2162 : decode cL_law 2162 = .ok (.ifCond .eq 5, 3) := by decide +kernel
theorem dL_law_2165 : decode cL_law 2165 = .ok (.iconst 0, 1) := by decide +kernel
theorem dL_law_2166 : decode cL_law 2166 = .ok (.ireturn, 1) := by decide +kernel
theorem dL_law_2167 : decode cL_law 2167 = .ok (.goto 1389, 3) := by decide +kernel
theorem dL_law_2170 : decode cL_law 2170 = .ok (.aload_n 1, 1) := by decide +kernel
theorem dL_law_2171 : decode cL_law 2171 = .ok (.aload_n 0, 1) := by decide +kernel
theorem dL_law_2172 : decode cL_law 2172 = .ok (.iload 5, 2) := by decide +kernel
theorem dL_law_2174 : decode cL_law 2174 = .ok (.iconst 1, 1) := by decide +kernel
theorem dL_law_2175 : decode cL_law 2175 = .ok (.iadd, 1) := by decide +kernel
theorem dL_law_2176 : decode cL_law 2176 = .ok (.iaload, 1) := by decide +kernel
theorem dL_law_2177 : decode cL_law 2177 = .ok (.aload_n 3, 1) := by decide +kernel
theorem dL_law_2178 : decode cL_law 2178 = .ok (.invokestatic 291, 3) := by decide +kernel
theorem dL_law_2181 : decode cL_law 2181 = .ok (.istore 6, 2) := by decide +kernel
theorem dL_law_2183 : decode cL_law 2183 = .ok (.aload_n 2, 1) := by decide +kernel
theorem dL_law_2184 : decode cL_law 2184 = .ok (.aload_n 0, 1) := by decide +kernel
theorem dL_law_2185 : decode cL_law 2185 = .ok (.iload 5, 2) := by decide +kernel
theorem dL_law_2187 : decode cL_law 2187 = .ok (.iconst 1, 1) := by decide +kernel
theorem dL_law_2188 : decode cL_law 2188 = .ok (.iadd, 1) := by decide +kernel
theorem dL_law_2189 : decode cL_law 2189 = .ok (.iaload, 1) := by decide +kernel
theorem dL_law_2190 : decode cL_law 2190 = .ok (.invokevirtual 293, 3) := by decide +kernel
theorem dL_law_2193 : decode cL_law 2193 = .ok (.istore 7, 2) := by decide +kernel
theorem dL_law_2195 : decode cL_law 2195 = .ok (.aload_n 2, 1) := by decide +kernel
theorem dL_law_2196 : decode cL_law 2196 = .ok (.invokevirtual 195, 3) := by decide +kernel
theorem dL_law_2199 : decode cL_law 2199 = .ok (.iload 6, 2) := by decide +kernel
theorem dL_law_2201 : decode cL_law 2201 = .ok (.if_icmp .eq 5, 3) := by decide +kernel
theorem dL_law_2204 : decode cL_law 2204 = .ok (.iconst 0, 1) := by decide +kernel
theorem dL_law_2205 : decode cL_law 2205 = .ok (.ireturn, 1) := by decide +kernel
theorem dL_law_2206 : decode cL_law 2206 = .ok (.iload 6, 2) := by decide +kernel
theorem dL_law_2208 : decode cL_law 2208 = .ok (.ifCond .ne 15, 3) := by decide +kernel
theorem dL_law_2211 : decode cL_law 2211 = .ok (.aload_n 3, 1) := by decide +kernel
theorem dL_law_2212 : decode cL_law 2212 = .ok (.iconst 0, 1) := by decide +kernel
theorem dL_law_2213 : decode cL_law 2213 = .ok (.laload, 1) := by decide +kernel
theorem dL_law_2214 : decode cL_law 2214 = .ok (.iload 7, 2) := by decide +kernel
theorem dL_law_2216 : decode cL_law 2216 = .ok (.i2l, 1) := by decide +kernel
theorem dL_law_2217 : decode cL_law 2217 = .ok (.lcmp, 1) := by decide +kernel
theorem dL_law_2218 : decode cL_law 2218 = .ok (.ifCond .eq 5, 3) := by decide +kernel
theorem dL_law_2221 : decode cL_law 2221 = .ok (.iconst 0, 1) := by decide +kernel
theorem dL_law_2222 : decode cL_law 2222 = .ok (.ireturn, 1) := by decide +kernel
theorem dL_law_2223 : decode cL_law 2223 = .ok (.goto 1333, 3) := by decide +kernel
theorem dL_law_2226 : decode cL_law 2226 = .ok (.aload_n 1, 1) := by decide +kernel
theorem dL_law_2227 : decode cL_law 2227 = .ok (.aload_n 0, 1) := by decide +kernel
theorem dL_law_2228 : decode cL_law 2228 = .ok (.iload 5, 2) := by decide +kernel
theorem dL_law_2230 : decode cL_law 2230 = .ok (.iconst 1, 1) := by decide +kernel
theorem dL_law_2231 : decode cL_law 2231 = .ok (.iadd, 1) := by decide +kernel
theorem dL_law_2232 : decode cL_law 2232 = .ok (.iaload, 1) := by decide +kernel
theorem dL_law_2233 : decode cL_law 2233 = .ok (.aload_n 3, 1) := by decide +kernel
theorem dL_law_2234 : decode cL_law 2234 = .ok (.invokestatic 294, 3) := by decide +kernel
theorem dL_law_2237 : decode cL_law 2237 = .ok (.istore 6, 2) := by decide +kernel
theorem dL_law_2239 : decode cL_law 2239 = .ok (.aload_n 2, 1) := by decide +kernel
theorem dL_law_2240 : decode cL_law 2240 = .ok (.aload_n 0, 1) := by decide +kernel
theorem dL_law_2241 : decode cL_law 2241 = .ok (.iload 5, 2) := by decide +kernel
theorem dL_law_2243 : decode cL_law 2243 = .ok (.iconst 1, 1) := by decide +kernel
theorem dL_law_2244 : decode cL_law 2244 = .ok (.iadd, 1) := by decide +kernel
theorem dL_law_2245 : decode cL_law 2245 = .ok (.iaload, 1) := by decide +kernel
theorem dL_law_2246 : decode cL_law 2246 = .ok (.invokevirtual 296, 3) := by decide +kernel
theorem dL_law_2249 : decode cL_law 2249 = .ok (.istore 7, 2) := by decide +kernel
theorem dL_law_2251 : decode cL_law 2251 = .ok (.aload_n 2, 1) := by decide +kernel
theorem dL_law_2252 : decode cL_law 2252 = .ok (.invokevirtual 195, 3) := by decide +kernel
theorem dL_law_2255 : decode cL_law 2255 = .ok (.iload 6, 2) := by decide +kernel
theorem dL_law_2257 : decode cL_law 2257 = .ok (.if_icmp .eq 5, 3) := by decide +kernel
theorem dL_law_2260 : decode cL_law 2260 = .ok (.iconst 0, 1) := by decide +kernel
theorem dL_law_2261 : decode cL_law 2261 = .ok (.ireturn, 1) := by decide +kernel
theorem dL_law_2262 : decode cL_law 2262 = .ok (.iload 6, 2) := by decide +kernel
theorem dL_law_2264 : decode cL_law 2264 = .ok (.ifCond .ne 15, 3) := by decide +kernel
theorem dL_law_2267 : decode cL_law 2267 = .ok (.aload_n 3, 1) := by decide +kernel
theorem dL_law_2268 : decode cL_law 2268 = .ok (.iconst 0, 1) := by decide +kernel
theorem dL_law_2269 : decode cL_law 2269 = .ok (.laload, 1) := by decide +kernel
theorem dL_law_2270 : decode cL_law 2270 = .ok (.iload 7, 2) := by decide +kernel
theorem dL_law_2272 : decode cL_law 2272 = .ok (.i2l, 1) := by decide +kernel
theorem dL_law_2273 : decode cL_law 2273 = .ok (.lcmp, 1) := by decide +kernel
theorem dL_law_2274 : decode cL_law 2274 = .ok (.ifCond .eq 5, 3) := by decide +kernel
theorem dL_law_2277 : decode cL_law 2277 = .ok (.iconst 0, 1) := by decide +kernel
theorem dL_law_2278 : decode cL_law 2278 = .ok (.ireturn, 1) := by decide +kernel
theorem dL_law_2279 : decode cL_law 2279 = .ok (.goto 1277, 3) := by decide +kernel
theorem dL_law_2282 : decode cL_law 2282 = .ok (.aload_n 1, 1) := by decide +kernel
theorem dL_law_2283 : decode cL_law 2283 = .ok (.aload_n 0, 1) := by decide +kernel
theorem dL_law_2284 : decode cL_law 2284 = .ok (.iload 5, 2) := by decide +kernel
theorem dL_law_2286 : decode cL_law 2286 = .ok (.iconst 1, 1) := by decide +kernel
