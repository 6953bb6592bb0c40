theorem dL_law__1864 : decode cL_law_ 1864 = .ok (.iload 5, 2) := by decide +kernel
theorem dL_law__1866 : decode cL_law_ 1866 = .ok (.if_icmp .eq 5, 3) := by decide +kernel
theorem dL_law__1871 : decode cL_law_ 1871 = .ok (.iload 5, 2) := by decide +kernel
theorem dL_law__1873 : decode cL_law_ 1873 = .ok (.ifCond .ne 15, 3) := by decide +kernel
theorem dL_law__1876 : decode cL_law_ 1876 = .ok (.aload_n 3, 1) := by decide +kernel
theorem dL_law__1877 : decode cL_law_ 1877 = .ok (.iconst 0, 1) := by decide +kernel
theorem dL_law__1878 : decode cL_law_ 1878 = .ok (.laload, 1) := by decide +kernel
theorem dL_law__1879 : decode cL_law_ 1879 = .ok (.iload 6, 2) := by decide +kernel
theorem dL_law__1881 : decode cL_law_ 1881 = .ok (.i2l, 1) := by decide +kernel
theorem dL_law__1882 : decode cL_law_ 1882 = .ok (.lcmp, 1) := by decide +kernel
theorem dL_law__1883 : decode cL_law_ 1883 = .ok (.ifCond .eq 5, 3) := by decide +kernel
theorem dL_law__1888 : decode cL_law_ 1888 = .ok (.goto 726, 3) := by decide +kernel
theorem dL_law__1891 : decode cL_law_ 1891 = .ok (.aload_n 1, 1) := by decide +kernel
theorem dL_law__1892 : decode cL_law_ 1892 = .ok (.aload_n 0, 1) := by decide +kernel
theorem dL_law__1893 : decode cL_law_ 1893 = .ok (.iload 4, 2) := by decide +kernel
theorem dL_law__1895 : decode cL_law_ 1895 = .ok (.iconst 1, 1) := by decide +kernel
theorem dL_law__1896 : decode cL_law_ 1896 = .ok (.iadd, 1) := by decide +kernel
theorem dL_law__1897 : decode cL_law_ 1897 = .ok (.iaload, 1) := by decide +kernel
theorem dL_law__1898 : decode cL_law_ 1898 = .ok (.aload_n 0, 1) := by decide +kernel
theorem dL_law__1899 : decode cL_law_ 1899 = .ok (.iload 4, 2) := by decide +kernel
theorem dL_law__1901 : decode cL_law_ 1901 = .ok (.iconst 2, 1) := by decide +kernel
theorem dL_law__1902 : decode cL_law_ 1902 = .ok (.iadd, 1) := by decide +kernel
theorem dL_law__1903 : decode cL_law_ 1903 = .ok (.iaload, 1) := by decide +kernel
theorem dL_law__1904 : decode cL_law_ 1904 = .ok (.ifCond .eq 7, 3) := by decide +kernel
theorem dL_law__1907 : decode cL_law_ 1907 = .ok (.iconst 1, 1) := by decide +kernel
theorem dL_law__1908 : decode cL_law_ 1908 = .ok (.goto 4, 3) := by decide +kernel
theorem dL_law__1911 : decode cL_law_ 1911 = .ok (.iconst 0, 1) := by decide +kernel
theorem dL_law__1912 : decode cL_law_ 1912 = .ok (.aload_n 3, 1) := by decide +kernel
theorem dL_law__1913 : decode cL_law_ 1913 = .ok (.invokestatic 220, 3) := by decide +kernel
theorem dL_law__1916 : decode cL_law_ 1916 = .ok (.istore 5, 2) := by decide +kernel
theorem dL_law__1918 : decode cL_law_ 1918 = .ok (.aload_n 2, 1) := by decide +kernel
theorem dL_law__1919 : decode cL_law_ 1919 = .ok (.aload_n 0, 1) := by decide +kernel
theorem dL_law__1920 : decode cL_law_ 1920 = .ok (.iload 4, 2) := by decide +kernel
theorem dL_law__1922 : decode cL_law_ 1922 = .ok (.iconst 1, 1) := by decide +kernel
theorem dL_law__1923 : decode cL_law_ 1923 = .ok (.iadd, 1) := by decide +kernel
theorem dL_law__1924 : decode cL_law_ 1924 = .ok (.iaload, 1) := by decide +kernel
theorem dL_law__1925 : decode cL_law_ 1925 = .ok (.aload_n 0, 1) := by decide +kernel
theorem dL_law__1926 : decode cL_law_ 1926 = .ok (.iload 4, 2) := by decide +kernel
theorem dL_law__1928 : decode cL_law_ 1928 = .ok (.iconst 2, 1) := by decide +kernel
theorem dL_law__1929 : decode cL_law_ 1929 = .ok (.iadd, 1) := by decide +kernel
theorem dL_law__1930 : decode cL_law_ 1930 = .ok (.iaload, 1) := by decide +kernel
theorem dL_law__1931 : decode cL_law_ 1931 = .ok (.ifCond .eq 7, 3) := by decide +kernel
theorem dL_law__1934 : decode cL_law_ 1934 = .ok (.iconst 1, 1) := by decide +kernel
theorem dL_law__1935 : decode cL_law_ 1935 = .ok (.goto 4, 3) := by decide +kernel
theorem dL_law__1938 : decode cL_law_ 1938 = .ok (.iconst 0, 1) := by decide +kernel
theorem dL_law__1939 : decode cL_law_ 1939 = .ok (.invokevirtual 222, 3) := by decide +kernel
theorem dL_law__1942 : decode cL_law_ 1942 = .ok (.istore 6, 2) := by decide +kernel
theorem dL_law__1944 : decode cL_law_ 1944 = .ok (.aload_n 2, 1) := by decide +kernel
theorem dL_law__1945 : decode cL_law_ 1945 = .ok (.invokevirtual 136, 3) := by decide +kernel
theorem dL_law__1948 : decode cL_law_ 1948 = .ok (.iload 5, 2) := by decide +kernel
theorem dL_law__1950 : decode cL_law_ 1950 = .ok (.if_icmp .eq 5, 3) := by decide +kernel
theorem dL_law__1955 : decode cL_law_ 1955 = .ok (.iload 5, 2) := by decide +kernel
theorem dL_law__1957 : decode cL_law_ 1957 = .ok (.ifCond .ne 15, 3) := by decide +kernel
theorem dL_law__1960 : decode cL_law_ 1960 = .ok (.aload_n 3, 1) := by decide +kernel
theorem dL_law__1961 : decode cL_law_ 1961 = .ok (.iconst 0, 1) := by decide +kernel
theorem dL_law__1962 : decode cL_law_ 1962 = .ok (.laload, 1) := by decide +kernel
theorem dL_law__1963 : decode cL_law_ 1963 = .ok (.iload 6, 2) := by decide +kernel
theorem dL_law__1965 : decode cL_law_ 1965 = .ok (.i2l, 1) := by decide +kernel
theorem dL_law__1966 : decode cL_law_ 1966 = .ok (.lcmp, 1) := by decide +kernel
theorem dL_law__1967 : decode cL_law_ 1967 = .ok (.ifCond .eq 5, 3) := by decide +kernel
theorem dL_law__1972 : decode cL_law_ 1972 = .ok (.goto 642, 3) := by decide +kernel
theorem dL_law__1975 : decode cL_law_ 1975 = .ok (.aload_n 1, 1) := by decide +kernel
theorem dL_law__1976 : decode cL_law_ 1976 = .ok (.aload_n 0, 1) := by decide +kernel
theorem dL_law__1977 : decode cL_law_ 1977 = .ok (.iload 4, 2) := by decide +kernel
theorem dL_law__1979 : decode cL_law_ 1979 = .ok (.iconst 1, 1) := by decide +kernel
theorem dL_law__1980 : decode cL_law_ 1980 = .ok (.iadd, 1) := by decide +kernel
theorem dL_law__1981 : decode cL_law_ 1981 = .ok (.iaload, 1) := by decide +kernel
theorem dL_law__1982 : decode cL_law_ 1982 = .ok (.aload_n 0, 1) := by decide +kernel
theorem dL_law__1983 : decode cL_law_ 1983 = .ok (.iload 4, 2) := by decide +kernel
theorem dL_law__1985 : decode cL_law_ 1985 = .ok (.iconst 2, 1) := by decide +kernel
theorem dL_law__1986 : decode cL_law_ 1986 = .ok (.iadd, 1) := by decide +kernel
theorem dL_law__1987 : decode cL_law_ 1987 = .ok (.iaload, 1) := by decide +kernel
theorem dL_law__1988 : decode cL_law_ 1988 = .ok (.aload_n 3, 1) := by decide +kernel
theorem dL_law__1989 : decode cL_law_ 1989 = .ok (.invokestatic 223, 3) := by decide +kernel
theorem dL_law__1992 : decode cL_law_ 1992 = .ok (.istore 5, 2) := by decide +kernel
theorem dL_law__1994 : decode cL_law_ 1994 = .ok (.aload_n 2, 1) := by decide +kernel
theorem dL_law__1995 : decode cL_law_ 1995 = .ok (.aload_n 0, 1) := by decide +kernel
theorem dL_law__1996 : decode cL_law_ 1996 = .ok (.iload 4, 2) := by decide +kernel
theorem dL_law__1998 : decode cL_law_ 1998 = .ok (.iconst 1, 1) := by decide +kernel
theorem dL_law__1999 : decode cL_law_ 1999 = .ok (.iadd, 1) := by decide +kernel
theorem dL_law__2000 : decode cL_law_ 2000 = .ok (.iaload, 1) := by decide +kernel
theorem dL_law__2001 : decode cL_law_ 2001 = .ok (.aload_n 0, 1) := by decide +kernel
theorem dL_law__2002 : decode cL_law_ 2002 = .ok (.iload 4, 2) := by decide +kernel
theorem dL_law__2004 : decode cL_law_ 2004 = .ok (.iconst 2, 1) := by decide +kernel
theorem dL_law__2005 : decode cL_law_ 2005 = .ok (.iadd, 1) := by decide +kernel
theorem dL_law__2006 : decode cL_law_ 2006 = .ok (.iaload, 1) := by decide +kernel
theorem dL_law__2007 : decode cL_law_ 2007 = .ok (.invokevirtual 225, 3) := by decide +kernel
theorem dL_law__2010 : decode cL_law_ 2010 = .ok (.istore 6, 2) := by decide +kernel
theorem dL_law__2012 : decode cL_law_ 2012 = .ok (.aload_n 2, 1) := by decide +kernel
theorem dL_law__2013 : decode cL_law_ 2013 = .ok (.invokevirtual 136, 3) := by decide +kernel
theorem dL_law__2016 : decode cL_law_ 2016 = .ok (.iload 5, 2) := by decide +kernel
theorem dL_law__2018 : decode cL_law_ 2018 = .ok (.if_icmp .eq 5, 3) := by decide +kernel
theorem dL_law__2023 : decode cL_law_ 2023 = .ok (.iload 5, 2) := by decide +kernel
theorem dL_law__2025 : decode cL_law_ 2025 = .ok (.ifCond .ne 15, 3) := by decide +kernel
theorem dL_law__2028 : decode cL_law_ 2028 = .ok (.aload_n 3, 1) := by decide +kernel
theorem dL_law__2029 : decode cL_law_ 2029 = .ok (.iconst 0, 1) := by decide +kernel
theorem dL_law__2030 : decode cL_law_ 2030 = .ok (.laload, 1) := by decide +kernel
theorem dL_law__2031 : decode cL_law_ 2031 = .ok (.iload 6, 2) := by decide +kernel
theorem dL_law__2033 : decode cL_law_ 2033 = .ok (.i2l, 1) := by decide +kernel
theorem dL_law__2034 : decode cL_law_ 2034 = .ok (.lcmp, 1) := by decide +kernel
theorem dL_law__2035 : decode cL_law_ 2035 = .ok (.ifCond .eq 5, 3) := by decide +kernel
theorem dL_law__2040 : decode cL_law_ 2040 = .ok (.goto 574, 3) := by decide +kernel
theorem dL_law__2043 : decode cL_law_ 2043 = .ok (.aload_n 1, 1) := by decide +kernel
theorem dL_law__2044 : decode cL_law_ 2044 = .ok (.invokevirtual 226, 3) := by decide +kernel
theorem dL_law__2047 : decode cL_law_ 2047 = .ok (.aload_n 2, 1) := by decide +kernel
theorem dL_law__2048 : decode cL_law_ 2048 = .ok (.invokevirtual 229, 3) := by decide +kernel
theorem dL_law__2051 : decode cL_law_ 2051 = .ok (.if_icmp .eq 563, 3) := by decide +kernel
theorem dL_law__2056 : decode cL_law_ 2056 = .ok (.aload_n 1, 1) := by decide +kernel
theorem dL_law__2057 : decode cL_law_ 2057 = .ok (.invokevirtual 230, 3) := by decide +kernel
theorem dL_law__2060 : decode cL_law_ 2060 = .ok (.aload_n 2, 1) := by decide +kernel
theorem dL_law__2061 : decode cL_law_ 2061 = .ok (.invokevirtual 233, 3) := by decide +kernel
theorem dL_law__2064 : decode cL_law_ 2064 = .ok (.if_icmp .eq 550, 3) := by decide +kernel
theorem dL_law__2069 : decode cL_law_ 2069 = .ok (.aload_n 1, 1) := by decide +kernel
theorem dL_law__2070 : decode cL_law_ 2070 = .ok (.aload_n 0, 1) := by decide +kernel
theorem dL_law__2071 : decode cL_law_ 2071 = .ok (.iload 4, 2) := by decide +kernel
theorem dL_law__2073 : decode cL_law_ 2073 = .ok (.iconst 1, 1) := by decide +kernel
theorem dL_law__2074 : decode cL_law_ 2074 = .ok (.iadd, 1) := by decide +kernel
theorem dL_law__2075 : decode cL_law_ 2075 = .ok (.iaload, 1) := by decide +kernel
theorem dL_law__2076 : decode cL_law_ 2076 = .ok (.aload_n 3, 1) := by decide +kernel
theorem dL_law__2077 : decode cL_law_ 2077 = .ok (.invokestatic 234, 3) := by decide +kernel
theorem dL_law__2080 : decode cL_law_ 2080 = .ok (.istore 5, 2) := by decide +kernel
theorem dL_law__2082 : decode cL_law_ 2082 = .ok (.aload_n 2, 1) := by decide +kernel
theorem dL_law__2083 : decode cL_law_ 2083 = .ok (.aload_n 0, 1) := by decide +kernel
theorem dL_law__2084 : decode cL_law_ 2084 = .ok (.iload 4, 2) := by decide +kernel
theorem dL_law__2086 : decode cL_law_ 2086 = .ok (.iconst 1, 1) := by decide +kernel
theorem dL_law__2087 : decode cL_law_ 2087 = .ok (.iadd, 1) := by decide +kernel
theorem dL_law__2088 : decode cL_law_ 2088 = .ok (.iaload, 1) := by decide +kernel
theorem dL_law__2089 : decode cL_law_ 2089 = .ok (.invokevirtual 236, 3) := by decide +kernel
theorem dL_law__2092 : decode cL_law_ 2092 = .ok (.istore 6, 2) := by decide +kernel
theorem dL_law__2094 : decode cL_law_ 2094 = .ok (.aload_n 2, 1) := by decide +kernel
theorem dL_law__2095 : decode cL_law_ 2095 = .ok (.invokevirtual 136, 3) := by decide +kernel
theorem dL_law__2098 : decode cL_law_ 2098 = .ok (.iload 5, 2) := by decide +kernel
theorem dL_law__2100 : decode cL_law_ 2100 = .ok (.if_icmp .eq 5, 3) := by decide +kernel
theorem dL_law__2105 : decode cL_law_ 2105 = .ok (.iload 5, 2) := by decide +kernel
theorem dL_law__2107 : decode cL_law_ 2107 = .ok (.ifCond .ne 15, 3) := by decide +kernel
theorem dL_law__2110 : decode cL_law_ 2110 = .ok (.aload_n 3, 1) := by decide +kernel
theorem dL_law__2111 : decode cL_law_ 2111 = .ok (.iconst 0, 1) := by decide +kernel
theorem dL_law__2112 : decode cL_law_ 2112 = .ok (.laload, 1) := by decide +kernel
theorem dL_law__2113 : decode cL_law_ 2113 = .ok (.iload 6, 2) := by decide +kernel
theorem dL_law__2115 : decode cL_law_ 2115 = .ok (.i2l, 1) := by decide +kernel
theorem dL_law__2116 : decode cL_law_ 2116 = .ok (.lcmp, 1) := by decide +kernel
theorem dL_law__2117 : decode cL_law_ 2117 = .ok (.ifCond .eq 5, 3) := by decide +kernel
theorem dL_law__2122 : decode cL_law_ 2122 = .ok (.goto 492, 3) := by decide +kernel
theorem dL_law__2125 : decode cL_law_ 2125 = .ok (.aload_n 1, 1) := by decide +kernel
theorem dL_law__2126 : decode cL_law_ 2126 = .ok (.invokevirtual 237, 3) := by decide +kernel
theorem dL_law__2129 : decode cL_law_ 2129 = .ok (.aload_n 2, 1) := by decide +kernel
theorem dL_law__2130 : decode cL_law_ 2130 = .ok (.invokevirtual 240, 3) := by decide +kernel
theorem dL_law__2133 : decode cL_law_ 2133 = .ok (.if_icmp .eq 481, 3) := by decide +kernel
theorem dL_law__2138 : decode cL_law_ 2138 = .ok (.aload_n 1, 1) := by decide +kernel
theorem dL_law__2139 : decode cL_law_ 2139 = .ok (.invokevirtual 241, 3) := by decide +kernel
theorem dL_law__2142 : decode cL_law_ 2142 = .ok (.aload_n 2, 1) := by decide +kernel
theorem dL_law__2143 : decode cL_law_ 2143 = .ok (.invokevirtual 244, 3) := by decide +kernel
theorem dL_law__2146 : decode cL_law_ 2146 = .ok (.if_icmp .eq 468, 3) := by decide +kernel
theorem dL_law__2151 : decode cL_law_ 2151 = .ok (.aload_n 1, 1) := by decide +kernel
theorem dL_law__2152 : decode cL_law_ 2152 = .ok (.aload_n 0, 1) := by decide +kernel
theorem dL_law__2153 : decode cL_law_ 2153 = .ok (.iload 4, 2) := by decide +kernel
theorem dL_law__2155 : decode cL_law_ 2155 = .ok (.iconst 1, 1) := by decide +kernel
theorem dL_law__2156 : decode cL_law_ 2156 = .ok (.iadd, 1) := by decide +kernel
theorem dL_law__2157 : decode cL_law_ 2157 = .ok (.iaload, 1) := by decide +kernel
theorem dL_law__2158 : decode cL_law_ 2158 = .ok (.aload_n 3, 1) := by decide +kernel
theorem dL_law__2159 : decode cL_law_ 2159 = .ok (.invokestatic 245, 3) := by decide +kernel
theorem dL_law__2162 : decode cL_law_ 2162 = .ok (.istore 5, 2) := by decide +kernel
theorem dL_law__2164 : decode cL_law_ 2164 = .ok (.aload_n 2, 1) := by decide +kernel
theorem dL_law__2165 : decode cL_law_ 2165 = .ok (.aload_n 0, 1) := by decide +kernel
theorem dL_law__2166 : decode cL_law_ 2166 = .ok (.iload 4, 2) := by decide +kernel
theorem dL_law__2168 : decode cL_law_ 2168 = .ok (.iconst 1, 1) := by decide +kernel
theorem dL_law__2169 : decode cL_law_ 2169 = .ok (.iadd, 1) := by decide +kernel
theorem dL_law__2170 : decode cL_law_ 2170 = .ok (.iaload, 1) := by decide +kernel
theorem dL_law__2171 : decode cL_law_ 2171 = .ok (.invokevirtual 247, 3) := by decide +kernel
theorem dL_law__2174 : decode cL_law_ 2174 = .ok (.istore 6, 2) := by decide +kernel
theorem dL_law__2176 : decode cL_law_ 2176 = .ok (.aload_n 2, 1) := by decide +kernel
theorem dL_law__2177 : decode cL_law_ 2177 = .ok (.invokevirtual 136, 3) := by decide +kernel
theorem dL_law__2180 : decode cL_law_ 2180 = .ok (.iload 5, 2) := by decide +kernel
theorem dL_law__2182 : decode cL_law_ 2182 = .ok (.if_icmp .eq 5, 3) := by decide +kernel
theorem dL_law__2187 : decode cL_law_ 2187 = .ok (.iload 5, 2) := by decide +kernel
theorem dL_law__2189 : decode cL_law_ 2189 = .ok (.ifCond .ne 15, 3) := by decide +kernel
theorem dL_law__2192 : decode cL_law_ 2192 = .ok (.aload_n 3, 1) := by decide +kernel
theorem dL_law__2193 : decode cL_law_ 2193 = .ok (.iconst 0, 1) := by decide +kernel
theorem dL_law__2194 : decode cL_law_ 2194 = .ok (.laload, 1) := by decide +kernel
theorem dL_law__2195 : decode cL_law_ 2195 = .ok (.iload 6, 2) := by decide +kernel
theorem dL_law__2197 : decode cL_law_ 2197 = .ok (.i2l, 1) := by decide +kernel
theorem dL_law__2198 : decode cL_law_ 2198 = .ok (.lcmp, 1) := by decide +kernel
theorem dL_law__2199 : decode cL_law_ 2199 = .ok (.ifCond .eq 5, 3) := by decide +kernel
theorem dL_law__2204 : decode cL_law_ 2204 = .ok (.goto 410, 3) := by decide +kernel
theorem dL_law__2207 : decode cL_law_ 2207 = .ok (.aload_n 1, 1) := by decide +kernel
theorem dL_law__2208 : decode cL_law_ 2208 = .ok (.aload_n 0, 1) := by decide +kernel
theorem dL_law__2209 : decode cL_law_ 2209 = .ok (.iload 4, 2) := by decide +kernel
theorem dL_law__2211 : decode cL_law_ 2211 = .ok (.iconst 1, 1) := by decide +kernel
theorem dL_law__2212 : decode cL_law_ 2212 = .ok (.iadd, 1) := by decide +kernel
theorem dL_law__2213 : decode cL_law_ 2213 = .ok (.iaload, 1) := by decide +kernel
theorem dL_law__2214 : decode cL_law_ 2214 = .ok (.aload_n 0, 1) := by decide +kernel
theorem dL_law__2215 : decode cL_law_ 2215 = .ok (.iload 4, 2) := by decide +kernel
theorem dL_law__2217 : decode cL_law_ 2217 = .ok (.iconst 2, 1) := by decide +kernel
theorem dL_law__2218 : decode cL_law_ 2218 = .ok (.iadd, 1) := by decide +kernel
theorem dL_law__2219 : decode cL_law_ 2219 = .ok (.iaload, 1) := by decide +kernel
theorem dL_law__2220 : decode cL_law_ 2220 = .ok (.ifCond .eq 7, 3) := by decide +kernel
theorem dL_law__2223 : decode cL_law_ 2223 = .ok (.iconst 1, 1) := by decide +kernel
theorem dL_law__2224 : decode cL_law_ 2224 = .ok (.goto 4, 3) := by decide +kernel
theorem dL_law__2227 : decode cL_law_ 2227 = .ok (.iconst 0, 1) := by decide +kernel
theorem dL_law__2228 : decode cL_law_ 2228 = .ok (.aload_n 3, 1) := by decide +kernel
theorem dL_law__2229 : decode cL_law_ 2229 = .ok (.invokestatic 248, 3) := by decide +kernel
theorem dL_law__2232 : decode cL_law_ 2232 = .ok (.istore 5, 2) := by decide +kernel
theorem dL_law__2234 : decode cL_law_ 2234 = .ok (.aload_n 2, 1) := by decide +kernel
theorem dL_law__2235 : decode cL_law_ 2235 = .ok (.aload_n 0, 1) := by decide +kernel
theorem dL_law__2236 : decode cL_law_ 2236 = .ok (.iload 4, 2) := by decide +kernel
theorem dL_law__2238 : decode cL_law_ 2238 = .ok (.iconst 1, 1) := by decide +kernel
theorem dL_law__2239 : decode cL_law_ 2239 = .ok (.iadd, 1) := by decide +kernel
theorem dL_law__2240 : decode cL_law_ 2240 = .ok (.iaload, 1) := by decide +kernel
theorem dL_law__2241 : decode cL_law_ 2241 = .ok (.aload_n 0, 1) := by decide +kernel
theorem dL_law__2242 : decode cL_law_ 2242 = .ok (.iload 4, 2) := by decide +kernel
theorem dL_law__2244 : decode cL_law_ 2244 = .ok (.iconst 2, 1) := by decide +kernel
theorem dL_law__2245 : decode cL_law_ 2245 = .ok (.iadd, 1) := by decide +kernel
theorem dL_law__2246 : decode cL_law_ 2246 = .ok (.iaload, 1) := by decide +kernel
theorem dL_law__2247 : decode cL_law_ 2247 = .ok (.ifCond .eq 7, 3) := by decide +kernel
theorem dL_law__2250 : decode cL_law_ 2250 = .ok (.iconst 1, 1) := by decide +kernel
theorem dL_law__2251 : decode cL_law_ 2251 = .ok (.goto 4, 3) := by decide +kernel
theorem dL_law__2254 : decode cL_law_ 2254 = .ok (.iconst 0, 1) := by decide +kernel
theorem dL_law__2255 : decode cL_law_ 2255 = .ok (.invokevirtual 250, 3) := by decide +kernel
theorem dL_law__2258 : decode cL_law_ 2258 = .ok (.istore 6, 2) := by decide +kernel
theorem dL_law__2260 : decode cL_law_ 2260 = .ok (.aload_n 2, 1) := by decide +kernel
theorem dL_law__2261 : decode cL_law_ 2261 = .ok (.invokevirtual 136, 3) := by decide +kernel
theorem dL_law__2264 : decode cL_law_ 2264 = .ok (.iload 5, 2) := by decide +kernel
theorem dL_law__2266 : decode cL_law_ 2266 = .ok (.if_icmp .eq 5, 3) := by decide +kernel
theorem dL_law__2271 : decode cL_law_ 2271 = .ok (.iload 5, 2) := by decide +kernel
theorem dL_law__2273 : decode cL_law_ 2273 = .ok (.ifCond .ne 15, 3) := by decide +kernel
theorem dL_law__2276 : decode cL_law_ 2276 = .ok (.aload_n 3, 1) := by decide +kernel
theorem dL_law__2277 : decode cL_law_ 2277 = .ok (.iconst 0, 1) := by decide +kernel
theorem dL_law__2278 : decode cL_law_ 2278 = .ok (.laload, 1) := by decide +kernel
theorem dL_law__2279 : decode cL_law_ 2279 = .ok (.iload 6, 2) := by decide +kernel
theorem dL_law__2281 : decode cL_law_ 2281 = .ok (.i2l, 1) := by decide +kernel
theorem dL_law__2282 : decode cL_law_ 2282 = .ok (.lcmp, 1) := by decide +kernel
theorem dL_law__2283 : decode cL_law_ 2283 = .ok (.ifCond .eq 5, 3) := by decide +kernel
theorem dL_law__2288 : decode cL_law_ 2288 = .ok (.goto 326, 3) := by decide +kernel
theorem dL_law__2291 : decode cL_law_ 2291 = .ok (.aload_n 1, 1) := by decide +kernel
theorem dL_law__2292 : decode cL_law_ 2292 = .ok (.aload_n 0, 1) := by decide +kernel
theorem dL_law__2293 : decode cL_law_ 2293 = .ok (.iload 4, 2) := by decide +kernel
theorem dL_law__2295 : decode cL_law_ 2295 = .ok (.iconst 1, 1) := by decide +kernel
theorem dL_law__2296 : decode cL_law_ 2296 = .ok (.iadd, 1) := by decide +kernel
theorem dL_law__2297 : decode cL_law_ 2297 = .ok (.iaload, 1) := by decide +kernel
theorem dL_law__2298 : decode cL_law_ 2298 = .ok (.aload_n 0, 1) := by decide +kernel
theorem dL_law__2299 : decode cL_law_ 2299 = .ok (.iload 4, 2) := by decide +kernel
theorem dL_law__2301 : decode cL_law_ 2301 = .ok (.iconst 2, 1) := by decide +kernel
theorem dL_law__2302 : decode cL_law_ 2302 = .ok (.iadd, 1) := by decide +kernel
theorem dL_law__2303 : decode cL_law_ 2303 = .ok (.iaload, 1) := by decide +kernel
theorem dL_law__2304 : decode cL_law_ 2304 = .ok (.ifCond .eq 7, 3) := by decide +kernel
theorem dL_law__2307 : decode cL_law_ 2307 = .ok (.iconst 1, 1) := by decide +kernel
theorem dL_law__2308 : decode cL_law_ 2308 = .ok (.goto 4, 3) := by decide +kernel
theorem dL_law__2311 : decode cL_law_ 2311 = .ok (.iconst 0, 1) := by decide +kernel
theorem dL_law__2312 : decode cL_law_ 2312 = .ok (.aload_n 3, 1) := by decide +kernel
theorem dL_law__2313 : decode cL_law_ 2313 = .ok (.invokestatic 251, 3) := by decide +kernel
