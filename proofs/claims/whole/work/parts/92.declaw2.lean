theorem dL_law_1974 : decode cL_law 1974 = .ok (.iload 6, 2) := by decide +kernel
theorem dL_law_1976 : decode cL_law 1976 = .ok (.ifCond .ne 15, 3) := by decide +kernel
theorem dL_law_1979 : decode cL_law 1979 = .ok (.aload_n 3, 1) := by decide +kernel
theorem dL_law_1980 : decode cL_law 1980 = .ok (.iconst 0, 1) := by decide +kernel
theorem dL_law_1981 : decode cL_law 1981 = .ok (.laload, 1) := by decide +kernel
theorem dL_law_1982 : decode cL_law 1982 = .ok (.iload 7, 2) := by decide +kernel
theorem dL_law_1984 : decode cL_law 1984 = .ok (.i2l, 1) := by decide +kernel
theorem dL_law_1985 : decode cL_law 1985 = .ok (.lcmp, 1) := by decide +kernel
theorem dL_law_1986 : decode cL_law 1986 = .ok (.ifCond .eq 5, 3) := by decide +kernel
theorem dL_law_1989 : decode cL_law 1989 = .ok (.iconst 0, 1) := by decide +kernel
theorem dL_law_1990 : decode cL_law 1990 = .ok (.ireturn, 1) := by decide +kernel
theorem dL_law_1991 : decode cL_law 1991 = .ok (.goto 895, 3) := by decide +kernel
theorem dL_law_1994 : decode cL_law 1994 = .ok (.aload_n 1, 1) := by decide +kernel
theorem dL_law_1995 : decode cL_law 1995 = .ok (.aload_n 0, 1) := by decide +kernel
theorem dL_law_1996 : decode cL_law 1996 = .ok (.iload 5, 2) := by decide +kernel
theorem dL_law_1998 : decode cL_law 1998 = .ok (.iconst 1, 1) := by decide +kernel
theorem dL_law_1999 : decode cL_law 1999 = .ok (.iadd, 1) := by decide +kernel
theorem dL_law_2000 : decode cL_law 2000 = .ok (.iaload, 1) := by decide +kernel
theorem dL_law_2001 : decode cL_law 2001 = .ok (.aload_n 3, 1) := by decide +kernel
theorem dL_law_2002 : decode cL_law 2002 = .ok (.invokestatic 266, 3) := by decide +kernel
theorem dL_law_2005 : decode cL_law 2005 = .ok (.istore 6, 2) := by decide +kernel
theorem dL_law_2007 : decode cL_law 2007 = .ok (.aload_n 2, 1) := by decide +kernel
theorem dL_law_2008 : decode cL_law 2008 = .ok (.aload_n 0, 1) := by decide +kernel
theorem dL_law_2009 : decode cL_law 2009 = .ok (.iload 5, 2) := by decide +kernel
theorem dL_law_2011 : decode cL_law 2011 = .ok (.iconst 1, 1) := by decide +kernel
theorem dL_law_2012 : decode cL_law 2012 = .ok (.iadd, 1) := by decide +kernel
theorem dL_law_2013 : decode cL_law 2013 = .ok (.iaload, 1) := by decide +kernel
theorem dL_law_2014 : decode cL_law 2014 = .ok (.invokevirtual 268, 3) := by decide +kernel
theorem dL_law_2017 : decode cL_law 2017 = .ok (.istore 7, 2) := by decide +kernel
theorem dL_law_2019 : decode cL_law 2019 = .ok (.aload_n 2, 1) := by decide +kernel
theorem dL_law_2020 : decode cL_law 2020 = .ok (.invokevirtual 165, 3) := by decide +kernel
theorem dL_law_2023 : decode cL_law 2023 = .ok (.iload 6, 2) := by decide +kernel
theorem dL_law_2025 : decode cL_law 2025 = .ok (.if_icmp .eq 5, 3) := by decide +kernel
theorem dL_law_2028 : decode cL_law 2028 = .ok (.iconst 0, 1) := by decide +kernel
theorem dL_law_2029 : decode cL_law 2029 = .ok (.ireturn, 1) := by decide +kernel
theorem dL_law_2030 : decode cL_law 2030 = .ok (.iload 6, 2) := by decide +kernel
theorem dL_law_2032 : decode cL_law 2032 = .ok (.ifCond .ne 15, 3) := by decide +kernel
theorem dL_law_2035 : decode cL_law 2035 = .ok (.aload_n 3, 1) := by decide +kernel
theorem dL_law_2036 : decode cL_law 2036 = .ok (.iconst 0, 1) := by decide +kernel
theorem dL_law_2037 : decode cL_law 2037 = .ok (.laload, 1) := by decide +kernel
theorem dL_law_2038 : decode cL_law 2038 = .ok (.iload 7, 2) := by decide +kernel
theorem dL_law_2040 : decode cL_law 2040 = .ok (.i2l, 1) := by decide +kernel
theorem dL_law_2041 : decode cL_law 2041 = .ok (.lcmp, 1) := by decide +kernel
theorem dL_law_2042 : decode cL_law 2042 = .ok (.ifCond .eq 5, 3) := by decide +kernel
theorem dL_law_2045 : decode cL_law 2045 = .ok (.iconst 0, 1) := by decide +kernel
theorem dL_law_2046 : decode cL_law 2046 = .ok (.ireturn, 1) := by decide +kernel
theorem dL_law_2047 : decode cL_law 2047 = .ok (.goto 839, 3) := by decide +kernel
theorem dL_law_2050 : decode cL_law 2050 = .ok (.aload_n 1, 1) := by decide +kernel
theorem dL_law_2051 : decode cL_law 2051 = .ok (.aload_n 0, 1) := by decide +kernel
theorem dL_law_2052 : decode cL_law 2052 = .ok (.iload 5, 2) := by decide +kernel
theorem dL_law_2054 : decode cL_law 2054 = .ok (.iconst 1, 1) := by decide +kernel
theorem dL_law_2055 : decode cL_law 2055 = .ok (.iadd, 1) := by decide +kernel
theorem dL_law_2056 : decode cL_law 2056 = .ok (.iaload, 1) := by decide +kernel
theorem dL_law_2057 : decode cL_law 2057 = .ok (.aload_n 3, 1) := by decide +kernel
theorem dL_law_2058 : decode cL_law 2058 = .ok (.invokestatic 269, 3) := by decide +kernel
theorem dL_law_2061 : decode cL_law 2061 = .ok (.istore 6, 2) := by decide +kernel
theorem dL_law_2063 : decode cL_law 2063 = .ok (.aload_n 2, 1) := by decide +kernel
theorem dL_law_2064 : decode cL_law 2064 = .ok (.aload_n 0, 1) := by decide +kernel
theorem dL_law_2065 : decode cL_law 2065 = .ok (.iload 5, 2) := by decide +kernel
theorem dL_law_2067 : decode cL_law 2067 = .ok (.iconst 1, 1) := by decide +kernel
theorem dL_law_2068 : decode cL_law 2068 = .ok (.iadd, 1) := by decide +kernel
theorem dL_law_2069 : decode cL_law 2069 = .ok (.iaload, 1) := by decide +kernel
theorem dL_law_2070 : decode cL_law 2070 = .ok (.invokevirtual 271, 3) := by decide +kernel
theorem dL_law_2073 : decode cL_law 2073 = .ok (.istore 7, 2) := by decide +kernel
theorem dL_law_2075 : decode cL_law 2075 = .ok (.aload_n 2, 1) := by decide +kernel
theorem dL_law_2076 : decode cL_law 2076 = .ok (.invokevirtual 165, 3) := by decide +kernel
theorem dL_law_2079 : decode cL_law 2079 = .ok (.iload 6, 2) := by decide +kernel
theorem dL_law_2081 : decode cL_law 2081 = .ok (.if_icmp .eq 5, 3) := by decide +kernel
theorem dL_law_2084 : decode cL_law 2084 = .ok (.iconst 0, 1) := by decide +kernel
theorem dL_law_2085 : decode cL_law 2085 = .ok (.ireturn, 1) := by decide +kernel
theorem dL_law_2086 : decode cL_law 2086 = .ok (.iload 6, 2) := by decide +kernel
theorem dL_law_2088 : decode cL_law 2088 = .ok (.ifCond .ne 15, 3) := by decide +kernel
theorem dL_law_2091 : decode cL_law 2091 = .ok (.aload_n 3, 1) := by decide +kernel
theorem dL_law_2092 : decode cL_law 2092 = .ok (.iconst 0, 1) := by decide +kernel
theorem dL_law_2093 : decode cL_law 2093 = .ok (.laload, 1) := by decide +kernel
theorem dL_law_2094 : decode cL_law 2094 = .ok (.iload 7, 2) := by decide +kernel
theorem dL_law_2096 : decode cL_law 2096 = .ok (.i2l, 1) := by decide +kernel
theorem dL_law_2097 : decode cL_law 2097 = .ok (.lcmp, 1) := by decide +kernel
theorem dL_law_2098 : decode cL_law 2098 = .ok (.ifCond .eq 5, 3) := by decide +kernel
theorem dL_law_2101 : decode cL_law 2101 = .ok (.iconst 0, 1) := by decide +kernel
theorem dL_law_2102 : decode cL_law 2102 = .ok (.ireturn, 1) := by decide +kernel
theorem dL_law_2103 : decode cL_law 2103 = .ok (.goto 783, 3) := by decide +kernel
theorem dL_law_2106 : decode cL_law 2106 = .ok (.aload_n 1, 1) := by decide +kernel
theorem dL_law_2107 : decode cL_law 2107 = .ok (.aload_n 0, 1) := by decide +kernel
theorem dL_law_2108 : decode cL_law 2108 = .ok (.iload 5, 2) := by decide +kernel
theorem dL_law_2110 : decode cL_law 2110 = .ok (.iconst 1, 1) := by decide +kernel
theorem dL_law_2111 : decode cL_law 2111 = .ok (.iadd, 1) := by decide +kernel
theorem dL_law_2112 : decode cL_law 2112 = .ok (.iaload, 1) := by decide +kernel
theorem dL_law_2113 : decode cL_law 2113 = .ok (.aload_n 3, 1) := by decide +kernel
theorem dL_law_2114 : decode cL_law 2114 = .ok (.invokestatic 272, 3) := by decide +kernel
theorem dL_law_2117 : decode cL_law 2117 = .ok (.istore 6, 2) := by decide +kernel
theorem dL_law_2119 : decode cL_law 2119 = .ok (.aload_n 2, 1) := by decide +kernel
theorem dL_law_2120 : decode cL_law 2120 = .ok (.aload_n 0, 1) := by decide +kernel
theorem dL_law_2121 : decode cL_law 2121 = .ok (.iload 5, 2) := by decide +kernel
theorem dL_law_2123 : decode cL_law 2123 = .ok (.iconst 1, 1) := by decide +kernel
theorem dL_law_2124 : decode cL_law 2124 = .ok (.iadd, 1) := by decide +kernel
theorem dL_law_2125 : decode cL_law 2125 = .ok (.iaload, 1) := by decide +kernel
theorem dL_law_2126 : decode cL_law 2126 = .ok (.invokevirtual 274, 3) := by decide +kernel
theorem dL_law_2129 : decode cL_law 2129 = .ok (.istore 7, 2) := by decide +kernel
theorem dL_law_2131 : decode cL_law 2131 = .ok (.aload_n 2, 1) := by decide +kernel
theorem dL_law_2132 : decode cL_law 2132 = .ok (.invokevirtual 165, 3) := by decide +kernel
theorem dL_law_2135 : decode cL_law 2135 = .ok (.iload 6, 2) := by decide +kernel
theorem dL_law_2137 : decode cL_law 2137 = .ok (.if_icmp .eq 5, 3) := by decide +kernel
theorem dL_law_2140 : decode cL_law 2140 = .ok (.iconst 0, 1) := by decide +kernel
theorem dL_law_2141 : decode cL_law 2141 = .ok (.ireturn, 1) := by decide +kernel
theorem dL_law_2142 : decode cL_law 2142 = .ok (.iload 6, 2) := by decide +kernel
theorem dL_law_2144 : decode cL_law 2144 = .ok (.ifCond .ne 15, 3) := by decide +kernel
theorem dL_law_2147 : decode cL_law 2147 = .ok (.aload_n 3, 1) := by decide +kernel
theorem dL_law_2148 : decode cL_law 2148 = .ok (.iconst 0, 1) := by decide +kernel
theorem dL_law_2149 : decode cL_law 2149 = .ok (.laload, 1) := by decide +kernel
theorem dL_law_2150 : decode cL_law 2150 = .ok (.iload 7, 2) := by decide +kernel
theorem dL_law_2152 : decode cL_law 2152 = .ok (.i2l, 1) := by decide +kernel
theorem dL_law_2153 : decode cL_law 2153 = .ok (.lcmp, 1) := by decide +kernel
theorem dL_law_2154 : decode cL_law 2154 = .ok (.ifCond .eq 5, 3) := by decide +kernel
theorem dL_law_2157 : decode cL_law 2157 = .ok (.iconst 0, 1) := by decide +kernel
theorem dL_law_2158 : decode cL_law 2158 = .ok (.ireturn, 1) := by decide +kernel
theorem dL_law_2159 : decode cL_law 2159 = .ok (.goto 727, 3) := by decide +kernel
theorem dL_law_2162 : decode cL_law 2162 = .ok (.aload_n 1, 1) := by decide +kernel
theorem dL_law_2163 : decode cL_law 2163 = .ok (.aload_n 0, 1) := by decide +kernel
theorem dL_law_2164 : decode cL_law 2164 = .ok (.iload 5, 2) := by decide +kernel
theorem dL_law_2166 : decode cL_law 2166 = .ok (.iconst 1, 1) := by decide +kernel
theorem dL_law_2167 : decode cL_law 2167 = .ok (.iadd, 1) := by decide +kernel
theorem dL_law_2168 : decode cL_law 2168 = .ok (.iaload, 1) := by decide +kernel
theorem dL_law_2169 : decode cL_law 2169 = .ok (.aload_n 3, 1) := by decide +kernel
theorem dL_law_2170 : decode cL_law 2170 = .ok (.invokestatic 275, 3) := by decide +kernel
theorem dL_law_2173 : decode cL_law 2173 = .ok (.istore 6, 2) := by decide +kernel
theorem dL_law_2175 : decode cL_law 2175 = .ok (.aload_n 2, 1) := by decide +kernel
theorem dL_law_2176 : decode cL_law 2176 = .ok (.aload_n 0, 1) := by decide +kernel
theorem dL_law_2177 : decode cL_law 2177 = .ok (.iload 5, 2) := by decide +kernel
theorem dL_law_2179 : decode cL_law 2179 = .ok (.iconst 1, 1) := by decide +kernel
theorem dL_law_2180 : decode cL_law 2180 = .ok (.iadd, 1) := by decide +kernel
theorem dL_law_2181 : decode cL_law 2181 = .ok (.iaload, 1) := by decide +kernel
theorem dL_law_2182 : decode cL_law 2182 = .ok (.invokevirtual 277, 3) := by decide +kernel
theorem dL_law_2185 : decode cL_law 2185 = .ok (.istore 7, 2) := by decide +kernel
theorem dL_law_2187 : decode cL_law 2187 = .ok (.aload_n 2, 1) := by decide +kernel
theorem dL_law_2188 : decode cL_law 2188 = .ok (.invokevirtual 165, 3) := by decide +kernel
theorem dL_law_2191 : decode cL_law 2191 = .ok (.iload 6, 2) := by decide +kernel
theorem dL_law_2193 : decode cL_law 2193 = .ok (.if_icmp .eq 5, 3) := by decide +kernel
theorem dL_law_2196 : decode cL_law 2196 = .ok (.iconst 0, 1) := by decide +kernel
theorem dL_law_2197 : decode cL_law 2197 = .ok (.ireturn, 1) := by decide +kernel
theorem dL_law_2198 : decode cL_law 2198 = .ok (.iload 6, 2) := by decide +kernel
theorem dL_law_2200 : decode cL_law 2200 = .ok (.ifCond .ne 15, 3) := by decide +kernel
theorem dL_law_2203 : decode cL_law 2203 = .ok (.aload_n 3, 1) := by decide +kernel
theorem dL_law_2204 : decode cL_law 2204 = .ok (.iconst 0, 1) := by decide +kernel
theorem dL_law_2205 : decode cL_law 2205 = .ok (.laload, 1) := by decide +kernel
theorem dL_law_2206 : decode cL_law 2206 = .ok (.iload 7, 2) := by decide +kernel
theorem dL_law_2208 : decode cL_law 2208 = .ok (.i2l, 1) := by decide +kernel
theorem dL_law_2209 : decode cL_law 2209 = .ok (.lcmp, 1) := by decide +kernel
theorem dL_law_2210 : decode cL_law 2210 = .ok (.ifCond .eq 5, 3) := by decide +kernel
theorem dL_law_2213 : decode cL_law 2213 = .ok (.iconst 0, 1) := by decide +kernel
theorem dL_law_2214 : decode cL_law 2214 = .ok (.ireturn, 1) := by decide +kernel
theorem dL_law_2215 : decode cL_law 2215 = .ok (.goto 671, 3) := by decide +kernel
theorem dL_law_2218 : decode cL_law 2218 = .ok (.aload_n 1, 1) := by decide +kernel
theorem dL_law_2219 : decode cL_law 2219 = .ok (.invokevirtual 278, 3) := by decide +kernel
theorem dL_law_2222 : decode cL_law 2222 = .ok (.aload_n 2, 1) := by decide +kernel
theorem dL_law_2223 : decode cL_law 2223 = .ok (.invokevirtual 281, 3) := by decide +kernel
theorem dL_law_2226 : decode cL_law 2226 = .ok (.if_icmp .eq 660, 3) := by decide +kernel
theorem dL_law_2229 : decode cL_law 2229 = .ok (.iconst 0, 1) := by decide +kernel
theorem dL_law_2230 : decode cL_law 2230 = .ok (.ireturn, 1) := by decide +kernel
theorem dL_law_2231 : decode cL_law 2231 = .ok (.aload_n 1, 1) := by decide +kernel
theorem dL_law_2232 : decode cL_law 2232 = .ok (.invokevirtual 282, 3) := by decide +kernel
theorem dL_law_2235 : decode cL_law 2235 = .ok (.aload_n 2, 1) := by decide +kernel
theorem dL_law_2236 : decode cL_law 2236 = .ok (.invokevirtual 285, 3) := by decide +kernel
theorem dL_law_2239 : decode cL_law 2239 = .ok (.if_icmp .eq 647, 3) := by decide +kernel
theorem dL_law_2242 : decode cL_law 2242 = .ok (.iconst 0, 1) := by decide +kernel
theorem dL_law_2243 : decode cL_law 2243 = .ok (.ireturn, 1) := by decide +kernel
theorem dL_law_2244 : decode cL_law 2244 = .ok (.aload_n 1, 1) := by decide +kernel
theorem dL_law_2245 : decode cL_law 2245 = .ok (.invokevirtual 286, 3) := by decide +kernel
theorem dL_law_2248 : decode cL_law 2248 = .ok (.aload_n 2, 1) := by decide +kernel
theorem dL_law_2249 : decode cL_law 2249 = .ok (.invokevirtual 289, 3) := by decide +kernel
theorem dL_law_2252 : decode cL_law 2252 = .ok (.if_icmp .eq 634, 3) := by decide +kernel
theorem dL_law_2255 : decode cL_law 2255 = .ok (.iconst 0, 1) := by decide +kernel
theorem dL_law_2256 : decode cL_law 2256 = .ok (.ireturn, 1) := by decide +kernel
theorem dL_law_2257 : decode cL_law 2257 = .ok (.aload_n 1, 1) := by decide +kernel
theorem dL_law_2258 : decode cL_law 2258 = .ok (.invokevirtual 290, 3) := by decide +kernel
theorem dL_law_2261 : decode cL_law 2261 = .ok (.aload_n 2, 1) := by decide +kernel
theorem dL_law_2262 : decode cL_law 2262 = .ok (.invokevirtual 293, 3) := by decide +kernel
theorem dL_law_2265 : decode cL_law 2265 = .ok (.if_icmp .eq 621, 3) := by decide +kernel
theorem dL_law_2268 : decode cL_law 2268 = .ok (.iconst 0, 1) := by decide +kernel
theorem dL_law_2269 : decode cL_law 2269 = .ok (.ireturn, 1) := by decide +kernel
theorem dL_law_2270 : decode cL_law 2270 = .ok (.aload_n 1, 1) := by decide +kernel
theorem dL_law_2271 : decode cL_law 2271 = .ok (.invokevirtual 294, 3) := by decide +kernel
theorem dL_law_2274 : decode cL_law 2274 = .ok (.aload_n 2, 1) := by decide +kernel
theorem dL_law_2275 : decode cL_law 2275 = .ok (.invokevirtual 297, 3) := by decide +kernel
theorem dL_law_2278 : decode cL_law 2278 = .ok (.if_icmp .eq 608, 3) := by decide +kernel
theorem dL_law_2281 : decode cL_law 2281 = .ok (.iconst 0, 1) := by decide +kernel
theorem dL_law_2282 : decode cL_law 2282 = .ok (.ireturn, 1) := by decide +kernel
theorem dL_law_2283 : decode cL_law 2283 = .ok (.aload_n 1, 1) := by decide +kernel
theorem dL_law_2284 : decode cL_law 2284 = .ok (.aload 4, 2) := by decide +kernel
theorem dL_law_2286 : decode cL_law 2286 = .ok (.invokestatic 298, 3) := by decide +kernel
theorem dL_law_2289 : decode cL_law 2289 = .ok (.istore 6, 2) := by decide +kernel
theorem dL_law_2291 : decode cL_law 2291 = .ok (.aload_n 2, 1) := by decide +kernel
theorem dL_law_2292 : decode cL_law 2292 = .ok (.invokevirtual 301, 3) := by decide +kernel
theorem dL_law_2295 : decode cL_law 2295 = .ok (.dstore 7, 2) := by decide +kernel
theorem dL_law_2297 : decode cL_law 2297 = .ok (.aload_n 2, 1) := by decide +kernel
theorem dL_law_2298 : decode cL_law 2298 = .ok (.invokevirtual 165, 3) := by decide +kernel
theorem dL_law_2301 : decode cL_law 2301 = .ok (.iload 6, 2) := by decide +kernel
theorem dL_law_2303 : decode cL_law 2303 = .ok (.if_icmp .eq 5, 3) := by decide +kernel
theorem dL_law_2306 : decode cL_law 2306 = .ok (.iconst 0, 1) := by decide +kernel
theorem dL_law_2307 : decode cL_law 2307 = .ok (.ireturn, 1) := by decide +kernel
theorem dL_law_2308 : decode cL_law 2308 = .ok (.iload 6, 2) := by decide +kernel
theorem dL_law_2310 : decode cL_law 2310 = .ok (.ifCond .ne 35, 3) := by decide +kernel
theorem dL_law_2313 : decode cL_law 2313 = .ok (.aload 4, 2) := by decide +kernel
theorem dL_law_2315 : decode cL_law 2315 = .ok (.iconst 0, 1) := by decide +kernel
theorem dL_law_2316 : decode cL_law 2316 = .ok (.daload, 1) := by decide +kernel
theorem dL_law_2317 : decode cL_law 2317 = .ok (.dload 7, 2) := by decide +kernel
theorem dL_law_2319 : decode cL_law 2319 = .ok (.dcmp .l, 1) := by decide +kernel
theorem dL_law_2320 : decode cL_law 2320 = .ok (.ifCond .eq 25, 3) := by decide +kernel
theorem dL_law_2323 : decode cL_law 2323 = .ok (.aload 4, 2) := by decide +kernel
theorem dL_law_2325 : decode cL_law 2325 = .ok (.iconst 0, 1) := by decide +kernel
theorem dL_law_2326 : decode cL_law 2326 = .ok (.daload, 1) := by decide +kernel
theorem dL_law_2327 : decode cL_law 2327 = .ok (.aload 4, 2) := by decide +kernel
theorem dL_law_2329 : decode cL_law 2329 = .ok (.iconst 0, 1) := by decide +kernel
theorem dL_law_2330 : decode cL_law 2330 = .ok (.daload, 1) := by decide +kernel
theorem dL_law_2331 : decode cL_law 2331 = .ok (.dcmp .l, 1) := by decide +kernel
theorem dL_law_2332 : decode cL_law 2332 = .ok (.ifCond .eq 11, 3) := by decide +kernel
theorem dL_law_2335 : decode cL_law 2335 = .ok (.dload 7, 2) := by decide +kernel
theorem dL_law_2337 : decode cL_law 2337 = .ok (.dload 7, 2) := by decide +kernel
theorem dL_law_2339 : decode cL_law 2339 = .ok (.dcmp .l, 1) := by decide +kernel
theorem dL_law_2340 : decode cL_law 2340 = .ok (.ifCond .ne 5, 3) := by decide +kernel
theorem dL_law_2343 : decode cL_law 2343 = .ok (.iconst 0, 1) := by decide +kernel
theorem dL_law_2344 : decode cL_law 2344 = .ok (.ireturn, 1) := by decide +kernel
theorem dL_law_2345 : decode cL_law 2345 = .ok (.goto 541, 3) := by decide +kernel
theorem dL_law_2348 : decode cL_law 2348 = .ok (.aload_n 1, 1) := by decide +kernel
theorem dL_law_2349 : decode cL_law 2349 = .ok (.aload 4, 2) := by decide +kernel
theorem dL_law_2351 : decode cL_law 2351 = .ok (.invokestatic 302, 3) := by decide +kernel
theorem dL_law_2354 : decode cL_law 2354 = .ok (.istore 6, 2) := by decide +kernel
theorem dL_law_2356 : decode cL_law 2356 = .ok (.aload_n 2, 1) := by decide +kernel
theorem dL_law_2357 : decode cL_law 2357 = .ok (.invokevirtual 304, 3) := by decide +kernel
theorem dL_law_2360 : decode cL_law 2360 = .ok (.fstore 7, 2) := by decide +kernel
theorem dL_law_2362 : decode cL_law 2362 = .ok (.aload_n 2, 1) := by decide +kernel
theorem dL_law_2363 : decode cL_law 2363 = .ok (.invokevirtual 165, 3) := by decide +kernel
theorem dL_law_2366 : decode cL_law 2366 = .ok (.iload 6, 2) := by decide +kernel
theorem dL_law_2368 : decode cL_law 2368 = .ok (.if_icmp .eq 5, 3) := by decide +kernel
theorem dL_law_2371 : decode cL_law 2371 = .ok (.iconst 0, 1) := by decide +kernel
theorem dL_law_2372 : decode cL_law 2372 = .ok (.ireturn, 1) := by decide +kernel
theorem dL_law_2373 : decode cL_law 2373 = .ok (.iload 6, 2) := by decide +kernel
theorem dL_law_2375 : decode cL_law 2375 = .ok (.ifCond .ne 36, 3) := by decide +kernel
theorem dL_law_2378 : decode cL_law 2378 = .ok (.aload 4, 2) := by decide +kernel
theorem dL_law_2380 : decode cL_law 2380 = .ok (.iconst 0, 1) := by decide +kernel
theorem dL_law_2381 : decode cL_law 2381 = .ok (.daload, 1) := by decide +kernel
theorem dL_law_2382 : decode cL_law 2382 = .ok (.fload 7, 2) := by decide +kernel
theorem dL_law_2384 : decode cL_law 2384 = .ok (.f2d, 1) := by decide +kernel
theorem dL_law_2385 : decode cL_law 2385 = .ok (.dcmp .l, 1) := by decide +kernel
theorem dL_law_2386 : decode cL_law 2386 = .ok (.ifCond .eq 25, 3) := by decide +kernel
theorem dL_law_2389 : decode cL_law 2389 = .ok (.aload 4, 2) := by decide +kernel
theorem dL_law_2391 : decode cL_law 2391 = .ok (.iconst 0, 1) := by decide +kernel
theorem dL_law_2392 : decode cL_law 2392 = .ok (.daload, 1) := by decide +kernel
theorem dL_law_2393 : decode cL_law 2393 = .ok (.aload 4, 2) := by decide +kernel
theorem dL_law_2395 : decode cL_law 2395 = .ok (.iconst 0, 1) := by decide +kernel
theorem dL_law_2396 : decode cL_law 2396 = .ok (.daload, 1) := by decide +kernel
theorem dL_law_2397 : decode cL_law 2397 = .ok (.dcmp .l, 1) := by decide +kernel
theorem dL_law_2398 : decode cL_law 2398 = .ok (.ifCond .eq 11, 3) := by decide +kernel
theorem dL_law_2401 : decode cL_law 2401 = .ok (.fload 7, 2) := by decide +kernel
theorem dL_law_2403 : decode cL_law 2403 = .ok (.fload 7, 2) := by decide +kernel
theorem dL_law_2405 : decode cL_law 2405 = .ok (.fcmp .l, 1) := by decide +kernel
theorem dL_law_2406 : decode cL_law 2406 = .ok (.ifCond .ne 5, 3) := by decide +kernel
theorem dL_law_2409 : decode cL_law 2409 = .ok (.iconst 0, 1) := by decide +kernel
theorem dL_law_2410 : decode cL_law 2410 = .ok (.ireturn, 1) := by decide +kernel
theorem dL_law_2411 : decode cL_law 2411 = .ok (.goto 475, 3) := by decide +kernel
theorem dL_law_2414 : decode cL_law 2414 = .ok (.aload_n 1, 1) := by decide +kernel
theorem dL_law_2415 : decode cL_law 2415 = .ok (.invokevirtual 305, 3) := by decide +kernel
theorem dL_law_2418 : decode cL_law 2418 = .ok (.aload_n 2, 1) := by decide +kernel
theorem dL_law_2419 : decode cL_law 2419 = .ok (.invokevirtual 309, 3) := by decide +kernel
theorem dL_law_2422 : decode cL_law 2422 = .ok (.if_icmp .eq 464, 3) := by decide +kernel
theorem dL_law_2425 : decode cL_law 2425 = .ok (.iconst 0, 1) := by decide +kernel
theorem dL_law_2426 : decode cL_law 2426 = .ok (.ireturn, 1) := by decide +kernel
theorem dL_law_2427 : decode cL_law 2427 = .ok (.aload_n 1, 1) := by decide +kernel
theorem dL_law_2428 : decode cL_law 2428 = .ok (.aload_n 0, 1) := by decide +kernel
theorem dL_law_2429 : decode cL_law 2429 = .ok (.iload 5, 2) := by decide +kernel
theorem dL_law_2431 : decode cL_law 2431 = .ok (.iconst 1, 1) := by decide +kernel
theorem dL_law_2432 : decode cL_law 2432 = .ok (.iadd, 1) := by decide +kernel
theorem dL_law_2433 : decode cL_law 2433 = .ok (.iaload, 1) := by decide +kernel
theorem dL_law_2434 : decode cL_law 2434 = .ok (.aload_n 3, 1) := by decide +kernel
theorem dL_law_2435 : decode cL_law 2435 = .ok (.invokestatic 310, 3) := by decide +kernel
theorem dL_law_2438 : decode cL_law 2438 = .ok (.istore 6, 2) := by decide +kernel
theorem dL_law_2440 : decode cL_law 2440 = .ok (.aload_n 2, 1) := by decide +kernel
theorem dL_law_2441 : decode cL_law 2441 = .ok (.aload_n 0, 1) := by decide +kernel
theorem dL_law_2442 : decode cL_law 2442 = .ok (.iload 5, 2) := by decide +kernel
theorem dL_law_2444 : decode cL_law 2444 = .ok (.iconst 1, 1) := by decide +kernel
theorem dL_law_2445 : decode cL_law 2445 = .ok (.iadd, 1) := by decide +kernel
theorem dL_law_2446 : decode cL_law 2446 = .ok (.iaload, 1) := by decide +kernel
theorem dL_law_2447 : decode cL_law 2447 = .ok (.invokevirtual 312, 3) := by decide +kernel
theorem dL_law_2450 : decode cL_law 2450 = .ok (.istore 7, 2) := by decide +kernel
theorem dL_law_2452 : decode cL_law 2452 = .ok (.aload_n 2, 1) := by decide +kernel
theorem dL_law_2453 : decode cL_law 2453 = .ok (.invokevirtual 165, 3) := by decide +kernel
theorem dL_law_2456 : decode cL_law 2456 = .ok (.iload 6, 2) := by decide +kernel
theorem dL_law_2458 : decode cL_law 2458 = .ok (.if_icmp .eq 5, 3) := by decide +kernel
theorem dL_law_2461 : decode cL_law 2461 = .ok (.iconst 0, 1) := by decide +kernel
theorem dL_law_2462 : decode cL_law 2462 = .ok (.ireturn, 1) := by decide +kernel
theorem dL_law_2463 : decode cL_law 2463 = .ok (.iload 6, 2) := by decide +kernel
theorem dL_law_2465 : decode cL_law 2465 = .ok (.ifCond .ne 15, 3) := by decide +kernel
theorem dL_law_2468 : decode cL_law 2468 = .ok (.aload_n 3, 1) := by decide +kernel
theorem dL_law_2469 : decode cL_law 2469 = .ok (.iconst 0, 1) := by decide +kernel
theorem dL_law_2470 : decode cL_law 2470 = .ok (.laload, 1) := by decide +kernel
theorem dL_law_2471 : decode cL_law 2471 = .ok (.iload 7, 2) := by decide +kernel
theorem dL_law_2473 : decode cL_law 2473 = .ok (.i2l, 1) := by decide +kernel
theorem dL_law_2474 : decode cL_law 2474 = .ok (.lcmp, 1) := by decide +kernel
theorem dL_law_2475 : decode cL_law 2475 = .ok (.ifCond .eq 5, 3) := by decide +kernel
theorem dL_law_2478 : decode cL_law 2478 = .ok (.iconst 0, 1) := by decide +kernel
theorem dL_law_2479 : decode cL_law 2479 = .ok (.ireturn, 1) := by decide +kernel
theorem dL_law_2480 : decode cL_law 2480 = .ok (.goto 406, 3) := by decide +kernel
theorem dL_law_2483 : decode cL_law 2483 = .ok (.aload_n 1, 1) := by decide +kernel
theorem dL_law_2484 : decode cL_law 2484 = .ok (.aload_n 0, 1) := by decide +kernel
theorem dL_law_2485 : decode cL_law 2485 = .ok (.iload 5, 2) := by decide +kernel
theorem dL_law_2487 : decode cL_law 2487 = .ok (.iconst 1, 1) := by decide +kernel
theorem dL_law_2488 : decode cL_law 2488 = .ok (.iadd, 1) := by decide +kernel
theorem dL_law_2489 : decode cL_law 2489 = .ok (.iaload, 1) := by decide +kernel
theorem dL_law_2490 : decode cL_law 2490 = .ok (.aload_n 3, 1) := by decide +kernel
theorem dL_law_2491 : decode cL_law 2491 = .ok (.invokestatic 313, 3) := by decide +kernel
theorem dL_law_2494 : decode cL_law 2494 = .ok (.istore 6, 2) := by decide +kernel
theorem dL_law_2496 : decode cL_law 2496 = .ok (.aload_n 2, 1) := by decide +kernel
theorem dL_law_2497 : decode cL_law 2497 = .ok (.aload_n 0, 1) := by decide +kernel
theorem dL_law_2498 : decode cL_law 2498 = .ok (.iload 5, 2) := by decide +kernel
theorem dL_law_2500 : decode cL_law 2500 = .ok (.iconst 1, 1) := by decide +kernel
theorem dL_law_2501 : decode cL_law 2501 = .ok (.iadd, 1) := by decide +kernel
theorem dL_law_2502 : decode cL_law 2502 = .ok (.iaload, 1) := by decide +kernel
theorem dL_law_2503 : decode cL_law 2503 = .ok (.invokevirtual 315, 3) := by decide +kernel
theorem dL_law_2506 : decode cL_law 2506 = .ok (.istore 7, 2) := by decide +kernel
theorem dL_law_2508 : decode cL_law 2508 = .ok (.aload_n 2, 1) := by decide +kernel
theorem dL_law_2509 : decode cL_law 2509 = .ok (.invokevirtual 165, 3) := by decide +kernel
theorem dL_law_2512 : decode cL_law 2512 = .ok (.iload 6, 2) := by decide +kernel
theorem dL_law_2514 : decode cL_law 2514 = .ok (.if_icmp .eq 5, 3) := by decide +kernel
theorem dL_law_2517 : decode cL_law 2517 = .ok (.iconst 0, 1) := by decide +kernel
theorem dL_law_2518 : decode cL_law 2518 = .ok (.ireturn, 1) := by decide +kernel
theorem dL_law_2519 : decode cL_law 2519 = .ok (.iload 6, 2) := by decide +kernel
theorem dL_law_2521 : decode cL_law 2521 = .ok (.ifCond .ne 15, 3) := by decide +kernel
theorem dL_law_2524 : decode cL_law 2524 = .ok (.aload_n 3, 1) := by decide +kernel
theorem dL_law_2525 : decode cL_law 2525 = .ok (.iconst 0, 1) := by decide +kernel
theorem dL_law_2526 : decode cL_law 2526 = .ok (.laload, 1) := by decide +kernel
theorem dL_law_2527 : decode cL_law 2527 = .ok (.iload 7, 2) := by decide +kernel
theorem dL_law_2529 : decode cL_law 2529 = .ok (.i2l, 1) := by decide +kernel
theorem dL_law_2530 : decode cL_law 2530 = .ok (.lcmp, 1) := by decide +kernel
theorem dL_law_2531 : decode cL_law 2531 = .ok (.ifCond .eq 5, 3) := by decide +kernel
theorem dL_law_2534 : decode cL_law 2534 = .ok (.iconst 0, 1) := by decide +kernel
theorem dL_law_2535 : decode cL_law 2535 = .ok (.ireturn, 1) := by decide +kernel
theorem dL_law_2536 : decode cL_law 2536 = .ok (.goto 350, 3) := by decide +kernel
theorem dL_law_2539 : decode cL_law 2539 = .ok (.aload_n 1, 1) := by decide +kernel
theorem dL_law_2540 : decode cL_law 2540 = .ok (.aload_n 0, 1) := by decide +kernel
theorem dL_law_2541 : decode cL_law 2541 = .ok (.iload 5, 2) := by decide +kernel
theorem dL_law_2543 : decode cL_law 2543 = .ok (.iconst 1, 1) := by decide +kernel
theorem dL_law_2544 : decode cL_law 2544 = .ok (.iadd, 1) := by decide +kernel
theorem dL_law_2545 : decode cL_law 2545 = .ok (.iaload, 1) := by decide +kernel
theorem dL_law_2546 : decode cL_law 2546 = .ok (.aload_n 3, 1) := by decide +kernel
theorem dL_law_2547 : decode cL_law 2547 = .ok (.invokestatic 316, 3) := by decide +kernel
theorem dL_law_2550 : decode cL_law 2550 = .ok (.istore 6, 2) := by decide +kernel
theorem dL_law_2552 : decode cL_law 2552 = .ok (.aload_n 2, 1) := by decide +kernel
theorem dL_law_2553 : decode cL_law 2553 = .ok (.aload_n 0, 1) := by decide +kernel
theorem dL_law_2554 : decode cL_law 2554 = .ok (.iload 5, 2) := by decide +kernel
theorem dL_law_2556 : decode cL_law 2556 = .ok (.iconst 1, 1) := by decide +kernel
theorem dL_law_2557 : decode cL_law 2557 = .ok (.iadd, 1) := by decide +kernel
theorem dL_law_2558 : decode cL_law 2558 = .ok (.iaload, 1) := by decide +kernel
theorem dL_law_2559 : decode cL_law 2559 = .ok (.invokevirtual 318, 3) := by decide +kernel
theorem dL_law_2562 : decode cL_law 2562 = .ok (.istore 7, 2) := by decide +kernel
theorem dL_law_2564 : decode cL_law 2564 = .ok (.aload_n 2, 1) := by decide +kernel
theorem dL_law_2565 : decode cL_law 2565 = .ok (.invokevirtual 165, 3) := by decide +kernel
theorem dL_law_2568 : decode cL_law 2568 = .ok (.iload 6, 2) := by decide +kernel
theorem dL_law_2570 : decode cL_law 2570 = .ok (.if_icmp .eq 5, 3) := by decide +kernel
theorem dL_law_2573 : decode cL_law 2573 = .ok (.iconst 0, 1) := by decide +kernel
theorem dL_law_2574 : decode cL_law 2574 = .ok (.ireturn, 1) := by decide +kernel
theorem dL_law_2575 : decode cL_law 2575 = .ok (.iload 6, 2) := by decide +kernel
theorem dL_law_2577 : decode cL_law 2577 = .ok (.ifCond .ne 15, 3) := by decide +kernel
theorem dL_law_2580 : decode cL_law 2580 = .ok (.aload_n 3, 1) := by decide +kernel
theorem dL_law_2581 : decode cL_law 2581 = .ok (.iconst 0, 1) := by decide +kernel
theorem dL_law_2582 : decode cL_law 2582 = .ok (.laload, 1) := by decide +kernel
theorem dL_law_2583 : decode cL_law 2583 = .ok (.iload 7, 2) := by decide +kernel
theorem dL_law_2585 : decode cL_law 2585 = .ok (.i2l, 1) := by decide +kernel
theorem dL_law_2586 : decode cL_law 2586 = .ok (.lcmp, 1) := by decide +kernel
theorem dL_law_2587 : decode cL_law 2587 = .ok (.ifCond .eq 5, 3) := by decide +kernel
theorem dL_law_2590 : decode cL_law 2590 = .ok (.iconst 0, 1) := by decide +kernel
theorem dL_law_2591 : decode cL_law 2591 = .ok (.ireturn, 1) := by decide +kernel
theorem dL_law_2592 : decode cL_law 2592 = .ok (.goto 294, 3) := by decide +kernel
theorem dL_law_2595 : decode cL_law 2595 = .ok (.aload_n 1, 1) := by decide +kernel
theorem dL_law_2596 : decode cL_law 2596 = .ok (.aload_n 0, 1) := by decide +kernel
theorem dL_law_2597 : decode cL_law 2597 = .ok (.iload 5, 2) := by decide +kernel
theorem dL_law_2599 : decode cL_law 2599 = .ok (.iconst 1, 1) := by decide +kernel
theorem dL_law_2600 : decode cL_law 2600 = .ok (.iadd, 1) := by decide +kernel
theorem dL_law_2601 : decode cL_law 2601 = .ok (.iaload, 1) := by decide +kernel
theorem dL_law_2602 : decode cL_law 2602 = .ok (.i2c, 1) := by decide +kernel
theorem dL_law_2603 : decode cL_law 2603 = .ok (.aload_n 3, 1) := by decide +kernel
theorem dL_law_2604 : decode cL_law 2604 = .ok (.invokestatic 319, 3) := by decide +kernel
theorem dL_law_2607 : decode cL_law 2607 = .ok (.istore 6, 2) := by decide +kernel
theorem dL_law_2609 : decode cL_law 2609 = .ok (.aload_n 2, 1) := by decide +kernel
theorem dL_law_2610 : decode cL_law 2610 = .ok (.aload_n 0, 1) := by decide +kernel
theorem dL_law_2611 : decode cL_law 2611 = .ok (.iload 5, 2) := by decide +kernel
theorem dL_law_2613 : decode cL_law 2613 = .ok (.iconst 1, 1) := by decide +kernel
theorem dL_law_2614 : decode cL_law 2614 = .ok (.iadd, 1) := by decide +kernel
theorem dL_law_2615 : decode cL_law 2615 = .ok (.iaload, 1) := by decide +kernel
theorem dL_law_2616 : decode cL_law 2616 = .ok (.i2c, 1) := by decide +kernel
theorem dL_law_2617 : decode cL_law 2617 = .ok (.invokevirtual 322, 3) := by decide +kernel
theorem dL_law_2620 : decode cL_law 2620 = .ok (.istore 7, 2) := by decide +kernel
theorem dL_law_2622 : decode cL_law 2622 = .ok (.aload_n 2, 1) := by decide +kernel
theorem dL_law_2623 : decode cL_law 2623 = .ok (.invokevirtual 165, 3) := by decide +kernel
theorem dL_law_2626 : decode cL_law 2626 = .ok (.iload 6, 2) := by decide +kernel
theorem dL_law_2628 : decode cL_law 2628 = .ok (.if_icmp .eq 5, 3) := by decide +kernel
theorem dL_law_2631 : decode cL_law 2631 = .ok (.iconst 0, 1) := by decide +kernel
theorem dL_law_2632 : decode cL_law 2632 = .ok (.ireturn, 1) := by decide +kernel
theorem dL_law_2633 : decode cL_law 2633 = .ok (.iload 6, 2) := by decide +kernel
theorem dL_law_2635 : decode cL_law 2635 = .ok (.ifCond .ne 15, 3) := by decide +kernel
theorem dL_law_2638 : decode cL_law 2638 = .ok (.aload_n 3, 1) := by decide +kernel
theorem dL_law_2639 : decode cL_law 2639 = .ok (.iconst 0, 1) := by decide +kernel
theorem dL_law_2640 : decode cL_law 2640 = .ok (.laload, 1) := by decide +kernel
theorem dL_law_2641 : decode cL_law 2641 = .ok (.iload 7, 2) := by decide +kernel
theorem dL_law_2643 : decode cL_law 2643 = .ok (.i2l, 1) := by decide +kernel
theorem dL_law_2644 : decode cL_law 2644 = .ok (.lcmp, 1) := by decide +kernel
theorem dL_law_2645 : decode cL_law 2645 = .ok (.ifCond .eq 5, 3) := by decide +kernel
theorem dL_law_2648 : decode cL_law 2648 = .ok (.iconst 0, 1) := by decide +kernel
theorem dL_law_2649 : decode cL_law 2649 = .ok (.ireturn, 1) := by decide +kernel
theorem dL_law_2650 : decode cL_law 2650 = .ok (.goto 236, 3) := by decide +kernel
theorem dL_law_2653 : decode cL_law 2653 = .ok (.aload_n 1, 1) := by decide +kernel
theorem dL_law_2654 : decode cL_law 2654 = .ok (.aload_n 3, 1) := by decide +kernel
theorem dL_law_2655 : decode cL_law 2655 = .ok (.invokestatic 323, 3) := by decide +kernel
theorem dL_law_2658 : decode cL_law 2658 = .ok (.istore 6, 2) := by decide +kernel
theorem dL_law_2660 : decode cL_law 2660 = .ok (.aload_n 2, 1) := by decide +kernel
theorem dL_law_2661 : decode cL_law 2661 = .ok (.invokevirtual 326, 3) := by decide +kernel
theorem dL_law_2664 : decode cL_law 2664 = .ok (.istore 7, 2) := by decide +kernel
theorem dL_law_2666 : decode cL_law 2666 = .ok (.aload_n 2, 1) := by decide +kernel
theorem dL_law_2667 : decode cL_law 2667 = .ok (.invokevirtual 165, 3) := by decide +kernel
theorem dL_law_2670 : decode cL_law 2670 = .ok (.iload 6, 2) := by decide +kernel
theorem dL_law_2672 : decode cL_law 2672 = .ok (.if_icmp .eq 5, 3) := by decide +kernel
theorem dL_law_2675 : decode cL_law 2675 = .ok (.iconst 0, 1) := by decide +kernel
theorem dL_law_2676 : decode cL_law 2676 = .ok (.ireturn, 1) := by decide +kernel
theorem dL_law_2677 : decode cL_law 2677 = .ok (.iload 6, 2) := by decide +kernel
theorem dL_law_2679 : decode cL_law 2679 = .ok (.ifCond .ne 15, 3) := by decide +kernel
theorem dL_law_2682 : decode cL_law 2682 = .ok (.aload_n 3, 1) := by decide +kernel
theorem dL_law_2683 : decode cL_law 2683 = .ok (.iconst 0, 1) := by decide +kernel
theorem dL_law_2684 : decode cL_law 2684 = .ok (.laload, 1) := by decide +kernel
theorem dL_law_2685 : decode cL_law 2685 = .ok (.iload 7, 2) := by decide +kernel
theorem dL_law_2687 : decode cL_law 2687 = .ok (.i2l, 1) := by decide +kernel
theorem dL_law_2688 : decode cL_law 2688 = .ok (.lcmp, 1) := by decide +kernel
theorem dL_law_2689 : decode cL_law 2689 = .ok (.ifCond .eq 5, 3) := by decide +kernel
theorem dL_law_2692 : decode cL_law 2692 = .ok (.iconst 0, 1) := by decide +kernel
theorem dL_law_2693 : decode cL_law 2693 = .ok (.ireturn, 1) := by decide +kernel
theorem dL_law_2694 : decode cL_law 2694 = .ok (.goto 192, 3) := by decide +kernel
theorem dL_law_2697 : decode cL_law 2697 = .ok (.aload_n 1, 1) := by decide +kernel
theorem dL_law_2698 : decode cL_law 2698 = .ok (.aload_n 3, 1) := by decide +kernel
theorem dL_law_2699 : decode cL_law 2699 = .ok (.invokestatic 327, 3) := by decide +kernel
theorem dL_law_2702 : decode cL_law 2702 = .ok (.istore 6, 2) := by decide +kernel
theorem dL_law_2704 : decode cL_law 2704 = .ok (.aload_n 2, 1) := by decide +kernel
theorem dL_law_2705 : decode cL_law 2705 = .ok (.invokevirtual 329, 3) := by decide +kernel
theorem dL_law_2708 : decode cL_law 2708 = .ok (.istore 7, 2) := by decide +kernel
theorem dL_law_2710 : decode cL_law 2710 = .ok (.aload_n 2, 1) := by decide +kernel
theorem dL_law_2711 : decode cL_law 2711 = .ok (.invokevirtual 165, 3) := by decide +kernel
theorem dL_law_2714 : decode cL_law 2714 = .ok (.iload 6, 2) := by decide +kernel
theorem dL_law_2716 : decode cL_law 2716 = .ok (.if_icmp .eq 5, 3) := by decide +kernel
theorem dL_law_2719 : decode cL_law 2719 = .ok (.iconst 0, 1) := by decide +kernel
theorem dL_law_2720 : decode cL_law 2720 = .ok (.ireturn, 1) := by decide +kernel
theorem dL_law_2721 : decode cL_law 2721 = .ok (.iload 6, 2) := by decide +kernel
theorem dL_law_2723 : decode cL_law 2723 = .ok (.ifCond .ne 15, 3) := by decide +kernel
theorem dL_law_2726 : decode cL_law 2726 = .ok (.aload_n 3, 1) := by decide +kernel
theorem dL_law_2727 : decode cL_law 2727 = .ok (.iconst 0, 1) := by decide +kernel
theorem dL_law_2728 : decode cL_law 2728 = .ok (.laload, 1) := by decide +kernel
theorem dL_law_2729 : decode cL_law 2729 = .ok (.iload 7, 2) := by decide +kernel
theorem dL_law_2731 : decode cL_law 2731 = .ok (.i2l, 1) := by decide +kernel
theorem dL_law_2732 : decode cL_law 2732 = .ok (.lcmp, 1) := by decide +kernel
theorem dL_law_2733 : decode cL_law 2733 = .ok (.ifCond .eq 5, 3) := by decide +kernel
theorem dL_law_2736 : decode cL_law 2736 = .ok (.iconst 0, 1) := by decide +kernel
theorem dL_law_2737 : decode cL_law 2737 = .ok (.ireturn, 1) := by decide +kernel
theorem dL_law_2738 : decode cL_law 2738 = .ok (.goto 148, 3) := by decide +kernel
theorem dL_law_2741 : decode cL_law 2741 = .ok (.aload_n 1, 1) := by decide +kernel
theorem dL_law_2742 : decode cL_law 2742 = .ok (.aload_n 3, 1) := by decide +kernel
theorem dL_law_2743 : decode cL_law 2743 = .ok (.invokestatic 330, 3) := by decide +kernel
theorem dL_law_2746 : decode cL_law 2746 = .ok (.istore 6, 2) := by decide +kernel
theorem dL_law_2748 : decode cL_law 2748 = .ok (.aload_n 2, 1) := by decide +kernel
theorem dL_law_2749 : decode cL_law 2749 = .ok (.invokevirtual 332, 3) := by decide +kernel
theorem dL_law_2752 : decode cL_law 2752 = .ok (.istore 7, 2) := by decide +kernel
theorem dL_law_2754 : decode cL_law 2754 = .ok (.aload_n 2, 1) := by decide +kernel
theorem dL_law_2755 : decode cL_law 2755 = .ok (.invokevirtual 165, 3) := by decide +kernel
theorem dL_law_2758 : decode cL_law 2758 = .ok (.iload 6, 2) := by decide +kernel
theorem dL_law_2760 : decode cL_law 2760 = .ok (.if_icmp .eq 5, 3) := by decide +kernel
theorem dL_law_2763 : decode cL_law 2763 = .ok (.iconst 0, 1) := by decide +kernel
theorem dL_law_2764 : decode cL_law 2764 = .ok (.ireturn, 1) := by decide +kernel
theorem dL_law_2765 : decode cL_law 2765 = .ok (.iload 6, 2) := by decide +kernel
theorem dL_law_2767 : decode cL_law 2767 = .ok (.ifCond .ne 15, 3) := by decide +kernel
theorem dL_law_2770 : decode cL_law 2770 = .ok (.aload_n 3, 1) := by decide +kernel
theorem dL_law_2771 : decode cL_law 2771 = .ok (.iconst 0, 1) := by decide +kernel
theorem dL_law_2772 : decode cL_law 2772 = .ok (.laload, 1) := by decide +kernel
theorem dL_law_2773 : decode cL_law 2773 = .ok (.iload 7, 2) := by decide +kernel
theorem dL_law_2775 : decode cL_law 2775 = .ok (.i2l, 1) := by decide +kernel
theorem dL_law_2776 : decode cL_law 2776 = .ok (.lcmp, 1) := by decide +kernel
theorem dL_law_2777 : decode cL_law 2777 = .ok (.ifCond .eq 5, 3) := by decide +kernel
theorem dL_law_2780 : decode cL_law 2780 = .ok (.iconst 0, 1) := by decide +kernel
theorem dL_law_2781 : decode cL_law 2781 = .ok (.ireturn, 1) := by decide +kernel
theorem dL_law_2782 : decode cL_law 2782 = .ok (.goto 104, 3) := by decide +kernel
theorem dL_law_2785 : decode cL_law 2785 = .ok (.aload_n 1, 1) := by decide +kernel
theorem dL_law_2786 : decode cL_law 2786 = .ok (.aload_n 3, 1) := by decide +kernel
theorem dL_law_2787 : decode cL_law 2787 = .ok (.invokestatic 333, 3) := by decide +kernel
theorem dL_law_2790 : decode cL_law 2790 = .ok (.istore 6, 2) := by decide +kernel
theorem dL_law_2792 : decode cL_law 2792 = .ok (.aload_n 2, 1) := by decide +kernel
theorem dL_law_2793 : decode cL_law 2793 = .ok (.invokevirtual 335, 3) := by decide +kernel
theorem dL_law_2796 : decode cL_law 2796 = .ok (.istore 7, 2) := by decide +kernel
theorem dL_law_2798 : decode cL_law 2798 = .ok (.aload_n 2, 1) := by decide +kernel
theorem dL_law_2799 : decode cL_law 2799 = .ok (.invokevirtual 165, 3) := by decide +kernel
theorem dL_law_2802 : decode cL_law 2802 = .ok (.iload 6, 2) := by decide +kernel
theorem dL_law_2804 : decode cL_law 2804 = .ok (.if_icmp .eq 5, 3) := by decide +kernel
theorem dL_law_2807 : decode cL_law 2807 = .ok (.iconst 0, 1) := by decide +kernel
theorem dL_law_2808 : decode cL_law 2808 = .ok (.ireturn, 1) := by decide +kernel
theorem dL_law_2809 : decode cL_law 2809 = .ok (.iload 6, 2) := by decide +kernel
theorem dL_law_2811 : decode cL_law 2811 = .ok (.ifCond .ne 15, 3) := by decide +kernel
theorem dL_law_2814 : decode cL_law 2814 = .ok (.aload_n 3, 1) := by decide +kernel
theorem dL_law_2815 : decode cL_law 2815 = .ok (.iconst 0, 1) := by decide +kernel
theorem dL_law_2816 : decode cL_law 2816 = .ok (.laload, 1) := by decide +kernel
theorem dL_law_2817 : decode cL_law 2817 = .ok (.iload 7, 2) := by decide +kernel
theorem dL_law_2819 : decode cL_law 2819 = .ok (.i2l, 1) := by decide +kernel
theorem dL_law_2820 : decode cL_law 2820 = .ok (.lcmp, 1) := by decide +kernel
theorem dL_law_2821 : decode cL_law 2821 = .ok (.ifCond .eq 5, 3) := by decide +kernel
theorem dL_law_2824 : decode cL_law 2824 = .ok (.iconst 0, 1) := by decide +kernel
theorem dL_law_2825 : decode cL_law 2825 = .ok (.ireturn, 1) := by decide +kernel
theorem dL_law_2826 : decode cL_law 2826 = .ok (.goto 60, 3) := by decide +kernel
theorem dL_law_2829 : decode cL_law 2829 = .ok (.aload_n 1, 1) := by decide +kernel
theorem dL_law_2830 : decode cL_law 2830 = .ok (.invokevirtual 336, 3) := by decide +kernel
theorem dL_law_2833 : decode cL_law 2833 = .ok (.aload_n 2, 1) := by decide +kernel
theorem dL_law_2834 : decode cL_law 2834 = .ok (.invokevirtual 339, 3) := by decide +kernel
theorem dL_law_2837 : decode cL_law 2837 = .ok (.if_icmp .eq 49, 3) := by decide +kernel
theorem dL_law_2840 : decode cL_law 2840 = .ok (.iconst 0, 1) := by decide +kernel
theorem dL_law_2841 : decode cL_law 2841 = .ok (.ireturn, 1) := by decide +kernel
theorem dL_law_2842 : decode cL_law 2842 = .ok (.aload_n 1, 1) := by decide +kernel
theorem dL_law_2843 : decode cL_law 2843 = .ok (.aload_n 3, 1) := by decide +kernel
theorem dL_law_2844 : decode cL_law 2844 = .ok (.invokestatic 340, 3) := by decide +kernel
theorem dL_law_2847 : decode cL_law 2847 = .ok (.istore 6, 2) := by decide +kernel
theorem dL_law_2849 : decode cL_law 2849 = .ok (.aload_n 2, 1) := by decide +kernel
theorem dL_law_2850 : decode cL_law 2850 = .ok (.invokevirtual 342, 3) := by decide +kernel
theorem dL_law_2853 : decode cL_law 2853 = .ok (.istore 7, 2) := by decide +kernel
theorem dL_law_2855 : decode cL_law 2855 = .ok (.aload_n 2, 1) := by decide +kernel
theorem dL_law_2856 : decode cL_law 2856 = .ok (.invokevirtual 165, 3) := by decide +kernel
theorem dL_law_2859 : decode cL_law 2859 = .ok (.iload 6, 2) := by decide +kernel
theorem dL_law_2861 : decode cL_law 2861 = .ok (.if_icmp .eq 5, 3) := by decide +kernel
theorem dL_law_2864 : decode cL_law 2864 = .ok (.iconst 0, 1) := by decide +kernel
theorem dL_law_2865 : decode cL_law 2865 = .ok (.ireturn, 1) := by decide +kernel
theorem dL_law_2866 : decode cL_law 2866 = .ok (.iload 6, 2) := by decide +kernel
theorem dL_law_2868 : decode cL_law 2868 = .ok (.ifCond .ne 15, 3) := by decide +kernel
theorem dL_law_2871 : decode cL_law 2871 = .ok (.aload_n 3, 1) := by decide +kernel
theorem dL_law_2872 : decode cL_law 2872 = .ok (.iconst 0, 1) := by decide +kernel
theorem dL_law_2873 : decode cL_law 2873 = .ok (.laload, 1) := by decide +kernel
theorem dL_law_2874 : decode cL_law 2874 = .ok (.iload 7, 2) := by decide +kernel
theorem dL_law_2876 : decode cL_law 2876 = .ok (.i2l, 1) := by decide +kernel
theorem dL_law_2877 : decode cL_law 2877 = .ok (.lcmp, 1) := by decide +kernel
theorem dL_law_2878 : decode cL_law 2878 = .ok (.ifCond .eq 5, 3) := by decide +kernel
theorem dL_law_2881 : decode cL_law 2881 = .ok (.iconst 0, 1) := by decide +kernel
theorem dL_law_2882 : decode cL_law 2882 = .ok (.ireturn, 1) := by decide +kernel
theorem dL_law_2883 : decode cL_law 2883 = .ok (.goto 3, 3) := by decide +kernel
theorem dL_law_2886 : decode cL_law 2886 = .ok (.iinc 5 6, 3) := by decide +kernel
theorem dL_law_2889 : decode cL_law 2889 = .ok (.goto (-2861), 3) := by decide +kernel
theorem dL_law_2892 : decode cL_law 2892 = .ok (.iconst 1, 1) := by decide +kernel
theorem dL_law_2893 : decode cL_law 2893 = .ok (.ireturn, 1) := by decide +kernel
