def dt203_L_law : List (Nat × Instr × Nat) := [(2159, (.if_icmp .ne 7, 3)), (2166, (.iconst 0, 1)), (2162, (.iconst 1, 1)), (2163, (.goto 4, 3)), (2122, (.istore 32, 2)), (2124, (.iinc 33 1, 3)), (2127, (.goto (-129), 3)), (2121, (.iconst 0, 1)), (2117, (.iconst 1, 1)), (2118, (.goto 4, 3)), (2084, (.lor, 1)), (2085, (.lstore 30, 2)), (2087, (.iload 32, 2)), (2089, (.ifCond .eq 32, 3)), (2092, (.iload 34, 2)), (2094, (.ifCond .eq 23, 3)), (2097, (.lload 25, 2)), (2099, (.iload 33, 2)), (2101, (.invokestatic 29, 3)), (2104, (.aload 12, 2)), (2106, (.iload 28, 2)), (2108, (.laload, 1)), (2109, (.iload 33, 2)), (2111, (.invokestatic 29, 3)), (2114, (.if_icmp .ne 7, 3)), (2052, (.ior, 1)), (2053, (.istore 29, 2)), (2055, (.lload 30, 2)), (2057, (.iload 34, 2)), (2059, (.ifCond .eq 24, 3)), (2083, (.lconst 0, 1)), (2062, (.aload 12, 2)), (2064, (.iload 28, 2)), (2066, (.iconst 1, 1)), (2067, (.isub, 1)), (2068, (.laload, 1)), (2069, (.iload 33, 2)), (2071, (.invokestatic 29, 3)), (2074, (.i2l, 1)), (2075, (.iconst 4, 1)), (2076, (.iload 33, 2)), (2078, (.imul, 1)), (2079, (.lshl, 1)), (2080, (.goto 4, 3)), (2035, (.istore 34, 2)), (2037, (.iload 29, 2)), (2039, (.iload 34, 2)), (2041, (.ifCond .eq 10, 3)), (2051, (.iconst 0, 1)), (2044, (.iconst 1, 1)), (2045, (.iload 33, 2)), (2047, (.ishl, 1)), (2048, (.goto 4, 3)), (1998, (.iload 33, 2)), (2000, (.bipush 12, 2)), (2002, (.if_icmp .ge 128, 3)), (2130, (.aload_n 1, 1)), (2131, (.bipush 6, 2)), (2133, (.iload 28, 2)), (2135, (.iload 24, 2))]
theorem dt203_L_law_ok : ∀ q ∈ dt203_L_law, decode cL_law q.1 = .ok q.2 := by decide +kernel
theorem dL_law_2159 : decode cL_law 2159 = .ok (.if_icmp .ne 7, 3) := g_dec dt203_L_law_ok (k := 0) rfl
theorem dL_law_2166 : decode cL_law 2166 = .ok (.iconst 0, 1) := g_dec dt203_L_law_ok (k := 1) rfl
theorem dL_law_2162 : decode cL_law 2162 = .ok (.iconst 1, 1) := g_dec dt203_L_law_ok (k := 2) rfl
theorem dL_law_2163 : decode cL_law 2163 = .ok (.goto 4, 3) := g_dec dt203_L_law_ok (k := 3) rfl
theorem dL_law_2122 : decode cL_law 2122 = .ok (.istore 32, 2) := g_dec dt203_L_law_ok (k := 4) rfl
theorem dL_law_2124 : decode cL_law 2124 = .ok (.iinc 33 1, 3) := g_dec dt203_L_law_ok (k := 5) rfl
theorem dL_law_2127 : decode cL_law 2127 = .ok (.goto (-129), 3) := g_dec dt203_L_law_ok (k := 6) rfl
theorem dL_law_2121 : decode cL_law 2121 = .ok (.iconst 0, 1) := g_dec dt203_L_law_ok (k := 7) rfl
theorem dL_law_2117 : decode cL_law 2117 = .ok (.iconst 1, 1) := g_dec dt203_L_law_ok (k := 8) rfl
theorem dL_law_2118 : decode cL_law 2118 = .ok (.goto 4, 3) := g_dec dt203_L_law_ok (k := 9) rfl
theorem dL_law_2084 : decode cL_law 2084 = .ok (.lor, 1) := g_dec dt203_L_law_ok (k := 10) rfl
theorem dL_law_2085 : decode cL_law 2085 = .ok (.lstore 30, 2) := g_dec dt203_L_law_ok (k := 11) rfl
theorem dL_law_2087 : decode cL_law 2087 = .ok (.iload 32, 2) := g_dec dt203_L_law_ok (k := 12) rfl
theorem dL_law_2089 : decode cL_law 2089 = .ok (.ifCond .eq 32, 3) := g_dec dt203_L_law_ok (k := 13) rfl
theorem dL_law_2092 : decode cL_law 2092 = .ok (.iload 34, 2) := g_dec dt203_L_law_ok (k := 14) rfl
theorem dL_law_2094 : decode cL_law 2094 = .ok (.ifCond .eq 23, 3) := g_dec dt203_L_law_ok (k := 15) rfl
theorem dL_law_2097 : decode cL_law 2097 = .ok (.lload 25, 2) := g_dec dt203_L_law_ok (k := 16) rfl
theorem dL_law_2099 : decode cL_law 2099 = .ok (.iload 33, 2) := g_dec dt203_L_law_ok (k := 17) rfl
theorem dL_law_2101 : decode cL_law 2101 = .ok (.invokestatic 29, 3) := g_dec dt203_L_law_ok (k := 18) rfl
theorem dL_law_2104 : decode cL_law 2104 = .ok (.aload 12, 2) := g_dec dt203_L_law_ok (k := 19) rfl
theorem dL_law_2106 : decode cL_law 2106 = .ok (.iload 28, 2) := g_dec dt203_L_law_ok (k := 20) rfl
theorem dL_law_2108 : decode cL_law 2108 = .ok (.laload, 1) := g_dec dt203_L_law_ok (k := 21) rfl
theorem dL_law_2109 : decode cL_law 2109 = .ok (.iload 33, 2) := g_dec dt203_L_law_ok (k := 22) rfl
theorem dL_law_2111 : decode cL_law 2111 = .ok (.invokestatic 29, 3) := g_dec dt203_L_law_ok (k := 23) rfl
theorem dL_law_2114 : decode cL_law 2114 = .ok (.if_icmp .ne 7, 3) := g_dec dt203_L_law_ok (k := 24) rfl
theorem dL_law_2052 : decode cL_law 2052 = .ok (.ior, 1) := g_dec dt203_L_law_ok (k := 25) rfl
theorem dL_law_2053 : decode cL_law 2053 = .ok (.istore 29, 2) := g_dec dt203_L_law_ok (k := 26) rfl
theorem dL_law_2055 : decode cL_law 2055 = .ok (.lload 30, 2) := g_dec dt203_L_law_ok (k := 27) rfl
theorem dL_law_2057 : decode cL_law 2057 = .ok (.iload 34, 2) := g_dec dt203_L_law_ok (k := 28) rfl
theorem dL_law_2059 : decode cL_law 2059 = .ok (.ifCond .eq 24, 3) := g_dec dt203_L_law_ok (k := 29) rfl
theorem dL_law_2083 : decode cL_law 2083 = .ok (.lconst 0, 1) := g_dec dt203_L_law_ok (k := 30) rfl
theorem dL_law_2062 : decode cL_law 2062 = .ok (.aload 12, 2) := g_dec dt203_L_law_ok (k := 31) rfl
theorem dL_law_2064 : decode cL_law 2064 = .ok (.iload 28, 2) := g_dec dt203_L_law_ok (k := 32) rfl
theorem dL_law_2066 : decode cL_law 2066 = .ok (.iconst 1, 1) := g_dec dt203_L_law_ok (k := 33) rfl
theorem dL_law_2067 : decode cL_law 2067 = .ok (.isub, 1) := g_dec dt203_L_law_ok (k := 34) rfl
theorem dL_law_2068 : decode cL_law 2068 = .ok (.laload, 1) := g_dec dt203_L_law_ok (k := 35) rfl
theorem dL_law_2069 : decode cL_law 2069 = .ok (.iload 33, 2) := g_dec dt203_L_law_ok (k := 36) rfl
theorem dL_law_2071 : decode cL_law 2071 = .ok (.invokestatic 29, 3) := g_dec dt203_L_law_ok (k := 37) rfl
theorem dL_law_2074 : decode cL_law 2074 = .ok (.i2l, 1) := g_dec dt203_L_law_ok (k := 38) rfl
theorem dL_law_2075 : decode cL_law 2075 = .ok (.iconst 4, 1) := g_dec dt203_L_law_ok (k := 39) rfl
theorem dL_law_2076 : decode cL_law 2076 = .ok (.iload 33, 2) := g_dec dt203_L_law_ok (k := 40) rfl
theorem dL_law_2078 : decode cL_law 2078 = .ok (.imul, 1) := g_dec dt203_L_law_ok (k := 41) rfl
theorem dL_law_2079 : decode cL_law 2079 = .ok (.lshl, 1) := g_dec dt203_L_law_ok (k := 42) rfl
theorem dL_law_2080 : decode cL_law 2080 = .ok (.goto 4, 3) := g_dec dt203_L_law_ok (k := 43) rfl
theorem dL_law_2035 : decode cL_law 2035 = .ok (.istore 34, 2) := g_dec dt203_L_law_ok (k := 44) rfl
theorem dL_law_2037 : decode cL_law 2037 = .ok (.iload 29, 2) := g_dec dt203_L_law_ok (k := 45) rfl
theorem dL_law_2039 : decode cL_law 2039 = .ok (.iload 34, 2) := g_dec dt203_L_law_ok (k := 46) rfl
theorem dL_law_2041 : decode cL_law 2041 = .ok (.ifCond .eq 10, 3) := g_dec dt203_L_law_ok (k := 47) rfl
theorem dL_law_2051 : decode cL_law 2051 = .ok (.iconst 0, 1) := g_dec dt203_L_law_ok (k := 48) rfl
theorem dL_law_2044 : decode cL_law 2044 = .ok (.iconst 1, 1) := g_dec dt203_L_law_ok (k := 49) rfl
theorem dL_law_2045 : decode cL_law 2045 = .ok (.iload 33, 2) := g_dec dt203_L_law_ok (k := 50) rfl
theorem dL_law_2047 : decode cL_law 2047 = .ok (.ishl, 1) := g_dec dt203_L_law_ok (k := 51) rfl
theorem dL_law_2048 : decode cL_law 2048 = .ok (.goto 4, 3) := g_dec dt203_L_law_ok (k := 52) rfl
theorem dL_law_1998 : decode cL_law 1998 = .ok (.iload 33, 2) := g_dec dt203_L_law_ok (k := 53) rfl
theorem dL_law_2000 : decode cL_law 2000 = .ok (.bipush 12, 2) := g_dec dt203_L_law_ok (k := 54) rfl
theorem dL_law_2002 : decode cL_law 2002 = .ok (.if_icmp .ge 128, 3) := g_dec dt203_L_law_ok (k := 55) rfl
theorem dL_law_2130 : decode cL_law 2130 = .ok (.aload_n 1, 1) := g_dec dt203_L_law_ok (k := 56) rfl
theorem dL_law_2131 : decode cL_law 2131 = .ok (.bipush 6, 2) := g_dec dt203_L_law_ok (k := 57) rfl
theorem dL_law_2133 : decode cL_law 2133 = .ok (.iload 28, 2) := g_dec dt203_L_law_ok (k := 58) rfl
theorem dL_law_2135 : decode cL_law 2135 = .ok (.iload 24, 2) := g_dec dt203_L_law_ok (k := 59) rfl
def dt204_L_law : List (Nat × Instr × Nat) := [(2137, (.iconst 5, 1)), (2138, (.idiv, 1)), (2139, (.bipush 8, 2)), (2141, (.irem, 1)), (2142, (.iconst 0, 1)), (2143, (.invokestatic 161, 3)), (2146, (.iload 32, 2)), (2148, (.ifCond .eq 9, 3)), (2157, (.bipush (-13), 2)), (2151, (.aload_n 2, 1)), (2152, (.iconst 0, 1)), (2153, (.iaload, 1)), (2154, (.goto 5, 3)), (2005, (.aload 12, 2)), (2007, (.iload 28, 2)), (2009, (.laload, 1)), (2010, (.iload 33, 2)), (2012, (.invokestatic 29, 3)), (2015, (.aload 12, 2)), (2017, (.iload 28, 2)), (2019, (.iconst 1, 1)), (2020, (.isub, 1)), (2021, (.laload, 1)), (2022, (.iload 33, 2)), (2024, (.invokestatic 29, 3)), (2027, (.if_icmp .eq 7, 3)), (2034, (.iconst 0, 1)), (2030, (.iconst 1, 1)), (2031, (.goto 4, 3)), (1931, (.istore 20, 2)), (1933, (.aload 19, 2)), (1935, (.iconst 3, 1)), (1936, (.iload 28, 2)), (1938, (.iadd, 1)), (1939, (.iconst 1, 1)), (1940, (.iload 24, 2)), (1942, (.iconst 3, 1)), (1943, (.idiv, 1)), (1944, (.bipush 10, 2)), (1946, (.irem, 1)), (1947, (.iadd, 1)), (1948, (.iastore, 1)), (1949, (.goto 749, 3)), (1884, (.iastore, 1)), (1885, (.goto 813, 3)), (1855, (.iastore, 1)), (1856, (.aload 17, 2)), (1858, (.bipush 6, 2)), (1860, (.iload 28, 2)), (1862, (.imul, 1)), (1863, (.iconst 3, 1)), (1864, (.iadd, 1)), (1865, (.iload 29, 2)), (1867, (.ifCond .eq 16, 3)), (1883, (.iconst (-1), 1)), (1870, (.aload 17, 2)), (1872, (.bipush 6, 2)), (1874, (.iload 28, 2)), (1876, (.imul, 1)), (1877, (.iconst 3, 1))]
theorem dt204_L_law_ok : ∀ q ∈ dt204_L_law, decode cL_law q.1 = .ok q.2 := by decide +kernel
theorem dL_law_2137 : decode cL_law 2137 = .ok (.iconst 5, 1) := g_dec dt204_L_law_ok (k := 0) rfl
theorem dL_law_2138 : decode cL_law 2138 = .ok (.idiv, 1) := g_dec dt204_L_law_ok (k := 1) rfl
theorem dL_law_2139 : decode cL_law 2139 = .ok (.bipush 8, 2) := g_dec dt204_L_law_ok (k := 2) rfl
theorem dL_law_2141 : decode cL_law 2141 = .ok (.irem, 1) := g_dec dt204_L_law_ok (k := 3) rfl
theorem dL_law_2142 : decode cL_law 2142 = .ok (.iconst 0, 1) := g_dec dt204_L_law_ok (k := 4) rfl
theorem dL_law_2143 : decode cL_law 2143 = .ok (.invokestatic 161, 3) := g_dec dt204_L_law_ok (k := 5) rfl
theorem dL_law_2146 : decode cL_law 2146 = .ok (.iload 32, 2) := g_dec dt204_L_law_ok (k := 6) rfl
theorem dL_law_2148 : decode cL_law 2148 = .ok (.ifCond .eq 9, 3) := g_dec dt204_L_law_ok (k := 7) rfl
theorem dL_law_2157 : decode cL_law 2157 = .ok (.bipush (-13), 2) := g_dec dt204_L_law_ok (k := 8) rfl
theorem dL_law_2151 : decode cL_law 2151 = .ok (.aload_n 2, 1) := g_dec dt204_L_law_ok (k := 9) rfl
theorem dL_law_2152 : decode cL_law 2152 = .ok (.iconst 0, 1) := g_dec dt204_L_law_ok (k := 10) rfl
theorem dL_law_2153 : decode cL_law 2153 = .ok (.iaload, 1) := g_dec dt204_L_law_ok (k := 11) rfl
theorem dL_law_2154 : decode cL_law 2154 = .ok (.goto 5, 3) := g_dec dt204_L_law_ok (k := 12) rfl
theorem dL_law_2005 : decode cL_law 2005 = .ok (.aload 12, 2) := g_dec dt204_L_law_ok (k := 13) rfl
theorem dL_law_2007 : decode cL_law 2007 = .ok (.iload 28, 2) := g_dec dt204_L_law_ok (k := 14) rfl
theorem dL_law_2009 : decode cL_law 2009 = .ok (.laload, 1) := g_dec dt204_L_law_ok (k := 15) rfl
theorem dL_law_2010 : decode cL_law 2010 = .ok (.iload 33, 2) := g_dec dt204_L_law_ok (k := 16) rfl
theorem dL_law_2012 : decode cL_law 2012 = .ok (.invokestatic 29, 3) := g_dec dt204_L_law_ok (k := 17) rfl
theorem dL_law_2015 : decode cL_law 2015 = .ok (.aload 12, 2) := g_dec dt204_L_law_ok (k := 18) rfl
theorem dL_law_2017 : decode cL_law 2017 = .ok (.iload 28, 2) := g_dec dt204_L_law_ok (k := 19) rfl
theorem dL_law_2019 : decode cL_law 2019 = .ok (.iconst 1, 1) := g_dec dt204_L_law_ok (k := 20) rfl
theorem dL_law_2020 : decode cL_law 2020 = .ok (.isub, 1) := g_dec dt204_L_law_ok (k := 21) rfl
theorem dL_law_2021 : decode cL_law 2021 = .ok (.laload, 1) := g_dec dt204_L_law_ok (k := 22) rfl
theorem dL_law_2022 : decode cL_law 2022 = .ok (.iload 33, 2) := g_dec dt204_L_law_ok (k := 23) rfl
theorem dL_law_2024 : decode cL_law 2024 = .ok (.invokestatic 29, 3) := g_dec dt204_L_law_ok (k := 24) rfl
theorem dL_law_2027 : decode cL_law 2027 = .ok (.if_icmp .eq 7, 3) := g_dec dt204_L_law_ok (k := 25) rfl
theorem dL_law_2034 : decode cL_law 2034 = .ok (.iconst 0, 1) := g_dec dt204_L_law_ok (k := 26) rfl
theorem dL_law_2030 : decode cL_law 2030 = .ok (.iconst 1, 1) := g_dec dt204_L_law_ok (k := 27) rfl
theorem dL_law_2031 : decode cL_law 2031 = .ok (.goto 4, 3) := g_dec dt204_L_law_ok (k := 28) rfl
theorem dL_law_1931 : decode cL_law 1931 = .ok (.istore 20, 2) := g_dec dt204_L_law_ok (k := 29) rfl
theorem dL_law_1933 : decode cL_law 1933 = .ok (.aload 19, 2) := g_dec dt204_L_law_ok (k := 30) rfl
theorem dL_law_1935 : decode cL_law 1935 = .ok (.iconst 3, 1) := g_dec dt204_L_law_ok (k := 31) rfl
theorem dL_law_1936 : decode cL_law 1936 = .ok (.iload 28, 2) := g_dec dt204_L_law_ok (k := 32) rfl
theorem dL_law_1938 : decode cL_law 1938 = .ok (.iadd, 1) := g_dec dt204_L_law_ok (k := 33) rfl
theorem dL_law_1939 : decode cL_law 1939 = .ok (.iconst 1, 1) := g_dec dt204_L_law_ok (k := 34) rfl
theorem dL_law_1940 : decode cL_law 1940 = .ok (.iload 24, 2) := g_dec dt204_L_law_ok (k := 35) rfl
theorem dL_law_1942 : decode cL_law 1942 = .ok (.iconst 3, 1) := g_dec dt204_L_law_ok (k := 36) rfl
theorem dL_law_1943 : decode cL_law 1943 = .ok (.idiv, 1) := g_dec dt204_L_law_ok (k := 37) rfl
theorem dL_law_1944 : decode cL_law 1944 = .ok (.bipush 10, 2) := g_dec dt204_L_law_ok (k := 38) rfl
theorem dL_law_1946 : decode cL_law 1946 = .ok (.irem, 1) := g_dec dt204_L_law_ok (k := 39) rfl
theorem dL_law_1947 : decode cL_law 1947 = .ok (.iadd, 1) := g_dec dt204_L_law_ok (k := 40) rfl
theorem dL_law_1948 : decode cL_law 1948 = .ok (.iastore, 1) := g_dec dt204_L_law_ok (k := 41) rfl
theorem dL_law_1949 : decode cL_law 1949 = .ok (.goto 749, 3) := g_dec dt204_L_law_ok (k := 42) rfl
theorem dL_law_1884 : decode cL_law 1884 = .ok (.iastore, 1) := g_dec dt204_L_law_ok (k := 43) rfl
theorem dL_law_1885 : decode cL_law 1885 = .ok (.goto 813, 3) := g_dec dt204_L_law_ok (k := 44) rfl
theorem dL_law_1855 : decode cL_law 1855 = .ok (.iastore, 1) := g_dec dt204_L_law_ok (k := 45) rfl
theorem dL_law_1856 : decode cL_law 1856 = .ok (.aload 17, 2) := g_dec dt204_L_law_ok (k := 46) rfl
theorem dL_law_1858 : decode cL_law 1858 = .ok (.bipush 6, 2) := g_dec dt204_L_law_ok (k := 47) rfl
theorem dL_law_1860 : decode cL_law 1860 = .ok (.iload 28, 2) := g_dec dt204_L_law_ok (k := 48) rfl
theorem dL_law_1862 : decode cL_law 1862 = .ok (.imul, 1) := g_dec dt204_L_law_ok (k := 49) rfl
theorem dL_law_1863 : decode cL_law 1863 = .ok (.iconst 3, 1) := g_dec dt204_L_law_ok (k := 50) rfl
theorem dL_law_1864 : decode cL_law 1864 = .ok (.iadd, 1) := g_dec dt204_L_law_ok (k := 51) rfl
theorem dL_law_1865 : decode cL_law 1865 = .ok (.iload 29, 2) := g_dec dt204_L_law_ok (k := 52) rfl
theorem dL_law_1867 : decode cL_law 1867 = .ok (.ifCond .eq 16, 3) := g_dec dt204_L_law_ok (k := 53) rfl
theorem dL_law_1883 : decode cL_law 1883 = .ok (.iconst (-1), 1) := g_dec dt204_L_law_ok (k := 54) rfl
theorem dL_law_1870 : decode cL_law 1870 = .ok (.aload 17, 2) := g_dec dt204_L_law_ok (k := 55) rfl
theorem dL_law_1872 : decode cL_law 1872 = .ok (.bipush 6, 2) := g_dec dt204_L_law_ok (k := 56) rfl
theorem dL_law_1874 : decode cL_law 1874 = .ok (.iload 28, 2) := g_dec dt204_L_law_ok (k := 57) rfl
theorem dL_law_1876 : decode cL_law 1876 = .ok (.imul, 1) := g_dec dt204_L_law_ok (k := 58) rfl
theorem dL_law_1877 : decode cL_law 1877 = .ok (.iconst 3, 1) := g_dec dt204_L_law_ok (k := 59) rfl
def dt205_L_law : List (Nat × Instr × Nat) := [(1878, (.iadd, 1)), (1879, (.iaload, 1)), (1880, (.goto 4, 3)), (1830, (.iastore, 1)), (1831, (.aload 17, 2)), (1833, (.bipush 6, 2)), (1835, (.iload 28, 2)), (1837, (.imul, 1)), (1838, (.iload 29, 2)), (1840, (.ifCond .eq 14, 3)), (1854, (.iconst (-1), 1)), (1843, (.aload 17, 2)), (1845, (.bipush 6, 2)), (1847, (.iload 28, 2)), (1849, (.imul, 1)), (1850, (.iaload, 1)), (1851, (.goto 4, 3)), (1809, (.istore 20, 2)), (1811, (.aload 17, 2)), (1813, (.bipush 6, 2)), (1815, (.iload 28, 2)), (1817, (.imul, 1)), (1818, (.iconst 4, 1)), (1819, (.iadd, 1)), (1820, (.iload 29, 2)), (1822, (.ifCond .eq 7, 3)), (1829, (.iconst 0, 1)), (1825, (.iconst 1, 1)), (1826, (.goto 4, 3)), (1801, (.if_icmp .ne 7, 3)), (1808, (.iconst 0, 1)), (1804, (.iconst 1, 1)), (1805, (.goto 4, 3)), (1768, (.if_icmp .ne 7, 3)), (1775, (.iconst 0, 1)), (1776, (.goto 33, 3)), (1771, (.iconst 1, 1)), (1772, (.goto 37, 3)), (1737, (.istore 29, 2)), (1739, (.iload 29, 2)), (1741, (.ifCond .eq 38, 3)), (1779, (.aload_n 1, 1)), (1780, (.iload 28, 2)), (1782, (.invokevirtual 236, 3)), (1785, (.aload 17, 2)), (1787, (.bipush 6, 2)), (1789, (.iload 28, 2)), (1791, (.imul, 1)), (1792, (.iaload, 1)), (1793, (.ifCond .lt 7, 3)), (1800, (.iconst 0, 1)), (1796, (.iconst 1, 1)), (1797, (.goto 4, 3)), (1744, (.aload_n 1, 1)), (1745, (.iload 28, 2)), (1747, (.invokevirtual 233, 3)), (1750, (.aload 17, 2)), (1752, (.bipush 6, 2)), (1754, (.iload 28, 2)), (1756, (.imul, 1))]
theorem dt205_L_law_ok : ∀ q ∈ dt205_L_law, decode cL_law q.1 = .ok q.2 := by decide +kernel
theorem dL_law_1878 : decode cL_law 1878 = .ok (.iadd, 1) := g_dec dt205_L_law_ok (k := 0) rfl
theorem dL_law_1879 : decode cL_law 1879 = .ok (.iaload, 1) := g_dec dt205_L_law_ok (k := 1) rfl
theorem dL_law_1880 : decode cL_law 1880 = .ok (.goto 4, 3) := g_dec dt205_L_law_ok (k := 2) rfl
theorem dL_law_1830 : decode cL_law 1830 = .ok (.iastore, 1) := g_dec dt205_L_law_ok (k := 3) rfl
theorem dL_law_1831 : decode cL_law 1831 = .ok (.aload 17, 2) := g_dec dt205_L_law_ok (k := 4) rfl
theorem dL_law_1833 : decode cL_law 1833 = .ok (.bipush 6, 2) := g_dec dt205_L_law_ok (k := 5) rfl
theorem dL_law_1835 : decode cL_law 1835 = .ok (.iload 28, 2) := g_dec dt205_L_law_ok (k := 6) rfl
theorem dL_law_1837 : decode cL_law 1837 = .ok (.imul, 1) := g_dec dt205_L_law_ok (k := 7) rfl
theorem dL_law_1838 : decode cL_law 1838 = .ok (.iload 29, 2) := g_dec dt205_L_law_ok (k := 8) rfl
theorem dL_law_1840 : decode cL_law 1840 = .ok (.ifCond .eq 14, 3) := g_dec dt205_L_law_ok (k := 9) rfl
theorem dL_law_1854 : decode cL_law 1854 = .ok (.iconst (-1), 1) := g_dec dt205_L_law_ok (k := 10) rfl
theorem dL_law_1843 : decode cL_law 1843 = .ok (.aload 17, 2) := g_dec dt205_L_law_ok (k := 11) rfl
theorem dL_law_1845 : decode cL_law 1845 = .ok (.bipush 6, 2) := g_dec dt205_L_law_ok (k := 12) rfl
theorem dL_law_1847 : decode cL_law 1847 = .ok (.iload 28, 2) := g_dec dt205_L_law_ok (k := 13) rfl
theorem dL_law_1849 : decode cL_law 1849 = .ok (.imul, 1) := g_dec dt205_L_law_ok (k := 14) rfl
theorem dL_law_1850 : decode cL_law 1850 = .ok (.iaload, 1) := g_dec dt205_L_law_ok (k := 15) rfl
theorem dL_law_1851 : decode cL_law 1851 = .ok (.goto 4, 3) := g_dec dt205_L_law_ok (k := 16) rfl
theorem dL_law_1809 : decode cL_law 1809 = .ok (.istore 20, 2) := g_dec dt205_L_law_ok (k := 17) rfl
theorem dL_law_1811 : decode cL_law 1811 = .ok (.aload 17, 2) := g_dec dt205_L_law_ok (k := 18) rfl
theorem dL_law_1813 : decode cL_law 1813 = .ok (.bipush 6, 2) := g_dec dt205_L_law_ok (k := 19) rfl
theorem dL_law_1815 : decode cL_law 1815 = .ok (.iload 28, 2) := g_dec dt205_L_law_ok (k := 20) rfl
theorem dL_law_1817 : decode cL_law 1817 = .ok (.imul, 1) := g_dec dt205_L_law_ok (k := 21) rfl
theorem dL_law_1818 : decode cL_law 1818 = .ok (.iconst 4, 1) := g_dec dt205_L_law_ok (k := 22) rfl
theorem dL_law_1819 : decode cL_law 1819 = .ok (.iadd, 1) := g_dec dt205_L_law_ok (k := 23) rfl
theorem dL_law_1820 : decode cL_law 1820 = .ok (.iload 29, 2) := g_dec dt205_L_law_ok (k := 24) rfl
theorem dL_law_1822 : decode cL_law 1822 = .ok (.ifCond .eq 7, 3) := g_dec dt205_L_law_ok (k := 25) rfl
theorem dL_law_1829 : decode cL_law 1829 = .ok (.iconst 0, 1) := g_dec dt205_L_law_ok (k := 26) rfl
theorem dL_law_1825 : decode cL_law 1825 = .ok (.iconst 1, 1) := g_dec dt205_L_law_ok (k := 27) rfl
theorem dL_law_1826 : decode cL_law 1826 = .ok (.goto 4, 3) := g_dec dt205_L_law_ok (k := 28) rfl
theorem dL_law_1801 : decode cL_law 1801 = .ok (.if_icmp .ne 7, 3) := g_dec dt205_L_law_ok (k := 29) rfl
theorem dL_law_1808 : decode cL_law 1808 = .ok (.iconst 0, 1) := g_dec dt205_L_law_ok (k := 30) rfl
theorem dL_law_1804 : decode cL_law 1804 = .ok (.iconst 1, 1) := g_dec dt205_L_law_ok (k := 31) rfl
theorem dL_law_1805 : decode cL_law 1805 = .ok (.goto 4, 3) := g_dec dt205_L_law_ok (k := 32) rfl
theorem dL_law_1768 : decode cL_law 1768 = .ok (.if_icmp .ne 7, 3) := g_dec dt205_L_law_ok (k := 33) rfl
theorem dL_law_1775 : decode cL_law 1775 = .ok (.iconst 0, 1) := g_dec dt205_L_law_ok (k := 34) rfl
theorem dL_law_1776 : decode cL_law 1776 = .ok (.goto 33, 3) := g_dec dt205_L_law_ok (k := 35) rfl
theorem dL_law_1771 : decode cL_law 1771 = .ok (.iconst 1, 1) := g_dec dt205_L_law_ok (k := 36) rfl
theorem dL_law_1772 : decode cL_law 1772 = .ok (.goto 37, 3) := g_dec dt205_L_law_ok (k := 37) rfl
theorem dL_law_1737 : decode cL_law 1737 = .ok (.istore 29, 2) := g_dec dt205_L_law_ok (k := 38) rfl
theorem dL_law_1739 : decode cL_law 1739 = .ok (.iload 29, 2) := g_dec dt205_L_law_ok (k := 39) rfl
theorem dL_law_1741 : decode cL_law 1741 = .ok (.ifCond .eq 38, 3) := g_dec dt205_L_law_ok (k := 40) rfl
theorem dL_law_1779 : decode cL_law 1779 = .ok (.aload_n 1, 1) := g_dec dt205_L_law_ok (k := 41) rfl
theorem dL_law_1780 : decode cL_law 1780 = .ok (.iload 28, 2) := g_dec dt205_L_law_ok (k := 42) rfl
theorem dL_law_1782 : decode cL_law 1782 = .ok (.invokevirtual 236, 3) := g_dec dt205_L_law_ok (k := 43) rfl
theorem dL_law_1785 : decode cL_law 1785 = .ok (.aload 17, 2) := g_dec dt205_L_law_ok (k := 44) rfl
theorem dL_law_1787 : decode cL_law 1787 = .ok (.bipush 6, 2) := g_dec dt205_L_law_ok (k := 45) rfl
theorem dL_law_1789 : decode cL_law 1789 = .ok (.iload 28, 2) := g_dec dt205_L_law_ok (k := 46) rfl
theorem dL_law_1791 : decode cL_law 1791 = .ok (.imul, 1) := g_dec dt205_L_law_ok (k := 47) rfl
theorem dL_law_1792 : decode cL_law 1792 = .ok (.iaload, 1) := g_dec dt205_L_law_ok (k := 48) rfl
theorem dL_law_1793 : decode cL_law 1793 = .ok (.ifCond .lt 7, 3) := g_dec dt205_L_law_ok (k := 49) rfl
theorem dL_law_1800 : decode cL_law 1800 = .ok (.iconst 0, 1) := g_dec dt205_L_law_ok (k := 50) rfl
theorem dL_law_1796 : decode cL_law 1796 = .ok (.iconst 1, 1) := g_dec dt205_L_law_ok (k := 51) rfl
theorem dL_law_1797 : decode cL_law 1797 = .ok (.goto 4, 3) := g_dec dt205_L_law_ok (k := 52) rfl
theorem dL_law_1744 : decode cL_law 1744 = .ok (.aload_n 1, 1) := g_dec dt205_L_law_ok (k := 53) rfl
theorem dL_law_1745 : decode cL_law 1745 = .ok (.iload 28, 2) := g_dec dt205_L_law_ok (k := 54) rfl
theorem dL_law_1747 : decode cL_law 1747 = .ok (.invokevirtual 233, 3) := g_dec dt205_L_law_ok (k := 55) rfl
theorem dL_law_1750 : decode cL_law 1750 = .ok (.aload 17, 2) := g_dec dt205_L_law_ok (k := 56) rfl
theorem dL_law_1752 : decode cL_law 1752 = .ok (.bipush 6, 2) := g_dec dt205_L_law_ok (k := 57) rfl
theorem dL_law_1754 : decode cL_law 1754 = .ok (.iload 28, 2) := g_dec dt205_L_law_ok (k := 58) rfl
theorem dL_law_1756 : decode cL_law 1756 = .ok (.imul, 1) := g_dec dt205_L_law_ok (k := 59) rfl
def dt206_L_law : List (Nat × Instr × Nat) := [(1757, (.iconst 4, 1)), (1758, (.iadd, 1)), (1759, (.iaload, 1)), (1760, (.ifCond .ne 7, 3)), (1767, (.iconst 0, 1)), (1763, (.iconst 1, 1)), (1764, (.goto 4, 3)), (1694, (.istore 20, 2)), (1696, (.aload_n 2, 1)), (1697, (.iconst 5, 1)), (1698, (.iload 28, 2)), (1700, (.iastore, 1)), (1701, (.aload_n 2, 1)), (1702, (.bipush 6, 2)), (1704, (.iload 29, 2)), (1706, (.iastore, 1)), (1707, (.goto 991, 3)), (1642, (.iload 23, 2)), (1644, (.bipush 16, 2)), (1646, (.if_icmp .ne 64, 3)), (1710, (.iload 23, 2)), (1712, (.bipush 17, 2)), (1714, (.if_icmp .ne 174, 3)), (1888, (.iload 23, 2)), (1890, (.bipush 18, 2)), (1892, (.if_icmp .ne 60, 3)), (1952, (.iload 23, 2)), (1954, (.bipush 19, 2)), (1956, (.if_icmp .ne 310, 3)), (1959, (.aload_n 2, 1)), (1960, (.iconst 0, 1)), (1961, (.iaload, 1)), (1962, (.bipush 20, 2)), (1964, (.if_icmp .ge 302, 3)), (1967, (.aload_n 2, 1)), (1968, (.iconst 1, 1)), (1969, (.iaload, 1)), (1970, (.iconst 1, 1)), (1971, (.if_icmp .le 295, 3)), (1974, (.iconst 1, 1)), (1975, (.iload 24, 2)), (1977, (.aload_n 2, 1)), (1978, (.iconst 1, 1)), (1979, (.iaload, 1)), (1980, (.iconst 1, 1)), (1981, (.isub, 1)), (1982, (.irem, 1)), (1983, (.iadd, 1)), (1984, (.istore 28, 2)), (1986, (.iconst 0, 1)), (1987, (.istore 29, 2)), (1989, (.lconst 0, 1)), (1990, (.lstore 30, 2)), (1992, (.iconst 1, 1)), (1993, (.istore 32, 2)), (1995, (.iconst 0, 1)), (1996, (.istore 33, 2)), (1895, (.iload 24, 2)), (1897, (.iconst 3, 1)), (1898, (.irem, 1))]
theorem dt206_L_law_ok : ∀ q ∈ dt206_L_law, decode cL_law q.1 = .ok q.2 := by decide +kernel
theorem dL_law_1757 : decode cL_law 1757 = .ok (.iconst 4, 1) := g_dec dt206_L_law_ok (k := 0) rfl
theorem dL_law_1758 : decode cL_law 1758 = .ok (.iadd, 1) := g_dec dt206_L_law_ok (k := 1) rfl
theorem dL_law_1759 : decode cL_law 1759 = .ok (.iaload, 1) := g_dec dt206_L_law_ok (k := 2) rfl
theorem dL_law_1760 : decode cL_law 1760 = .ok (.ifCond .ne 7, 3) := g_dec dt206_L_law_ok (k := 3) rfl
theorem dL_law_1767 : decode cL_law 1767 = .ok (.iconst 0, 1) := g_dec dt206_L_law_ok (k := 4) rfl
theorem dL_law_1763 : decode cL_law 1763 = .ok (.iconst 1, 1) := g_dec dt206_L_law_ok (k := 5) rfl
theorem dL_law_1764 : decode cL_law 1764 = .ok (.goto 4, 3) := g_dec dt206_L_law_ok (k := 6) rfl
theorem dL_law_1694 : decode cL_law 1694 = .ok (.istore 20, 2) := g_dec dt206_L_law_ok (k := 7) rfl
theorem dL_law_1696 : decode cL_law 1696 = .ok (.aload_n 2, 1) := g_dec dt206_L_law_ok (k := 8) rfl
theorem dL_law_1697 : decode cL_law 1697 = .ok (.iconst 5, 1) := g_dec dt206_L_law_ok (k := 9) rfl
theorem dL_law_1698 : decode cL_law 1698 = .ok (.iload 28, 2) := g_dec dt206_L_law_ok (k := 10) rfl
theorem dL_law_1700 : decode cL_law 1700 = .ok (.iastore, 1) := g_dec dt206_L_law_ok (k := 11) rfl
theorem dL_law_1701 : decode cL_law 1701 = .ok (.aload_n 2, 1) := g_dec dt206_L_law_ok (k := 12) rfl
theorem dL_law_1702 : decode cL_law 1702 = .ok (.bipush 6, 2) := g_dec dt206_L_law_ok (k := 13) rfl
theorem dL_law_1704 : decode cL_law 1704 = .ok (.iload 29, 2) := g_dec dt206_L_law_ok (k := 14) rfl
theorem dL_law_1706 : decode cL_law 1706 = .ok (.iastore, 1) := g_dec dt206_L_law_ok (k := 15) rfl
theorem dL_law_1707 : decode cL_law 1707 = .ok (.goto 991, 3) := g_dec dt206_L_law_ok (k := 16) rfl
theorem dL_law_1642 : decode cL_law 1642 = .ok (.iload 23, 2) := g_dec dt206_L_law_ok (k := 17) rfl
theorem dL_law_1644 : decode cL_law 1644 = .ok (.bipush 16, 2) := g_dec dt206_L_law_ok (k := 18) rfl
theorem dL_law_1646 : decode cL_law 1646 = .ok (.if_icmp .ne 64, 3) := g_dec dt206_L_law_ok (k := 19) rfl
theorem dL_law_1710 : decode cL_law 1710 = .ok (.iload 23, 2) := g_dec dt206_L_law_ok (k := 20) rfl
theorem dL_law_1712 : decode cL_law 1712 = .ok (.bipush 17, 2) := g_dec dt206_L_law_ok (k := 21) rfl
theorem dL_law_1714 : decode cL_law 1714 = .ok (.if_icmp .ne 174, 3) := g_dec dt206_L_law_ok (k := 22) rfl
theorem dL_law_1888 : decode cL_law 1888 = .ok (.iload 23, 2) := g_dec dt206_L_law_ok (k := 23) rfl
theorem dL_law_1890 : decode cL_law 1890 = .ok (.bipush 18, 2) := g_dec dt206_L_law_ok (k := 24) rfl
theorem dL_law_1892 : decode cL_law 1892 = .ok (.if_icmp .ne 60, 3) := g_dec dt206_L_law_ok (k := 25) rfl
theorem dL_law_1952 : decode cL_law 1952 = .ok (.iload 23, 2) := g_dec dt206_L_law_ok (k := 26) rfl
theorem dL_law_1954 : decode cL_law 1954 = .ok (.bipush 19, 2) := g_dec dt206_L_law_ok (k := 27) rfl
theorem dL_law_1956 : decode cL_law 1956 = .ok (.if_icmp .ne 310, 3) := g_dec dt206_L_law_ok (k := 28) rfl
theorem dL_law_1959 : decode cL_law 1959 = .ok (.aload_n 2, 1) := g_dec dt206_L_law_ok (k := 29) rfl
theorem dL_law_1960 : decode cL_law 1960 = .ok (.iconst 0, 1) := g_dec dt206_L_law_ok (k := 30) rfl
theorem dL_law_1961 : decode cL_law 1961 = .ok (.iaload, 1) := g_dec dt206_L_law_ok (k := 31) rfl
theorem dL_law_1962 : decode cL_law 1962 = .ok (.bipush 20, 2) := g_dec dt206_L_law_ok (k := 32) rfl
theorem dL_law_1964 : decode cL_law 1964 = .ok (.if_icmp .ge 302, 3) := g_dec dt206_L_law_ok (k := 33) rfl
theorem dL_law_1967 : decode cL_law 1967 = .ok (.aload_n 2, 1) := g_dec dt206_L_law_ok (k := 34) rfl
theorem dL_law_1968 : decode cL_law 1968 = .ok (.iconst 1, 1) := g_dec dt206_L_law_ok (k := 35) rfl
theorem dL_law_1969 : decode cL_law 1969 = .ok (.iaload, 1) := g_dec dt206_L_law_ok (k := 36) rfl
theorem dL_law_1970 : decode cL_law 1970 = .ok (.iconst 1, 1) := g_dec dt206_L_law_ok (k := 37) rfl
theorem dL_law_1971 : decode cL_law 1971 = .ok (.if_icmp .le 295, 3) := g_dec dt206_L_law_ok (k := 38) rfl
theorem dL_law_1974 : decode cL_law 1974 = .ok (.iconst 1, 1) := g_dec dt206_L_law_ok (k := 39) rfl
theorem dL_law_1975 : decode cL_law 1975 = .ok (.iload 24, 2) := g_dec dt206_L_law_ok (k := 40) rfl
theorem dL_law_1977 : decode cL_law 1977 = .ok (.aload_n 2, 1) := g_dec dt206_L_law_ok (k := 41) rfl
theorem dL_law_1978 : decode cL_law 1978 = .ok (.iconst 1, 1) := g_dec dt206_L_law_ok (k := 42) rfl
theorem dL_law_1979 : decode cL_law 1979 = .ok (.iaload, 1) := g_dec dt206_L_law_ok (k := 43) rfl
theorem dL_law_1980 : decode cL_law 1980 = .ok (.iconst 1, 1) := g_dec dt206_L_law_ok (k := 44) rfl
theorem dL_law_1981 : decode cL_law 1981 = .ok (.isub, 1) := g_dec dt206_L_law_ok (k := 45) rfl
theorem dL_law_1982 : decode cL_law 1982 = .ok (.irem, 1) := g_dec dt206_L_law_ok (k := 46) rfl
theorem dL_law_1983 : decode cL_law 1983 = .ok (.iadd, 1) := g_dec dt206_L_law_ok (k := 47) rfl
theorem dL_law_1984 : decode cL_law 1984 = .ok (.istore 28, 2) := g_dec dt206_L_law_ok (k := 48) rfl
theorem dL_law_1986 : decode cL_law 1986 = .ok (.iconst 0, 1) := g_dec dt206_L_law_ok (k := 49) rfl
theorem dL_law_1987 : decode cL_law 1987 = .ok (.istore 29, 2) := g_dec dt206_L_law_ok (k := 50) rfl
theorem dL_law_1989 : decode cL_law 1989 = .ok (.lconst 0, 1) := g_dec dt206_L_law_ok (k := 51) rfl
theorem dL_law_1990 : decode cL_law 1990 = .ok (.lstore 30, 2) := g_dec dt206_L_law_ok (k := 52) rfl
theorem dL_law_1992 : decode cL_law 1992 = .ok (.iconst 1, 1) := g_dec dt206_L_law_ok (k := 53) rfl
theorem dL_law_1993 : decode cL_law 1993 = .ok (.istore 32, 2) := g_dec dt206_L_law_ok (k := 54) rfl
theorem dL_law_1995 : decode cL_law 1995 = .ok (.iconst 0, 1) := g_dec dt206_L_law_ok (k := 55) rfl
theorem dL_law_1996 : decode cL_law 1996 = .ok (.istore 33, 2) := g_dec dt206_L_law_ok (k := 56) rfl
theorem dL_law_1895 : decode cL_law 1895 = .ok (.iload 24, 2) := g_dec dt206_L_law_ok (k := 57) rfl
theorem dL_law_1897 : decode cL_law 1897 = .ok (.iconst 3, 1) := g_dec dt206_L_law_ok (k := 58) rfl
theorem dL_law_1898 : decode cL_law 1898 = .ok (.irem, 1) := g_dec dt206_L_law_ok (k := 59) rfl
def dt207_L_law : List (Nat × Instr × Nat) := [(1899, (.istore 28, 2)), (1901, (.aload_n 1, 1)), (1902, (.iload 28, 2)), (1904, (.iconst 1, 1)), (1905, (.iload 24, 2)), (1907, (.iconst 3, 1)), (1908, (.idiv, 1)), (1909, (.bipush 10, 2)), (1911, (.irem, 1)), (1912, (.iadd, 1)), (1913, (.invokevirtual 239, 3)), (1916, (.aload 19, 2)), (1918, (.iconst 3, 1)), (1919, (.iload 28, 2)), (1921, (.iadd, 1)), (1922, (.iaload, 1)), (1923, (.if_icmp .ne 7, 3)), (1930, (.iconst 0, 1)), (1926, (.iconst 1, 1)), (1927, (.goto 4, 3)), (1717, (.iload 24, 2)), (1719, (.iconst 3, 1)), (1720, (.irem, 1)), (1721, (.istore 28, 2)), (1723, (.iload 24, 2)), (1725, (.iconst 3, 1)), (1726, (.idiv, 1)), (1727, (.iconst 3, 1)), (1728, (.irem, 1)), (1729, (.ifCond .le 7, 3)), (1736, (.iconst 0, 1)), (1732, (.iconst 1, 1)), (1733, (.goto 4, 3)), (1649, (.iconst 1, 1)), (1650, (.iload 24, 2)), (1652, (.iconst 4, 1)), (1653, (.irem, 1)), (1654, (.iadd, 1)), (1655, (.istore 28, 2)), (1657, (.iconst 1, 1)), (1658, (.iload 24, 2)), (1660, (.iconst 4, 1)), (1661, (.idiv, 1)), (1662, (.iconst 4, 1)), (1663, (.irem, 1)), (1664, (.iadd, 1)), (1665, (.istore 29, 2)), (1667, (.aload_n 1, 1)), (1668, (.iload 28, 2)), (1670, (.iload 29, 2)), (1672, (.invokevirtual 231, 3)), (1675, (.bipush 10, 2)), (1677, (.aload_n 2, 1)), (1678, (.iconst 5, 1)), (1679, (.iaload, 1)), (1680, (.imul, 1)), (1681, (.aload_n 2, 1)), (1682, (.bipush 6, 2)), (1684, (.iaload, 1)), (1685, (.iadd, 1))]
theorem dt207_L_law_ok : ∀ q ∈ dt207_L_law, decode cL_law q.1 = .ok q.2 := by decide +kernel
theorem dL_law_1899 : decode cL_law 1899 = .ok (.istore 28, 2) := g_dec dt207_L_law_ok (k := 0) rfl
theorem dL_law_1901 : decode cL_law 1901 = .ok (.aload_n 1, 1) := g_dec dt207_L_law_ok (k := 1) rfl
theorem dL_law_1902 : decode cL_law 1902 = .ok (.iload 28, 2) := g_dec dt207_L_law_ok (k := 2) rfl
theorem dL_law_1904 : decode cL_law 1904 = .ok (.iconst 1, 1) := g_dec dt207_L_law_ok (k := 3) rfl
theorem dL_law_1905 : decode cL_law 1905 = .ok (.iload 24, 2) := g_dec dt207_L_law_ok (k := 4) rfl
theorem dL_law_1907 : decode cL_law 1907 = .ok (.iconst 3, 1) := g_dec dt207_L_law_ok (k := 5) rfl
theorem dL_law_1908 : decode cL_law 1908 = .ok (.idiv, 1) := g_dec dt207_L_law_ok (k := 6) rfl
theorem dL_law_1909 : decode cL_law 1909 = .ok (.bipush 10, 2) := g_dec dt207_L_law_ok (k := 7) rfl
theorem dL_law_1911 : decode cL_law 1911 = .ok (.irem, 1) := g_dec dt207_L_law_ok (k := 8) rfl
theorem dL_law_1912 : decode cL_law 1912 = .ok (.iadd, 1) := g_dec dt207_L_law_ok (k := 9) rfl
theorem dL_law_1913 : decode cL_law 1913 = .ok (.invokevirtual 239, 3) := g_dec dt207_L_law_ok (k := 10) rfl
theorem dL_law_1916 : decode cL_law 1916 = .ok (.aload 19, 2) := g_dec dt207_L_law_ok (k := 11) rfl
theorem dL_law_1918 : decode cL_law 1918 = .ok (.iconst 3, 1) := g_dec dt207_L_law_ok (k := 12) rfl
theorem dL_law_1919 : decode cL_law 1919 = .ok (.iload 28, 2) := g_dec dt207_L_law_ok (k := 13) rfl
theorem dL_law_1921 : decode cL_law 1921 = .ok (.iadd, 1) := g_dec dt207_L_law_ok (k := 14) rfl
theorem dL_law_1922 : decode cL_law 1922 = .ok (.iaload, 1) := g_dec dt207_L_law_ok (k := 15) rfl
theorem dL_law_1923 : decode cL_law 1923 = .ok (.if_icmp .ne 7, 3) := g_dec dt207_L_law_ok (k := 16) rfl
theorem dL_law_1930 : decode cL_law 1930 = .ok (.iconst 0, 1) := g_dec dt207_L_law_ok (k := 17) rfl
theorem dL_law_1926 : decode cL_law 1926 = .ok (.iconst 1, 1) := g_dec dt207_L_law_ok (k := 18) rfl
theorem dL_law_1927 : decode cL_law 1927 = .ok (.goto 4, 3) := g_dec dt207_L_law_ok (k := 19) rfl
theorem dL_law_1717 : decode cL_law 1717 = .ok (.iload 24, 2) := g_dec dt207_L_law_ok (k := 20) rfl
theorem dL_law_1719 : decode cL_law 1719 = .ok (.iconst 3, 1) := g_dec dt207_L_law_ok (k := 21) rfl
theorem dL_law_1720 : decode cL_law 1720 = .ok (.irem, 1) := g_dec dt207_L_law_ok (k := 22) rfl
theorem dL_law_1721 : decode cL_law 1721 = .ok (.istore 28, 2) := g_dec dt207_L_law_ok (k := 23) rfl
theorem dL_law_1723 : decode cL_law 1723 = .ok (.iload 24, 2) := g_dec dt207_L_law_ok (k := 24) rfl
theorem dL_law_1725 : decode cL_law 1725 = .ok (.iconst 3, 1) := g_dec dt207_L_law_ok (k := 25) rfl
theorem dL_law_1726 : decode cL_law 1726 = .ok (.idiv, 1) := g_dec dt207_L_law_ok (k := 26) rfl
theorem dL_law_1727 : decode cL_law 1727 = .ok (.iconst 3, 1) := g_dec dt207_L_law_ok (k := 27) rfl
theorem dL_law_1728 : decode cL_law 1728 = .ok (.irem, 1) := g_dec dt207_L_law_ok (k := 28) rfl
theorem dL_law_1729 : decode cL_law 1729 = .ok (.ifCond .le 7, 3) := g_dec dt207_L_law_ok (k := 29) rfl
theorem dL_law_1736 : decode cL_law 1736 = .ok (.iconst 0, 1) := g_dec dt207_L_law_ok (k := 30) rfl
theorem dL_law_1732 : decode cL_law 1732 = .ok (.iconst 1, 1) := g_dec dt207_L_law_ok (k := 31) rfl
theorem dL_law_1733 : decode cL_law 1733 = .ok (.goto 4, 3) := g_dec dt207_L_law_ok (k := 32) rfl
theorem dL_law_1649 : decode cL_law 1649 = .ok (.iconst 1, 1) := g_dec dt207_L_law_ok (k := 33) rfl
theorem dL_law_1650 : decode cL_law 1650 = .ok (.iload 24, 2) := g_dec dt207_L_law_ok (k := 34) rfl
theorem dL_law_1652 : decode cL_law 1652 = .ok (.iconst 4, 1) := g_dec dt207_L_law_ok (k := 35) rfl
theorem dL_law_1653 : decode cL_law 1653 = .ok (.irem, 1) := g_dec dt207_L_law_ok (k := 36) rfl
theorem dL_law_1654 : decode cL_law 1654 = .ok (.iadd, 1) := g_dec dt207_L_law_ok (k := 37) rfl
theorem dL_law_1655 : decode cL_law 1655 = .ok (.istore 28, 2) := g_dec dt207_L_law_ok (k := 38) rfl
theorem dL_law_1657 : decode cL_law 1657 = .ok (.iconst 1, 1) := g_dec dt207_L_law_ok (k := 39) rfl
theorem dL_law_1658 : decode cL_law 1658 = .ok (.iload 24, 2) := g_dec dt207_L_law_ok (k := 40) rfl
theorem dL_law_1660 : decode cL_law 1660 = .ok (.iconst 4, 1) := g_dec dt207_L_law_ok (k := 41) rfl
theorem dL_law_1661 : decode cL_law 1661 = .ok (.idiv, 1) := g_dec dt207_L_law_ok (k := 42) rfl
theorem dL_law_1662 : decode cL_law 1662 = .ok (.iconst 4, 1) := g_dec dt207_L_law_ok (k := 43) rfl
theorem dL_law_1663 : decode cL_law 1663 = .ok (.irem, 1) := g_dec dt207_L_law_ok (k := 44) rfl
theorem dL_law_1664 : decode cL_law 1664 = .ok (.iadd, 1) := g_dec dt207_L_law_ok (k := 45) rfl
theorem dL_law_1665 : decode cL_law 1665 = .ok (.istore 29, 2) := g_dec dt207_L_law_ok (k := 46) rfl
theorem dL_law_1667 : decode cL_law 1667 = .ok (.aload_n 1, 1) := g_dec dt207_L_law_ok (k := 47) rfl
theorem dL_law_1668 : decode cL_law 1668 = .ok (.iload 28, 2) := g_dec dt207_L_law_ok (k := 48) rfl
theorem dL_law_1670 : decode cL_law 1670 = .ok (.iload 29, 2) := g_dec dt207_L_law_ok (k := 49) rfl
theorem dL_law_1672 : decode cL_law 1672 = .ok (.invokevirtual 231, 3) := g_dec dt207_L_law_ok (k := 50) rfl
theorem dL_law_1675 : decode cL_law 1675 = .ok (.bipush 10, 2) := g_dec dt207_L_law_ok (k := 51) rfl
theorem dL_law_1677 : decode cL_law 1677 = .ok (.aload_n 2, 1) := g_dec dt207_L_law_ok (k := 52) rfl
theorem dL_law_1678 : decode cL_law 1678 = .ok (.iconst 5, 1) := g_dec dt207_L_law_ok (k := 53) rfl
theorem dL_law_1679 : decode cL_law 1679 = .ok (.iaload, 1) := g_dec dt207_L_law_ok (k := 54) rfl
theorem dL_law_1680 : decode cL_law 1680 = .ok (.imul, 1) := g_dec dt207_L_law_ok (k := 55) rfl
theorem dL_law_1681 : decode cL_law 1681 = .ok (.aload_n 2, 1) := g_dec dt207_L_law_ok (k := 56) rfl
theorem dL_law_1682 : decode cL_law 1682 = .ok (.bipush 6, 2) := g_dec dt207_L_law_ok (k := 57) rfl
theorem dL_law_1684 : decode cL_law 1684 = .ok (.iaload, 1) := g_dec dt207_L_law_ok (k := 58) rfl
theorem dL_law_1685 : decode cL_law 1685 = .ok (.iadd, 1) := g_dec dt207_L_law_ok (k := 59) rfl
def dt208_L_law : List (Nat × Instr × Nat) := [(1686, (.if_icmp .ne 7, 3)), (1693, (.iconst 0, 1)), (1689, (.iconst 1, 1)), (1690, (.goto 4, 3)), (1614, (.istore 20, 2)), (1616, (.aload 13, 2)), (1618, (.bipush 12, 2)), (1620, (.iload 28, 2)), (1622, (.imul, 1)), (1623, (.iconst 5, 1)), (1624, (.iadd, 1)), (1625, (.iconst 0, 1)), (1626, (.iastore, 1)), (1627, (.aload 13, 2)), (1629, (.bipush 12, 2)), (1631, (.iload 28, 2)), (1633, (.imul, 1)), (1634, (.bipush 6, 2)), (1636, (.iadd, 1)), (1637, (.iconst 0, 1)), (1638, (.iastore, 1)), (1639, (.goto 1059, 3)), (1606, (.if_icmp .ne 7, 3)), (1613, (.iconst 0, 1)), (1609, (.iconst 1, 1)), (1610, (.goto 4, 3)), (1559, (.iload 23, 2)), (1561, (.bipush 15, 2)), (1563, (.if_icmp .ne 79, 3)), (1566, (.aload_n 2, 1)), (1567, (.iconst 2, 1)), (1568, (.iaload, 1)), (1569, (.ifCond .le 73, 3)), (1572, (.iload 24, 2)), (1574, (.aload_n 2, 1)), (1575, (.iconst 2, 1)), (1576, (.iaload, 1)), (1577, (.irem, 1)), (1578, (.istore 28, 2)), (1580, (.aload_n 1, 1)), (1581, (.iload 28, 2)), (1583, (.invokevirtual 228, 3)), (1586, (.aload 13, 2)), (1588, (.bipush 12, 2)), (1590, (.iload 28, 2)), (1592, (.imul, 1)), (1593, (.bipush 6, 2)), (1595, (.iadd, 1)), (1596, (.iaload, 1)), (1597, (.iconst 1, 1)), (1598, (.if_icmp .ne 7, 3)), (1605, (.iconst 0, 1)), (1601, (.iconst 1, 1)), (1602, (.goto 4, 3)), (1554, (.istore 20, 2)), (1556, (.goto 1142, 3)), (1505, (.istore 30, 2)), (1507, (.aload 14, 2)), (1509, (.aload_n 2, 1)), (1510, (.iconst 3, 1))]
theorem dt208_L_law_ok : ∀ q ∈ dt208_L_law, decode cL_law q.1 = .ok q.2 := by decide +kernel
theorem dL_law_1686 : decode cL_law 1686 = .ok (.if_icmp .ne 7, 3) := g_dec dt208_L_law_ok (k := 0) rfl
theorem dL_law_1693 : decode cL_law 1693 = .ok (.iconst 0, 1) := g_dec dt208_L_law_ok (k := 1) rfl
theorem dL_law_1689 : decode cL_law 1689 = .ok (.iconst 1, 1) := g_dec dt208_L_law_ok (k := 2) rfl
theorem dL_law_1690 : decode cL_law 1690 = .ok (.goto 4, 3) := g_dec dt208_L_law_ok (k := 3) rfl
theorem dL_law_1614 : decode cL_law 1614 = .ok (.istore 20, 2) := g_dec dt208_L_law_ok (k := 4) rfl
theorem dL_law_1616 : decode cL_law 1616 = .ok (.aload 13, 2) := g_dec dt208_L_law_ok (k := 5) rfl
theorem dL_law_1618 : decode cL_law 1618 = .ok (.bipush 12, 2) := g_dec dt208_L_law_ok (k := 6) rfl
theorem dL_law_1620 : decode cL_law 1620 = .ok (.iload 28, 2) := g_dec dt208_L_law_ok (k := 7) rfl
theorem dL_law_1622 : decode cL_law 1622 = .ok (.imul, 1) := g_dec dt208_L_law_ok (k := 8) rfl
theorem dL_law_1623 : decode cL_law 1623 = .ok (.iconst 5, 1) := g_dec dt208_L_law_ok (k := 9) rfl
theorem dL_law_1624 : decode cL_law 1624 = .ok (.iadd, 1) := g_dec dt208_L_law_ok (k := 10) rfl
theorem dL_law_1625 : decode cL_law 1625 = .ok (.iconst 0, 1) := g_dec dt208_L_law_ok (k := 11) rfl
theorem dL_law_1626 : decode cL_law 1626 = .ok (.iastore, 1) := g_dec dt208_L_law_ok (k := 12) rfl
theorem dL_law_1627 : decode cL_law 1627 = .ok (.aload 13, 2) := g_dec dt208_L_law_ok (k := 13) rfl
theorem dL_law_1629 : decode cL_law 1629 = .ok (.bipush 12, 2) := g_dec dt208_L_law_ok (k := 14) rfl
theorem dL_law_1631 : decode cL_law 1631 = .ok (.iload 28, 2) := g_dec dt208_L_law_ok (k := 15) rfl
theorem dL_law_1633 : decode cL_law 1633 = .ok (.imul, 1) := g_dec dt208_L_law_ok (k := 16) rfl
theorem dL_law_1634 : decode cL_law 1634 = .ok (.bipush 6, 2) := g_dec dt208_L_law_ok (k := 17) rfl
theorem dL_law_1636 : decode cL_law 1636 = .ok (.iadd, 1) := g_dec dt208_L_law_ok (k := 18) rfl
theorem dL_law_1637 : decode cL_law 1637 = .ok (.iconst 0, 1) := g_dec dt208_L_law_ok (k := 19) rfl
theorem dL_law_1638 : decode cL_law 1638 = .ok (.iastore, 1) := g_dec dt208_L_law_ok (k := 20) rfl
theorem dL_law_1639 : decode cL_law 1639 = .ok (.goto 1059, 3) := g_dec dt208_L_law_ok (k := 21) rfl
theorem dL_law_1606 : decode cL_law 1606 = .ok (.if_icmp .ne 7, 3) := g_dec dt208_L_law_ok (k := 22) rfl
theorem dL_law_1613 : decode cL_law 1613 = .ok (.iconst 0, 1) := g_dec dt208_L_law_ok (k := 23) rfl
theorem dL_law_1609 : decode cL_law 1609 = .ok (.iconst 1, 1) := g_dec dt208_L_law_ok (k := 24) rfl
theorem dL_law_1610 : decode cL_law 1610 = .ok (.goto 4, 3) := g_dec dt208_L_law_ok (k := 25) rfl
theorem dL_law_1559 : decode cL_law 1559 = .ok (.iload 23, 2) := g_dec dt208_L_law_ok (k := 26) rfl
theorem dL_law_1561 : decode cL_law 1561 = .ok (.bipush 15, 2) := g_dec dt208_L_law_ok (k := 27) rfl
theorem dL_law_1563 : decode cL_law 1563 = .ok (.if_icmp .ne 79, 3) := g_dec dt208_L_law_ok (k := 28) rfl
theorem dL_law_1566 : decode cL_law 1566 = .ok (.aload_n 2, 1) := g_dec dt208_L_law_ok (k := 29) rfl
theorem dL_law_1567 : decode cL_law 1567 = .ok (.iconst 2, 1) := g_dec dt208_L_law_ok (k := 30) rfl
theorem dL_law_1568 : decode cL_law 1568 = .ok (.iaload, 1) := g_dec dt208_L_law_ok (k := 31) rfl
theorem dL_law_1569 : decode cL_law 1569 = .ok (.ifCond .le 73, 3) := g_dec dt208_L_law_ok (k := 32) rfl
theorem dL_law_1572 : decode cL_law 1572 = .ok (.iload 24, 2) := g_dec dt208_L_law_ok (k := 33) rfl
theorem dL_law_1574 : decode cL_law 1574 = .ok (.aload_n 2, 1) := g_dec dt208_L_law_ok (k := 34) rfl
theorem dL_law_1575 : decode cL_law 1575 = .ok (.iconst 2, 1) := g_dec dt208_L_law_ok (k := 35) rfl
theorem dL_law_1576 : decode cL_law 1576 = .ok (.iaload, 1) := g_dec dt208_L_law_ok (k := 36) rfl
theorem dL_law_1577 : decode cL_law 1577 = .ok (.irem, 1) := g_dec dt208_L_law_ok (k := 37) rfl
theorem dL_law_1578 : decode cL_law 1578 = .ok (.istore 28, 2) := g_dec dt208_L_law_ok (k := 38) rfl
theorem dL_law_1580 : decode cL_law 1580 = .ok (.aload_n 1, 1) := g_dec dt208_L_law_ok (k := 39) rfl
theorem dL_law_1581 : decode cL_law 1581 = .ok (.iload 28, 2) := g_dec dt208_L_law_ok (k := 40) rfl
theorem dL_law_1583 : decode cL_law 1583 = .ok (.invokevirtual 228, 3) := g_dec dt208_L_law_ok (k := 41) rfl
theorem dL_law_1586 : decode cL_law 1586 = .ok (.aload 13, 2) := g_dec dt208_L_law_ok (k := 42) rfl
theorem dL_law_1588 : decode cL_law 1588 = .ok (.bipush 12, 2) := g_dec dt208_L_law_ok (k := 43) rfl
theorem dL_law_1590 : decode cL_law 1590 = .ok (.iload 28, 2) := g_dec dt208_L_law_ok (k := 44) rfl
theorem dL_law_1592 : decode cL_law 1592 = .ok (.imul, 1) := g_dec dt208_L_law_ok (k := 45) rfl
theorem dL_law_1593 : decode cL_law 1593 = .ok (.bipush 6, 2) := g_dec dt208_L_law_ok (k := 46) rfl
theorem dL_law_1595 : decode cL_law 1595 = .ok (.iadd, 1) := g_dec dt208_L_law_ok (k := 47) rfl
theorem dL_law_1596 : decode cL_law 1596 = .ok (.iaload, 1) := g_dec dt208_L_law_ok (k := 48) rfl
theorem dL_law_1597 : decode cL_law 1597 = .ok (.iconst 1, 1) := g_dec dt208_L_law_ok (k := 49) rfl
theorem dL_law_1598 : decode cL_law 1598 = .ok (.if_icmp .ne 7, 3) := g_dec dt208_L_law_ok (k := 50) rfl
theorem dL_law_1605 : decode cL_law 1605 = .ok (.iconst 0, 1) := g_dec dt208_L_law_ok (k := 51) rfl
theorem dL_law_1601 : decode cL_law 1601 = .ok (.iconst 1, 1) := g_dec dt208_L_law_ok (k := 52) rfl
theorem dL_law_1602 : decode cL_law 1602 = .ok (.goto 4, 3) := g_dec dt208_L_law_ok (k := 53) rfl
theorem dL_law_1554 : decode cL_law 1554 = .ok (.istore 20, 2) := g_dec dt208_L_law_ok (k := 54) rfl
theorem dL_law_1556 : decode cL_law 1556 = .ok (.goto 1142, 3) := g_dec dt208_L_law_ok (k := 55) rfl
theorem dL_law_1505 : decode cL_law 1505 = .ok (.istore 30, 2) := g_dec dt208_L_law_ok (k := 56) rfl
theorem dL_law_1507 : decode cL_law 1507 = .ok (.aload 14, 2) := g_dec dt208_L_law_ok (k := 57) rfl
theorem dL_law_1509 : decode cL_law 1509 = .ok (.aload_n 2, 1) := g_dec dt208_L_law_ok (k := 58) rfl
theorem dL_law_1510 : decode cL_law 1510 = .ok (.iconst 3, 1) := g_dec dt208_L_law_ok (k := 59) rfl
def dt209_L_law : List (Nat × Instr × Nat) := [(1511, (.iaload, 1)), (1512, (.iload 28, 2)), (1514, (.iconst 4, 1)), (1515, (.iload 29, 2)), (1517, (.imul, 1)), (1518, (.iadd, 1)), (1519, (.bipush 16, 2)), (1521, (.iload 30, 2)), (1523, (.imul, 1)), (1524, (.iadd, 1)), (1525, (.iastore, 1)), (1526, (.aload_n 2, 1)), (1527, (.iconst 3, 1)), (1528, (.dup2, 1)), (1529, (.iaload, 1)), (1530, (.iconst 1, 1)), (1531, (.iadd, 1)), (1532, (.iastore, 1)), (1533, (.aload_n 1, 1)), (1534, (.iload 28, 2)), (1536, (.iload 29, 2)), (1538, (.iload 30, 2)), (1540, (.invokevirtual 225, 3)), (1543, (.aload_n 2, 1)), (1544, (.iconst 3, 1)), (1545, (.iaload, 1)), (1546, (.if_icmp .ne 7, 3)), (1553, (.iconst 0, 1)), (1549, (.iconst 1, 1)), (1550, (.goto 4, 3)), (1435, (.iload 23, 2)), (1437, (.bipush 14, 2)), (1439, (.if_icmp .ne 120, 3)), (1442, (.aload_n 2, 1)), (1443, (.iconst 2, 1)), (1444, (.iaload, 1)), (1445, (.ifCond .le 114, 3)), (1448, (.aload_n 2, 1)), (1449, (.iconst 3, 1)), (1450, (.iaload, 1)), (1451, (.bipush 12, 2)), (1453, (.if_icmp .ge 106, 3)), (1456, (.iload 24, 2)), (1458, (.aload_n 2, 1)), (1459, (.iconst 2, 1)), (1460, (.iaload, 1)), (1461, (.irem, 1)), (1462, (.istore 28, 2)), (1464, (.iload 24, 2)), (1466, (.iconst 4, 1)), (1467, (.idiv, 1)), (1468, (.iconst 3, 1)), (1469, (.irem, 1)), (1470, (.istore 29, 2)), (1472, (.iload 29, 2)), (1474, (.ifCond .ne 7, 3)), (1481, (.iload 29, 2)), (1483, (.iconst 1, 1)), (1484, (.if_icmp .ne 14, 3)), (1498, (.iload 24, 2))]
theorem dt209_L_law_ok : ∀ q ∈ dt209_L_law, decode cL_law q.1 = .ok q.2 := by decide +kernel
theorem dL_law_1511 : decode cL_law 1511 = .ok (.iaload, 1) := g_dec dt209_L_law_ok (k := 0) rfl
theorem dL_law_1512 : decode cL_law 1512 = .ok (.iload 28, 2) := g_dec dt209_L_law_ok (k := 1) rfl
theorem dL_law_1514 : decode cL_law 1514 = .ok (.iconst 4, 1) := g_dec dt209_L_law_ok (k := 2) rfl
theorem dL_law_1515 : decode cL_law 1515 = .ok (.iload 29, 2) := g_dec dt209_L_law_ok (k := 3) rfl
theorem dL_law_1517 : decode cL_law 1517 = .ok (.imul, 1) := g_dec dt209_L_law_ok (k := 4) rfl
theorem dL_law_1518 : decode cL_law 1518 = .ok (.iadd, 1) := g_dec dt209_L_law_ok (k := 5) rfl
theorem dL_law_1519 : decode cL_law 1519 = .ok (.bipush 16, 2) := g_dec dt209_L_law_ok (k := 6) rfl
theorem dL_law_1521 : decode cL_law 1521 = .ok (.iload 30, 2) := g_dec dt209_L_law_ok (k := 7) rfl
theorem dL_law_1523 : decode cL_law 1523 = .ok (.imul, 1) := g_dec dt209_L_law_ok (k := 8) rfl
theorem dL_law_1524 : decode cL_law 1524 = .ok (.iadd, 1) := g_dec dt209_L_law_ok (k := 9) rfl
theorem dL_law_1525 : decode cL_law 1525 = .ok (.iastore, 1) := g_dec dt209_L_law_ok (k := 10) rfl
theorem dL_law_1526 : decode cL_law 1526 = .ok (.aload_n 2, 1) := g_dec dt209_L_law_ok (k := 11) rfl
theorem dL_law_1527 : decode cL_law 1527 = .ok (.iconst 3, 1) := g_dec dt209_L_law_ok (k := 12) rfl
theorem dL_law_1528 : decode cL_law 1528 = .ok (.dup2, 1) := g_dec dt209_L_law_ok (k := 13) rfl
theorem dL_law_1529 : decode cL_law 1529 = .ok (.iaload, 1) := g_dec dt209_L_law_ok (k := 14) rfl
theorem dL_law_1530 : decode cL_law 1530 = .ok (.iconst 1, 1) := g_dec dt209_L_law_ok (k := 15) rfl
theorem dL_law_1531 : decode cL_law 1531 = .ok (.iadd, 1) := g_dec dt209_L_law_ok (k := 16) rfl
theorem dL_law_1532 : decode cL_law 1532 = .ok (.iastore, 1) := g_dec dt209_L_law_ok (k := 17) rfl
theorem dL_law_1533 : decode cL_law 1533 = .ok (.aload_n 1, 1) := g_dec dt209_L_law_ok (k := 18) rfl
theorem dL_law_1534 : decode cL_law 1534 = .ok (.iload 28, 2) := g_dec dt209_L_law_ok (k := 19) rfl
theorem dL_law_1536 : decode cL_law 1536 = .ok (.iload 29, 2) := g_dec dt209_L_law_ok (k := 20) rfl
theorem dL_law_1538 : decode cL_law 1538 = .ok (.iload 30, 2) := g_dec dt209_L_law_ok (k := 21) rfl
theorem dL_law_1540 : decode cL_law 1540 = .ok (.invokevirtual 225, 3) := g_dec dt209_L_law_ok (k := 22) rfl
theorem dL_law_1543 : decode cL_law 1543 = .ok (.aload_n 2, 1) := g_dec dt209_L_law_ok (k := 23) rfl
theorem dL_law_1544 : decode cL_law 1544 = .ok (.iconst 3, 1) := g_dec dt209_L_law_ok (k := 24) rfl
theorem dL_law_1545 : decode cL_law 1545 = .ok (.iaload, 1) := g_dec dt209_L_law_ok (k := 25) rfl
theorem dL_law_1546 : decode cL_law 1546 = .ok (.if_icmp .ne 7, 3) := g_dec dt209_L_law_ok (k := 26) rfl
theorem dL_law_1553 : decode cL_law 1553 = .ok (.iconst 0, 1) := g_dec dt209_L_law_ok (k := 27) rfl
theorem dL_law_1549 : decode cL_law 1549 = .ok (.iconst 1, 1) := g_dec dt209_L_law_ok (k := 28) rfl
theorem dL_law_1550 : decode cL_law 1550 = .ok (.goto 4, 3) := g_dec dt209_L_law_ok (k := 29) rfl
theorem dL_law_1435 : decode cL_law 1435 = .ok (.iload 23, 2) := g_dec dt209_L_law_ok (k := 30) rfl
theorem dL_law_1437 : decode cL_law 1437 = .ok (.bipush 14, 2) := g_dec dt209_L_law_ok (k := 31) rfl
theorem dL_law_1439 : decode cL_law 1439 = .ok (.if_icmp .ne 120, 3) := g_dec dt209_L_law_ok (k := 32) rfl
theorem dL_law_1442 : decode cL_law 1442 = .ok (.aload_n 2, 1) := g_dec dt209_L_law_ok (k := 33) rfl
theorem dL_law_1443 : decode cL_law 1443 = .ok (.iconst 2, 1) := g_dec dt209_L_law_ok (k := 34) rfl
theorem dL_law_1444 : decode cL_law 1444 = .ok (.iaload, 1) := g_dec dt209_L_law_ok (k := 35) rfl
theorem dL_law_1445 : decode cL_law 1445 = .ok (.ifCond .le 114, 3) := g_dec dt209_L_law_ok (k := 36) rfl
theorem dL_law_1448 : decode cL_law 1448 = .ok (.aload_n 2, 1) := g_dec dt209_L_law_ok (k := 37) rfl
theorem dL_law_1449 : decode cL_law 1449 = .ok (.iconst 3, 1) := g_dec dt209_L_law_ok (k := 38) rfl
theorem dL_law_1450 : decode cL_law 1450 = .ok (.iaload, 1) := g_dec dt209_L_law_ok (k := 39) rfl
theorem dL_law_1451 : decode cL_law 1451 = .ok (.bipush 12, 2) := g_dec dt209_L_law_ok (k := 40) rfl
theorem dL_law_1453 : decode cL_law 1453 = .ok (.if_icmp .ge 106, 3) := g_dec dt209_L_law_ok (k := 41) rfl
theorem dL_law_1456 : decode cL_law 1456 = .ok (.iload 24, 2) := g_dec dt209_L_law_ok (k := 42) rfl
theorem dL_law_1458 : decode cL_law 1458 = .ok (.aload_n 2, 1) := g_dec dt209_L_law_ok (k := 43) rfl
theorem dL_law_1459 : decode cL_law 1459 = .ok (.iconst 2, 1) := g_dec dt209_L_law_ok (k := 44) rfl
theorem dL_law_1460 : decode cL_law 1460 = .ok (.iaload, 1) := g_dec dt209_L_law_ok (k := 45) rfl
theorem dL_law_1461 : decode cL_law 1461 = .ok (.irem, 1) := g_dec dt209_L_law_ok (k := 46) rfl
theorem dL_law_1462 : decode cL_law 1462 = .ok (.istore 28, 2) := g_dec dt209_L_law_ok (k := 47) rfl
theorem dL_law_1464 : decode cL_law 1464 = .ok (.iload 24, 2) := g_dec dt209_L_law_ok (k := 48) rfl
theorem dL_law_1466 : decode cL_law 1466 = .ok (.iconst 4, 1) := g_dec dt209_L_law_ok (k := 49) rfl
theorem dL_law_1467 : decode cL_law 1467 = .ok (.idiv, 1) := g_dec dt209_L_law_ok (k := 50) rfl
theorem dL_law_1468 : decode cL_law 1468 = .ok (.iconst 3, 1) := g_dec dt209_L_law_ok (k := 51) rfl
theorem dL_law_1469 : decode cL_law 1469 = .ok (.irem, 1) := g_dec dt209_L_law_ok (k := 52) rfl
theorem dL_law_1470 : decode cL_law 1470 = .ok (.istore 29, 2) := g_dec dt209_L_law_ok (k := 53) rfl
theorem dL_law_1472 : decode cL_law 1472 = .ok (.iload 29, 2) := g_dec dt209_L_law_ok (k := 54) rfl
theorem dL_law_1474 : decode cL_law 1474 = .ok (.ifCond .ne 7, 3) := g_dec dt209_L_law_ok (k := 55) rfl
theorem dL_law_1481 : decode cL_law 1481 = .ok (.iload 29, 2) := g_dec dt209_L_law_ok (k := 56) rfl
theorem dL_law_1483 : decode cL_law 1483 = .ok (.iconst 1, 1) := g_dec dt209_L_law_ok (k := 57) rfl
theorem dL_law_1484 : decode cL_law 1484 = .ok (.if_icmp .ne 14, 3) := g_dec dt209_L_law_ok (k := 58) rfl
theorem dL_law_1498 : decode cL_law 1498 = .ok (.iload 24, 2) := g_dec dt209_L_law_ok (k := 59) rfl
def dt210_L_law : List (Nat × Instr × Nat) := [(1500, (.bipush 12, 2)), (1502, (.idiv, 1)), (1503, (.iconst 3, 1)), (1504, (.irem, 1)), (1487, (.iload 24, 2)), (1489, (.bipush 12, 2)), (1491, (.idiv, 1)), (1492, (.bipush 12, 2)), (1494, (.irem, 1)), (1495, (.goto 10, 3)), (1477, (.iconst 0, 1)), (1478, (.goto 27, 3)), (1431, (.iastore, 1)), (1432, (.goto 1266, 3)), (1412, (.aload 13, 2)), (1414, (.bipush 12, 2)), (1416, (.iload 28, 2)), (1418, (.imul, 1)), (1419, (.iconst 3, 1)), (1420, (.iadd, 1)), (1421, (.iload 29, 2)), (1423, (.ifCond .eq 7, 3)), (1430, (.iconst 0, 1)), (1426, (.iconst 1, 1)), (1427, (.goto 4, 3)), (1397, (.if_icmp .eq 15, 3)), (1400, (.aload_n 2, 1)), (1401, (.aload 15, 2)), (1403, (.aload 16, 2)), (1405, (.aload 17, 2)), (1407, (.iload 28, 2)), (1409, (.invokestatic 217, 3)), (1374, (.istore 20, 2)), (1376, (.iload 29, 2)), (1378, (.aload 13, 2)), (1380, (.bipush 12, 2)), (1382, (.iload 28, 2)), (1384, (.imul, 1)), (1385, (.iconst 3, 1)), (1386, (.iadd, 1)), (1387, (.iaload, 1)), (1388, (.iconst 1, 1)), (1389, (.if_icmp .ne 7, 3)), (1396, (.iconst 0, 1)), (1392, (.iconst 1, 1)), (1393, (.goto 4, 3))]
theorem dt210_L_law_ok : ∀ q ∈ dt210_L_law, decode cL_law q.1 = .ok q.2 := by decide +kernel
theorem dL_law_1500 : decode cL_law 1500 = .ok (.bipush 12, 2) := g_dec dt210_L_law_ok (k := 0) rfl
theorem dL_law_1502 : decode cL_law 1502 = .ok (.idiv, 1) := g_dec dt210_L_law_ok (k := 1) rfl
theorem dL_law_1503 : decode cL_law 1503 = .ok (.iconst 3, 1) := g_dec dt210_L_law_ok (k := 2) rfl
theorem dL_law_1504 : decode cL_law 1504 = .ok (.irem, 1) := g_dec dt210_L_law_ok (k := 3) rfl
theorem dL_law_1487 : decode cL_law 1487 = .ok (.iload 24, 2) := g_dec dt210_L_law_ok (k := 4) rfl
theorem dL_law_1489 : decode cL_law 1489 = .ok (.bipush 12, 2) := g_dec dt210_L_law_ok (k := 5) rfl
theorem dL_law_1491 : decode cL_law 1491 = .ok (.idiv, 1) := g_dec dt210_L_law_ok (k := 6) rfl
theorem dL_law_1492 : decode cL_law 1492 = .ok (.bipush 12, 2) := g_dec dt210_L_law_ok (k := 7) rfl
theorem dL_law_1494 : decode cL_law 1494 = .ok (.irem, 1) := g_dec dt210_L_law_ok (k := 8) rfl
theorem dL_law_1495 : decode cL_law 1495 = .ok (.goto 10, 3) := g_dec dt210_L_law_ok (k := 9) rfl
theorem dL_law_1477 : decode cL_law 1477 = .ok (.iconst 0, 1) := g_dec dt210_L_law_ok (k := 10) rfl
theorem dL_law_1478 : decode cL_law 1478 = .ok (.goto 27, 3) := g_dec dt210_L_law_ok (k := 11) rfl
theorem dL_law_1431 : decode cL_law 1431 = .ok (.iastore, 1) := g_dec dt210_L_law_ok (k := 12) rfl
theorem dL_law_1432 : decode cL_law 1432 = .ok (.goto 1266, 3) := g_dec dt210_L_law_ok (k := 13) rfl
theorem dL_law_1412 : decode cL_law 1412 = .ok (.aload 13, 2) := g_dec dt210_L_law_ok (k := 14) rfl
theorem dL_law_1414 : decode cL_law 1414 = .ok (.bipush 12, 2) := g_dec dt210_L_law_ok (k := 15) rfl
theorem dL_law_1416 : decode cL_law 1416 = .ok (.iload 28, 2) := g_dec dt210_L_law_ok (k := 16) rfl
theorem dL_law_1418 : decode cL_law 1418 = .ok (.imul, 1) := g_dec dt210_L_law_ok (k := 17) rfl
theorem dL_law_1419 : decode cL_law 1419 = .ok (.iconst 3, 1) := g_dec dt210_L_law_ok (k := 18) rfl
theorem dL_law_1420 : decode cL_law 1420 = .ok (.iadd, 1) := g_dec dt210_L_law_ok (k := 19) rfl
theorem dL_law_1421 : decode cL_law 1421 = .ok (.iload 29, 2) := g_dec dt210_L_law_ok (k := 20) rfl
theorem dL_law_1423 : decode cL_law 1423 = .ok (.ifCond .eq 7, 3) := g_dec dt210_L_law_ok (k := 21) rfl
theorem dL_law_1430 : decode cL_law 1430 = .ok (.iconst 0, 1) := g_dec dt210_L_law_ok (k := 22) rfl
theorem dL_law_1426 : decode cL_law 1426 = .ok (.iconst 1, 1) := g_dec dt210_L_law_ok (k := 23) rfl
theorem dL_law_1427 : decode cL_law 1427 = .ok (.goto 4, 3) := g_dec dt210_L_law_ok (k := 24) rfl
theorem dL_law_1397 : decode cL_law 1397 = .ok (.if_icmp .eq 15, 3) := g_dec dt210_L_law_ok (k := 25) rfl
theorem dL_law_1400 : decode cL_law 1400 = .ok (.aload_n 2, 1) := g_dec dt210_L_law_ok (k := 26) rfl
theorem dL_law_1401 : decode cL_law 1401 = .ok (.aload 15, 2) := g_dec dt210_L_law_ok (k := 27) rfl
theorem dL_law_1403 : decode cL_law 1403 = .ok (.aload 16, 2) := g_dec dt210_L_law_ok (k := 28) rfl
theorem dL_law_1405 : decode cL_law 1405 = .ok (.aload 17, 2) := g_dec dt210_L_law_ok (k := 29) rfl
theorem dL_law_1407 : decode cL_law 1407 = .ok (.iload 28, 2) := g_dec dt210_L_law_ok (k := 30) rfl
theorem dL_law_1409 : decode cL_law 1409 = .ok (.invokestatic 217, 3) := g_dec dt210_L_law_ok (k := 31) rfl
theorem dL_law_1374 : decode cL_law 1374 = .ok (.istore 20, 2) := g_dec dt210_L_law_ok (k := 32) rfl
theorem dL_law_1376 : decode cL_law 1376 = .ok (.iload 29, 2) := g_dec dt210_L_law_ok (k := 33) rfl
theorem dL_law_1378 : decode cL_law 1378 = .ok (.aload 13, 2) := g_dec dt210_L_law_ok (k := 34) rfl
theorem dL_law_1380 : decode cL_law 1380 = .ok (.bipush 12, 2) := g_dec dt210_L_law_ok (k := 35) rfl
theorem dL_law_1382 : decode cL_law 1382 = .ok (.iload 28, 2) := g_dec dt210_L_law_ok (k := 36) rfl
theorem dL_law_1384 : decode cL_law 1384 = .ok (.imul, 1) := g_dec dt210_L_law_ok (k := 37) rfl
theorem dL_law_1385 : decode cL_law 1385 = .ok (.iconst 3, 1) := g_dec dt210_L_law_ok (k := 38) rfl
theorem dL_law_1386 : decode cL_law 1386 = .ok (.iadd, 1) := g_dec dt210_L_law_ok (k := 39) rfl
theorem dL_law_1387 : decode cL_law 1387 = .ok (.iaload, 1) := g_dec dt210_L_law_ok (k := 40) rfl
theorem dL_law_1388 : decode cL_law 1388 = .ok (.iconst 1, 1) := g_dec dt210_L_law_ok (k := 41) rfl
theorem dL_law_1389 : decode cL_law 1389 = .ok (.if_icmp .ne 7, 3) := g_dec dt210_L_law_ok (k := 42) rfl
theorem dL_law_1396 : decode cL_law 1396 = .ok (.iconst 0, 1) := g_dec dt210_L_law_ok (k := 43) rfl
theorem dL_law_1392 : decode cL_law 1392 = .ok (.iconst 1, 1) := g_dec dt210_L_law_ok (k := 44) rfl
theorem dL_law_1393 : decode cL_law 1393 = .ok (.goto 4, 3) := g_dec dt210_L_law_ok (k := 45) rfl
section
variable {p : Program} {l : Launch} {e : Env} {s : State} {m : MethodId} {args : Array Value} {below : List Frame} {meth : Method} {c : Code} {D : va_G} {y : Nat → ClassId} {aS : Nat → Nat} {A : Nat → Prop} {L : List Nat} {ad0 : Nat → Nat} {N : Nat} {res : Int32} {b Lx : Nat} {xs : Nat → Int32}
def fL_law_2159 (N : Nat) (xs : Nat → Int32) (Lx : Nat) (rec221 : (gS × Int32 × Int32) → Option Int32) (σ : gS) (x21 : Int32) (x24 : Int32) (x25 : Int64) (x29 : Int32) (x30 : Int64) (x32 : Int32) (xs0 : Int32) (xs1 : Int32) : Option Int32 := if xs1 = xs0 then (fL_law_2167 N xs Lx rec221 σ x21 x24 x25 x29 x30 x32 1) else (fL_law_2167 N xs Lx rec221 σ x21 x24 x25 x29 x30 x32 0)
set_option maxRecDepth 100000 in
set_option maxHeartbeats 1000000 in
theorem wL_law_2159 {rec221 : (gS × Int32 × Int32) → Option Int32} {σ : gS} {x21 : Int32} {x24 : Int32} {x25 : Int64} {x29 : Int32} {x30 : Int64} {x32 : Int32} {xs0 : Int32} {xs1 : Int32} {ad : Nat → Nat} {kc ns : Nat} (hx : p.tables.exec = Jvm.exec) (hb : c.code = cL_law) (hr : meth.sig.returnType = (some .boolean)) (hml : c.maxLocals = 37) (hown : s.vm.findClass RL = some m.cls) (hg : ∀ w ∈ wsL_law, w.before args s = true) (hlocks : meth.locks = false) (hK : gK D y aS s) (hA : ∀ q, s.heap.size ≤ q → A q) (hL : ∀ k, k < 179 → k ∈ L) (hfl : l.stackTraces = false) (hZ : gZ A s s.heap) (hX : va_X b Lx xs s s.heap) (hbl : b < s.heap.size) (hA2 : ∀ q, A q → s.heap.size ≤ q) (hres : res = 1) (hL2 : ∀ k ∈ L, k < 179) (hrec221 : ∀ {ad : Nat → Nat} {kc ns : Nat} {σ9 : gS} {x20n9 : Int32} {x21n9 : Int32} (hkc : kc ≤ 183 + 643 * x21n9.toInt.toNat + 0) (hns : ns ≤ 3391 + 81814 * x21n9.toInt.toNat + 0) (hi0 : 0 ≤ x21n9.toInt) (hi8 : x21n9.toInt ≤ 80) (H : Heap) (locs : List Loc) (ls : Array Slot), gY D y A s L ad σ9 H locs → lv_has ls 37 [(0, .ref b), (1, .ref (ad 0)), (2, .ref (ad 161)), (3, .ref (ad 162)), (4, .ref (ad 163)), (5, .ref (ad 164)), (6, .ref (ad 165)), (7, .ref (ad 166)), (8, .ref (ad 167)), (9, .ref (ad 168)), (10, .ref (ad 169)), (11, .ref (ad 170)), (12, .ref (ad 171)), (13, .ref (ad 172)), (14, .ref (ad 173)), (15, .ref (ad 174)), (16, .ref (ad 175)), (17, .ref (ad 176)), (18, .ref (ad 177)), (19, .ref (ad 178)), (20, .int x20n9), (21, .int x21n9)] → rec221 (σ9, x20n9, x21n9) = some res → W p l e room_1 s m args below meth c H locs kc ns (lw_Z below args s) (F0 m 221 ls [])) (hkc : kc ≤ 183 + 643 * x21.toInt.toNat + 1) (hns : ns ≤ 3391 + 81814 * x21.toInt.toNat + 6) (hi0 : 0 ≤ x21.toInt) (hi8 : x21.toInt < 80) {H : Heap} {locs : List Loc} {ls : Array Slot} (hY : gY D y A s L ad σ H locs) (hl : lv_has ls 37 [(0, .ref b), (1, .ref (ad 0)), (2, .ref (ad 161)), (3, .ref (ad 162)), (4, .ref (ad 163)), (5, .ref (ad 164)), (6, .ref (ad 165)), (7, .ref (ad 166)), (8, .ref (ad 167)), (9, .ref (ad 168)), (10, .ref (ad 169)), (11, .ref (ad 170)), (12, .ref (ad 171)), (13, .ref (ad 172)), (14, .ref (ad 173)), (15, .ref (ad 174)), (16, .ref (ad 175)), (17, .ref (ad 176)), (18, .ref (ad 177)), (19, .ref (ad 178)), (21, .int x21), (24, .int x24), (25, .long x25), (29, .int x29), (30, .long x30), (32, .int x32)]) (h : fL_law_2159 N xs Lx rec221 σ x21 x24 x25 x29 x30 x32 xs0 xs1 = some res) : W p l e room_1 s m args below meth c H locs kc ns (lw_Z below args s) (F0 m 2159 ls [.int xs0, .int xs1]) := by
  unfold fL_law_2159 at h
  refine lv_icmp_ne (tgt := 2166) hx hb dL_law_2159 (by decide) (fun z_1 => ?_) (fun z_1 => ?_)
  ·
    rw [if_neg z_1] at h
    refine lv_iconst (v := 0) hx hb dL_law_2166 (by decide) ?_
    exact wL_law_2167 hx hb hr hml hown hg hlocks hK hA hL hfl hZ hX hbl hA2 hres hL2 hrec221 (by first | omega | (simp only [g_l0]; omega)) (by first | omega | (simp only [g_l0]; omega)) (by first | omega | (simp only [g_l0]; omega)) (by first | omega | (simp only [g_l0]; omega)) hY (lv_sub hl [0, 1, 2, 3, 4, 5, 6, 7, 8, 9, 10, 11, 12, 13, 14, 15, 16, 17, 18, 19, 20, 21, 22, 23, 24, 25] rfl) h
  ·
    rw [if_pos z_1] at h
    refine lv_iconst (v := 1) hx hb dL_law_2162 (by decide) ?_
    refine lv_goto (tgt := 2167) hx hb dL_law_2163 (by decide) ?_
    exact wL_law_2167 hx hb hr hml hown hg hlocks hK hA hL hfl hZ hX hbl hA2 hres hL2 hrec221 (by first | omega | (simp only [g_l0]; omega)) (by first | omega | (simp only [g_l0]; omega)) (by first | omega | (simp only [g_l0]; omega)) (by first | omega | (simp only [g_l0]; omega)) hY (lv_sub hl [0, 1, 2, 3, 4, 5, 6, 7, 8, 9, 10, 11, 12, 13, 14, 15, 16, 17, 18, 19, 20, 21, 22, 23, 24, 25] rfl) h
def fL_law_2122 (N : Nat) (xs : Nat → Int32) (Lx : Nat) (rec221 : (gS × Int32 × Int32) → Option Int32) (rec1998 : (gS × Int32 × Int64 × Int32 × Int32) → Option Int32) (σ : gS) (x21 : Int32) (x24 : Int32) (x25 : Int64) (x28 : Int32) (x29 : Int32) (x30 : Int64) (x33 : Int32) (xs0 : Int32) : Option Int32 := rec1998 (σ, x29, x30, xs0, (x33 + 1))
set_option maxRecDepth 100000 in
set_option maxHeartbeats 1000000 in
theorem wL_law_2122 {rec221 : (gS × Int32 × Int32) → Option Int32} {rec1998 : (gS × Int32 × Int64 × Int32 × Int32) → Option Int32} {σ : gS} {x21 : Int32} {x24 : Int32} {x25 : Int64} {x28 : Int32} {x29 : Int32} {x30 : Int64} {x33 : Int32} {xs0 : Int32} {ad : Nat → Nat} {kc ns : Nat} (hx : p.tables.exec = Jvm.exec) (hb : c.code = cL_law) (hr : meth.sig.returnType = (some .boolean)) (hml : c.maxLocals = 37) (hown : s.vm.findClass RL = some m.cls) (hg : ∀ w ∈ wsL_law, w.before args s = true) (hlocks : meth.locks = false) (hK : gK D y aS s) (hA : ∀ q, s.heap.size ≤ q → A q) (hL : ∀ k, k < 179 → k ∈ L) (hfl : l.stackTraces = false) (hZ : gZ A s s.heap) (hX : va_X b Lx xs s s.heap) (hbl : b < s.heap.size) (hA2 : ∀ q, A q → s.heap.size ≤ q) (hres : res = 1) (hL2 : ∀ k ∈ L, k < 179) (hrec221 : ∀ {ad : Nat → Nat} {kc ns : Nat} {σ9 : gS} {x20n9 : Int32} {x21n9 : Int32} (hkc : kc ≤ 183 + 643 * x21n9.toInt.toNat + 0) (hns : ns ≤ 3391 + 81814 * x21n9.toInt.toNat + 0) (hi0 : 0 ≤ x21n9.toInt) (hi8 : x21n9.toInt ≤ 80) (H : Heap) (locs : List Loc) (ls : Array Slot), gY D y A s L ad σ9 H locs → lv_has ls 37 [(0, .ref b), (1, .ref (ad 0)), (2, .ref (ad 161)), (3, .ref (ad 162)), (4, .ref (ad 163)), (5, .ref (ad 164)), (6, .ref (ad 165)), (7, .ref (ad 166)), (8, .ref (ad 167)), (9, .ref (ad 168)), (10, .ref (ad 169)), (11, .ref (ad 170)), (12, .ref (ad 171)), (13, .ref (ad 172)), (14, .ref (ad 173)), (15, .ref (ad 174)), (16, .ref (ad 175)), (17, .ref (ad 176)), (18, .ref (ad 177)), (19, .ref (ad 178)), (20, .int x20n9), (21, .int x21n9)] → rec221 (σ9, x20n9, x21n9) = some res → W p l e room_1 s m args below meth c H locs kc ns (lw_Z below args s) (F0 m 221 ls [])) (hrec1998 : ∀ {ad : Nat → Nat} {kc ns : Nat} {σ9 : gS} {x29n9 : Int32} {x30n9 : Int64} {x32n9 : Int32} {x33n9 : Int32} (hkc : kc ≤ 183 + 643 * x21.toInt.toNat + 0) (hns : ns ≤ 3391 + 81814 * x21.toInt.toNat + 0) (hi0 : 0 ≤ x21.toInt) (hi8 : x21.toInt < 80) (H : Heap) (locs : List Loc) (ls : Array Slot), gY D y A s L ad σ9 H locs → lv_has ls 37 [(0, .ref b), (1, .ref (ad 0)), (2, .ref (ad 161)), (3, .ref (ad 162)), (4, .ref (ad 163)), (5, .ref (ad 164)), (6, .ref (ad 165)), (7, .ref (ad 166)), (8, .ref (ad 167)), (9, .ref (ad 168)), (10, .ref (ad 169)), (11, .ref (ad 170)), (12, .ref (ad 171)), (13, .ref (ad 172)), (14, .ref (ad 173)), (15, .ref (ad 174)), (16, .ref (ad 175)), (17, .ref (ad 176)), (18, .ref (ad 177)), (19, .ref (ad 178)), (21, .int x21), (24, .int x24), (25, .long x25), (28, .int x28), (29, .int x29n9), (30, .long x30n9), (32, .int x32n9), (33, .int x33n9)] → rec1998 (σ9, x29n9, x30n9, x32n9, x33n9) = some res → W p l e room_1 s m args below meth c H locs kc ns (lw_Z below args s) (F0 m 1998 ls [])) (hkc : kc ≤ 183 + 643 * x21.toInt.toNat + 0) (hns : ns ≤ 3391 + 81814 * x21.toInt.toNat + 0) (hi0 : 0 ≤ x21.toInt) (hi8 : x21.toInt < 80) {H : Heap} {locs : List Loc} {ls : Array Slot} (hY : gY D y A s L ad σ H locs) (hl : lv_has ls 37 [(0, .ref b), (1, .ref (ad 0)), (2, .ref (ad 161)), (3, .ref (ad 162)), (4, .ref (ad 163)), (5, .ref (ad 164)), (6, .ref (ad 165)), (7, .ref (ad 166)), (8, .ref (ad 167)), (9, .ref (ad 168)), (10, .ref (ad 169)), (11, .ref (ad 170)), (12, .ref (ad 171)), (13, .ref (ad 172)), (14, .ref (ad 173)), (15, .ref (ad 174)), (16, .ref (ad 175)), (17, .ref (ad 176)), (18, .ref (ad 177)), (19, .ref (ad 178)), (21, .int x21), (24, .int x24), (25, .long x25), (28, .int x28), (29, .int x29), (30, .long x30), (33, .int x33)]) (h : fL_law_2122 N xs Lx rec221 rec1998 σ x21 x24 x25 x28 x29 x30 x33 xs0 = some res) : W p l e room_1 s m args below meth c H locs kc ns (lw_Z below args s) (F0 m 2122 ls [.int xs0]) := by
  unfold fL_law_2122 at h
  refine lv_istore (lv' := [(32, .int xs0), (0, .ref b), (1, .ref (ad 0)), (2, .ref (ad 161)), (3, .ref (ad 162)), (4, .ref (ad 163)), (5, .ref (ad 164)), (6, .ref (ad 165)), (7, .ref (ad 166)), (8, .ref (ad 167)), (9, .ref (ad 168)), (10, .ref (ad 169)), (11, .ref (ad 170)), (12, .ref (ad 171)), (13, .ref (ad 172)), (14, .ref (ad 173)), (15, .ref (ad 174)), (16, .ref (ad 175)), (17, .ref (ad 176)), (18, .ref (ad 177)), (19, .ref (ad 178)), (21, .int x21), (24, .int x24), (25, .long x25), (28, .int x28), (29, .int x29), (30, .long x30), (33, .int x33)]) hx hb dL_law_2122 hl (by decide) rfl ?_
  clear hl
  intro ls hl
  refine lv_iinc (v := (x33 + 1)) (lv' := [(33, .int (x33 + 1)), (32, .int xs0), (0, .ref b), (1, .ref (ad 0)), (2, .ref (ad 161)), (3, .ref (ad 162)), (4, .ref (ad 163)), (5, .ref (ad 164)), (6, .ref (ad 165)), (7, .ref (ad 166)), (8, .ref (ad 167)), (9, .ref (ad 168)), (10, .ref (ad 169)), (11, .ref (ad 170)), (12, .ref (ad 171)), (13, .ref (ad 172)), (14, .ref (ad 173)), (15, .ref (ad 174)), (16, .ref (ad 175)), (17, .ref (ad 176)), (18, .ref (ad 177)), (19, .ref (ad 178)), (21, .int x21), (24, .int x24), (25, .long x25), (28, .int x28), (29, .int x29), (30, .long x30)]) hx hb dL_law_2124 hl (k := 27) rfl rfl (by decide) rfl ?_
  clear hl
  intro ls hl
  refine lv_goto (tgt := 1998) hx hb dL_law_2127 (by decide) ?_
  exact hrec1998 (by first | omega | (simp only [g_l0]; omega)) (by first | omega | (simp only [g_l0]; omega)) (by first | omega | (simp only [g_l0]; omega)) (by first | omega | (simp only [g_l0]; omega)) _ _ _ hY (lv_sub hl [2, 3, 4, 5, 6, 7, 8, 9, 10, 11, 12, 13, 14, 15, 16, 17, 18, 19, 20, 21, 22, 23, 24, 25, 26, 27, 1, 0] rfl) h
def fL_law_2121 (N : Nat) (xs : Nat → Int32) (Lx : Nat) (rec221 : (gS × Int32 × Int32) → Option Int32) (rec1998 : (gS × Int32 × Int64 × Int32 × Int32) → Option Int32) (σ : gS) (x21 : Int32) (x24 : Int32) (x25 : Int64) (x28 : Int32) (x29 : Int32) (x30 : Int64) (x33 : Int32) : Option Int32 := fL_law_2122 N xs Lx rec221 rec1998 σ x21 x24 x25 x28 x29 x30 x33 0
set_option maxRecDepth 100000 in
set_option maxHeartbeats 1000000 in
theorem wL_law_2121 {rec221 : (gS × Int32 × Int32) → Option Int32} {rec1998 : (gS × Int32 × Int64 × Int32 × Int32) → Option Int32} {σ : gS} {x21 : Int32} {x24 : Int32} {x25 : Int64} {x28 : Int32} {x29 : Int32} {x30 : Int64} {x33 : Int32} {ad : Nat → Nat} {kc ns : Nat} (hx : p.tables.exec = Jvm.exec) (hb : c.code = cL_law) (hr : meth.sig.returnType = (some .boolean)) (hml : c.maxLocals = 37) (hown : s.vm.findClass RL = some m.cls) (hg : ∀ w ∈ wsL_law, w.before args s = true) (hlocks : meth.locks = false) (hK : gK D y aS s) (hA : ∀ q, s.heap.size ≤ q → A q) (hL : ∀ k, k < 179 → k ∈ L) (hfl : l.stackTraces = false) (hZ : gZ A s s.heap) (hX : va_X b Lx xs s s.heap) (hbl : b < s.heap.size) (hA2 : ∀ q, A q → s.heap.size ≤ q) (hres : res = 1) (hL2 : ∀ k ∈ L, k < 179) (hrec221 : ∀ {ad : Nat → Nat} {kc ns : Nat} {σ9 : gS} {x20n9 : Int32} {x21n9 : Int32} (hkc : kc ≤ 183 + 643 * x21n9.toInt.toNat + 0) (hns : ns ≤ 3391 + 81814 * x21n9.toInt.toNat + 0) (hi0 : 0 ≤ x21n9.toInt) (hi8 : x21n9.toInt ≤ 80) (H : Heap) (locs : List Loc) (ls : Array Slot), gY D y A s L ad σ9 H locs → lv_has ls 37 [(0, .ref b), (1, .ref (ad 0)), (2, .ref (ad 161)), (3, .ref (ad 162)), (4, .ref (ad 163)), (5, .ref (ad 164)), (6, .ref (ad 165)), (7, .ref (ad 166)), (8, .ref (ad 167)), (9, .ref (ad 168)), (10, .ref (ad 169)), (11, .ref (ad 170)), (12, .ref (ad 171)), (13, .ref (ad 172)), (14, .ref (ad 173)), (15, .ref (ad 174)), (16, .ref (ad 175)), (17, .ref (ad 176)), (18, .ref (ad 177)), (19, .ref (ad 178)), (20, .int x20n9), (21, .int x21n9)] → rec221 (σ9, x20n9, x21n9) = some res → W p l e room_1 s m args below meth c H locs kc ns (lw_Z below args s) (F0 m 221 ls [])) (hrec1998 : ∀ {ad : Nat → Nat} {kc ns : Nat} {σ9 : gS} {x29n9 : Int32} {x30n9 : Int64} {x32n9 : Int32} {x33n9 : Int32} (hkc : kc ≤ 183 + 643 * x21.toInt.toNat + 0) (hns : ns ≤ 3391 + 81814 * x21.toInt.toNat + 0) (hi0 : 0 ≤ x21.toInt) (hi8 : x21.toInt < 80) (H : Heap) (locs : List Loc) (ls : Array Slot), gY D y A s L ad σ9 H locs → lv_has ls 37 [(0, .ref b), (1, .ref (ad 0)), (2, .ref (ad 161)), (3, .ref (ad 162)), (4, .ref (ad 163)), (5, .ref (ad 164)), (6, .ref (ad 165)), (7, .ref (ad 166)), (8, .ref (ad 167)), (9, .ref (ad 168)), (10, .ref (ad 169)), (11, .ref (ad 170)), (12, .ref (ad 171)), (13, .ref (ad 172)), (14, .ref (ad 173)), (15, .ref (ad 174)), (16, .ref (ad 175)), (17, .ref (ad 176)), (18, .ref (ad 177)), (19, .ref (ad 178)), (21, .int x21), (24, .int x24), (25, .long x25), (28, .int x28), (29, .int x29n9), (30, .long x30n9), (32, .int x32n9), (33, .int x33n9)] → rec1998 (σ9, x29n9, x30n9, x32n9, x33n9) = some res → W p l e room_1 s m args below meth c H locs kc ns (lw_Z below args s) (F0 m 1998 ls [])) (hkc : kc ≤ 183 + 643 * x21.toInt.toNat + 0) (hns : ns ≤ 3391 + 81814 * x21.toInt.toNat + 0) (hi0 : 0 ≤ x21.toInt) (hi8 : x21.toInt < 80) {H : Heap} {locs : List Loc} {ls : Array Slot} (hY : gY D y A s L ad σ H locs) (hl : lv_has ls 37 [(0, .ref b), (1, .ref (ad 0)), (2, .ref (ad 161)), (3, .ref (ad 162)), (4, .ref (ad 163)), (5, .ref (ad 164)), (6, .ref (ad 165)), (7, .ref (ad 166)), (8, .ref (ad 167)), (9, .ref (ad 168)), (10, .ref (ad 169)), (11, .ref (ad 170)), (12, .ref (ad 171)), (13, .ref (ad 172)), (14, .ref (ad 173)), (15, .ref (ad 174)), (16, .ref (ad 175)), (17, .ref (ad 176)), (18, .ref (ad 177)), (19, .ref (ad 178)), (21, .int x21), (24, .int x24), (25, .long x25), (28, .int x28), (29, .int x29), (30, .long x30), (33, .int x33)]) (h : fL_law_2121 N xs Lx rec221 rec1998 σ x21 x24 x25 x28 x29 x30 x33 = some res) : W p l e room_1 s m args below meth c H locs kc ns (lw_Z below args s) (F0 m 2121 ls []) := by
  unfold fL_law_2121 at h
  refine lv_iconst (v := 0) hx hb dL_law_2121 (by decide) ?_
  exact wL_law_2122 hx hb hr hml hown hg hlocks hK hA hL hfl hZ hX hbl hA2 hres hL2 hrec221 hrec1998 (by first | omega | (simp only [g_l0]; omega)) (by first | omega | (simp only [g_l0]; omega)) (by first | omega | (simp only [g_l0]; omega)) (by first | omega | (simp only [g_l0]; omega)) hY (lv_sub hl [0, 1, 2, 3, 4, 5, 6, 7, 8, 9, 10, 11, 12, 13, 14, 15, 16, 17, 18, 19, 20, 21, 22, 23, 24, 25, 26] rfl) h
def fL_law_2117 (N : Nat) (xs : Nat → Int32) (Lx : Nat) (rec221 : (gS × Int32 × Int32) → Option Int32) (rec1998 : (gS × Int32 × Int64 × Int32 × Int32) → Option Int32) (σ : gS) (x21 : Int32) (x24 : Int32) (x25 : Int64) (x28 : Int32) (x29 : Int32) (x30 : Int64) (x33 : Int32) : Option Int32 := fL_law_2122 N xs Lx rec221 rec1998 σ x21 x24 x25 x28 x29 x30 x33 1
set_option maxRecDepth 100000 in
set_option maxHeartbeats 1000000 in
theorem wL_law_2117 {rec221 : (gS × Int32 × Int32) → Option Int32} {rec1998 : (gS × Int32 × Int64 × Int32 × Int32) → Option Int32} {σ : gS} {x21 : Int32} {x24 : Int32} {x25 : Int64} {x28 : Int32} {x29 : Int32} {x30 : Int64} {x33 : Int32} {ad : Nat → Nat} {kc ns : Nat} (hx : p.tables.exec = Jvm.exec) (hb : c.code = cL_law) (hr : meth.sig.returnType = (some .boolean)) (hml : c.maxLocals = 37) (hown : s.vm.findClass RL = some m.cls) (hg : ∀ w ∈ wsL_law, w.before args s = true) (hlocks : meth.locks = false) (hK : gK D y aS s) (hA : ∀ q, s.heap.size ≤ q → A q) (hL : ∀ k, k < 179 → k ∈ L) (hfl : l.stackTraces = false) (hZ : gZ A s s.heap) (hX : va_X b Lx xs s s.heap) (hbl : b < s.heap.size) (hA2 : ∀ q, A q → s.heap.size ≤ q) (hres : res = 1) (hL2 : ∀ k ∈ L, k < 179) (hrec221 : ∀ {ad : Nat → Nat} {kc ns : Nat} {σ9 : gS} {x20n9 : Int32} {x21n9 : Int32} (hkc : kc ≤ 183 + 643 * x21n9.toInt.toNat + 0) (hns : ns ≤ 3391 + 81814 * x21n9.toInt.toNat + 0) (hi0 : 0 ≤ x21n9.toInt) (hi8 : x21n9.toInt ≤ 80) (H : Heap) (locs : List Loc) (ls : Array Slot), gY D y A s L ad σ9 H locs → lv_has ls 37 [(0, .ref b), (1, .ref (ad 0)), (2, .ref (ad 161)), (3, .ref (ad 162)), (4, .ref (ad 163)), (5, .ref (ad 164)), (6, .ref (ad 165)), (7, .ref (ad 166)), (8, .ref (ad 167)), (9, .ref (ad 168)), (10, .ref (ad 169)), (11, .ref (ad 170)), (12, .ref (ad 171)), (13, .ref (ad 172)), (14, .ref (ad 173)), (15, .ref (ad 174)), (16, .ref (ad 175)), (17, .ref (ad 176)), (18, .ref (ad 177)), (19, .ref (ad 178)), (20, .int x20n9), (21, .int x21n9)] → rec221 (σ9, x20n9, x21n9) = some res → W p l e room_1 s m args below meth c H locs kc ns (lw_Z below args s) (F0 m 221 ls [])) (hrec1998 : ∀ {ad : Nat → Nat} {kc ns : Nat} {σ9 : gS} {x29n9 : Int32} {x30n9 : Int64} {x32n9 : Int32} {x33n9 : Int32} (hkc : kc ≤ 183 + 643 * x21.toInt.toNat + 0) (hns : ns ≤ 3391 + 81814 * x21.toInt.toNat + 0) (hi0 : 0 ≤ x21.toInt) (hi8 : x21.toInt < 80) (H : Heap) (locs : List Loc) (ls : Array Slot), gY D y A s L ad σ9 H locs → lv_has ls 37 [(0, .ref b), (1, .ref (ad 0)), (2, .ref (ad 161)), (3, .ref (ad 162)), (4, .ref (ad 163)), (5, .ref (ad 164)), (6, .ref (ad 165)), (7, .ref (ad 166)), (8, .ref (ad 167)), (9, .ref (ad 168)), (10, .ref (ad 169)), (11, .ref (ad 170)), (12, .ref (ad 171)), (13, .ref (ad 172)), (14, .ref (ad 173)), (15, .ref (ad 174)), (16, .ref (ad 175)), (17, .ref (ad 176)), (18, .ref (ad 177)), (19, .ref (ad 178)), (21, .int x21), (24, .int x24), (25, .long x25), (28, .int x28), (29, .int x29n9), (30, .long x30n9), (32, .int x32n9), (33, .int x33n9)] → rec1998 (σ9, x29n9, x30n9, x32n9, x33n9) = some res → W p l e room_1 s m args below meth c H locs kc ns (lw_Z below args s) (F0 m 1998 ls [])) (hkc : kc ≤ 183 + 643 * x21.toInt.toNat + 0) (hns : ns ≤ 3391 + 81814 * x21.toInt.toNat + 0) (hi0 : 0 ≤ x21.toInt) (hi8 : x21.toInt < 80) {H : Heap} {locs : List Loc} {ls : Array Slot} (hY : gY D y A s L ad σ H locs) (hl : lv_has ls 37 [(0, .ref b), (1, .ref (ad 0)), (2, .ref (ad 161)), (3, .ref (ad 162)), (4, .ref (ad 163)), (5, .ref (ad 164)), (6, .ref (ad 165)), (7, .ref (ad 166)), (8, .ref (ad 167)), (9, .ref (ad 168)), (10, .ref (ad 169)), (11, .ref (ad 170)), (12, .ref (ad 171)), (13, .ref (ad 172)), (14, .ref (ad 173)), (15, .ref (ad 174)), (16, .ref (ad 175)), (17, .ref (ad 176)), (18, .ref (ad 177)), (19, .ref (ad 178)), (21, .int x21), (24, .int x24), (25, .long x25), (28, .int x28), (29, .int x29), (30, .long x30), (33, .int x33)]) (h : fL_law_2117 N xs Lx rec221 rec1998 σ x21 x24 x25 x28 x29 x30 x33 = some res) : W p l e room_1 s m args below meth c H locs kc ns (lw_Z below args s) (F0 m 2117 ls []) := by
  unfold fL_law_2117 at h
  refine lv_iconst (v := 1) hx hb dL_law_2117 (by decide) ?_
  refine lv_goto (tgt := 2122) hx hb dL_law_2118 (by decide) ?_
  exact wL_law_2122 hx hb hr hml hown hg hlocks hK hA hL hfl hZ hX hbl hA2 hres hL2 hrec221 hrec1998 (by first | omega | (simp only [g_l0]; omega)) (by first | omega | (simp only [g_l0]; omega)) (by first | omega | (simp only [g_l0]; omega)) (by first | omega | (simp only [g_l0]; omega)) hY (lv_sub hl [0, 1, 2, 3, 4, 5, 6, 7, 8, 9, 10, 11, 12, 13, 14, 15, 16, 17, 18, 19, 20, 21, 22, 23, 24, 25, 26] rfl) h
def fL_law_2084 (N : Nat) (xs : Nat → Int32) (Lx : Nat) (rec221 : (gS × Int32 × Int32) → Option Int32) (rec1998 : (gS × Int32 × Int64 × Int32 × Int32) → Option Int32) (σ : gS) (x21 : Int32) (x24 : Int32) (x25 : Int64) (x28 : Int32) (x29 : Int32) (x32 : Int32) (x33 : Int32) (x34 : Int32) (xs0 : Int64) (xs1 : Int64) : Option Int32 := if x32 = 0 then (fL_law_2121 N xs Lx rec221 rec1998 σ x21 x24 x25 x28 x29 (xs1 ||| xs0) x33) else (if x34 = 0 then (fL_law_2117 N xs Lx rec221 rec1998 σ x21 x24 x25 x28 x29 (xs1 ||| xs0) x33) else ((fL_at N σ x25 x33).bind fun r_3 => if x28 < 0 ∨ 26 ≤ x28.toNatClampNeg then none else ((fL_at N σ (σ.2.1 171 x28.toNatClampNeg) x33).bind fun r_6 => if r_3 = r_6 then (fL_law_2117 N xs Lx rec221 rec1998 σ x21 x24 x25 x28 x29 (xs1 ||| xs0) x33) else (fL_law_2121 N xs Lx rec221 rec1998 σ x21 x24 x25 x28 x29 (xs1 ||| xs0) x33))))
set_option maxRecDepth 100000 in
set_option maxHeartbeats 1000000 in
theorem wL_law_2084 {rec221 : (gS × Int32 × Int32) → Option Int32} {rec1998 : (gS × Int32 × Int64 × Int32 × Int32) → Option Int32} {σ : gS} {x21 : Int32} {x24 : Int32} {x25 : Int64} {x28 : Int32} {x29 : Int32} {x32 : Int32} {x33 : Int32} {x34 : Int32} {xs0 : Int64} {xs1 : Int64} {ad : Nat → Nat} {kc ns : Nat} (hx : p.tables.exec = Jvm.exec) (hb : c.code = cL_law) (hr : meth.sig.returnType = (some .boolean)) (hml : c.maxLocals = 37) (hown : s.vm.findClass RL = some m.cls) (hg : ∀ w ∈ wsL_law, w.before args s = true) (hlocks : meth.locks = false) (hK : gK D y aS s) (hA : ∀ q, s.heap.size ≤ q → A q) (hL : ∀ k, k < 179 → k ∈ L) (hfl : l.stackTraces = false) (hZ : gZ A s s.heap) (hX : va_X b Lx xs s s.heap) (hbl : b < s.heap.size) (hA2 : ∀ q, A q → s.heap.size ≤ q) (hres : res = 1) (hL2 : ∀ k ∈ L, k < 179) (hrec221 : ∀ {ad : Nat → Nat} {kc ns : Nat} {σ9 : gS} {x20n9 : Int32} {x21n9 : Int32} (hkc : kc ≤ 183 + 643 * x21n9.toInt.toNat + 0) (hns : ns ≤ 3391 + 81814 * x21n9.toInt.toNat + 0) (hi0 : 0 ≤ x21n9.toInt) (hi8 : x21n9.toInt ≤ 80) (H : Heap) (locs : List Loc) (ls : Array Slot), gY D y A s L ad σ9 H locs → lv_has ls 37 [(0, .ref b), (1, .ref (ad 0)), (2, .ref (ad 161)), (3, .ref (ad 162)), (4, .ref (ad 163)), (5, .ref (ad 164)), (6, .ref (ad 165)), (7, .ref (ad 166)), (8, .ref (ad 167)), (9, .ref (ad 168)), (10, .ref (ad 169)), (11, .ref (ad 170)), (12, .ref (ad 171)), (13, .ref (ad 172)), (14, .ref (ad 173)), (15, .ref (ad 174)), (16, .ref (ad 175)), (17, .ref (ad 176)), (18, .ref (ad 177)), (19, .ref (ad 178)), (20, .int x20n9), (21, .int x21n9)] → rec221 (σ9, x20n9, x21n9) = some res → W p l e room_1 s m args below meth c H locs kc ns (lw_Z below args s) (F0 m 221 ls [])) (hrec1998 : ∀ {ad : Nat → Nat} {kc ns : Nat} {σ9 : gS} {x29n9 : Int32} {x30n9 : Int64} {x32n9 : Int32} {x33n9 : Int32} (hkc : kc ≤ 183 + 643 * x21.toInt.toNat + 0) (hns : ns ≤ 3391 + 81814 * x21.toInt.toNat + 0) (hi0 : 0 ≤ x21.toInt) (hi8 : x21.toInt < 80) (H : Heap) (locs : List Loc) (ls : Array Slot), gY D y A s L ad σ9 H locs → lv_has ls 37 [(0, .ref b), (1, .ref (ad 0)), (2, .ref (ad 161)), (3, .ref (ad 162)), (4, .ref (ad 163)), (5, .ref (ad 164)), (6, .ref (ad 165)), (7, .ref (ad 166)), (8, .ref (ad 167)), (9, .ref (ad 168)), (10, .ref (ad 169)), (11, .ref (ad 170)), (12, .ref (ad 171)), (13, .ref (ad 172)), (14, .ref (ad 173)), (15, .ref (ad 174)), (16, .ref (ad 175)), (17, .ref (ad 176)), (18, .ref (ad 177)), (19, .ref (ad 178)), (21, .int x21), (24, .int x24), (25, .long x25), (28, .int x28), (29, .int x29n9), (30, .long x30n9), (32, .int x32n9), (33, .int x33n9)] → rec1998 (σ9, x29n9, x30n9, x32n9, x33n9) = some res → W p l e room_1 s m args below meth c H locs kc ns (lw_Z below args s) (F0 m 1998 ls [])) (hkc : kc ≤ 183 + 643 * x21.toInt.toNat + 0) (hns : ns ≤ 3391 + 81814 * x21.toInt.toNat + 0) (hi0 : 0 ≤ x21.toInt) (hi8 : x21.toInt < 80) {H : Heap} {locs : List Loc} {ls : Array Slot} (hY : gY D y A s L ad σ H locs) (hl : lv_has ls 37 [(0, .ref b), (1, .ref (ad 0)), (2, .ref (ad 161)), (3, .ref (ad 162)), (4, .ref (ad 163)), (5, .ref (ad 164)), (6, .ref (ad 165)), (7, .ref (ad 166)), (8, .ref (ad 167)), (9, .ref (ad 168)), (10, .ref (ad 169)), (11, .ref (ad 170)), (12, .ref (ad 171)), (13, .ref (ad 172)), (14, .ref (ad 173)), (15, .ref (ad 174)), (16, .ref (ad 175)), (17, .ref (ad 176)), (18, .ref (ad 177)), (19, .ref (ad 178)), (21, .int x21), (24, .int x24), (25, .long x25), (28, .int x28), (29, .int x29), (32, .int x32), (33, .int x33), (34, .int x34)]) (h : fL_law_2084 N xs Lx rec221 rec1998 σ x21 x24 x25 x28 x29 x32 x33 x34 xs0 xs1 = some res) : W p l e room_1 s m args below meth c H locs kc ns (lw_Z below args s) (F0 m 2084 ls [.long xs0, .long xs1]) := by
  unfold fL_law_2084 at h
  refine lv_lor hx hb dL_law_2084 ?_
  refine lv_lstore (lv' := [(30, .long (xs1 ||| xs0)), (0, .ref b), (1, .ref (ad 0)), (2, .ref (ad 161)), (3, .ref (ad 162)), (4, .ref (ad 163)), (5, .ref (ad 164)), (6, .ref (ad 165)), (7, .ref (ad 166)), (8, .ref (ad 167)), (9, .ref (ad 168)), (10, .ref (ad 169)), (11, .ref (ad 170)), (12, .ref (ad 171)), (13, .ref (ad 172)), (14, .ref (ad 173)), (15, .ref (ad 174)), (16, .ref (ad 175)), (17, .ref (ad 176)), (18, .ref (ad 177)), (19, .ref (ad 178)), (21, .int x21), (24, .int x24), (25, .long x25), (28, .int x28), (29, .int x29), (32, .int x32), (33, .int x33), (34, .int x34)]) hx hb dL_law_2085 hl (by decide) rfl ?_
  clear hl
  intro ls hl
  refine lv_iload hx hb dL_law_2087 (lv_at hl 26 rfl) ?_
  refine lv_if_eq (tgt := 2121) hx hb dL_law_2089 (by decide) (fun z_1 => ?_) (fun z_1 => ?_)
  ·
    rw [if_pos z_1] at h
    exact wL_law_2121 hx hb hr hml hown hg hlocks hK hA hL hfl hZ hX hbl hA2 hres hL2 hrec221 hrec1998 (by first | omega | (simp only [g_l0]; omega)) (by first | omega | (simp only [g_l0]; omega)) (by first | omega | (simp only [g_l0]; omega)) (by first | omega | (simp only [g_l0]; omega)) hY (lv_sub hl [1, 2, 3, 4, 5, 6, 7, 8, 9, 10, 11, 12, 13, 14, 15, 16, 17, 18, 19, 20, 21, 22, 23, 24, 25, 0, 27] rfl) h
  ·
    rw [if_neg z_1] at h
    refine lv_iload hx hb dL_law_2092 (lv_at hl 28 rfl) ?_
    refine lv_if_eq (tgt := 2117) hx hb dL_law_2094 (by decide) (fun z_2 => ?_) (fun z_2 => ?_)
    ·
      rw [if_pos z_2] at h
      exact wL_law_2117 hx hb hr hml hown hg hlocks hK hA hL hfl hZ hX hbl hA2 hres hL2 hrec221 hrec1998 (by first | omega | (simp only [g_l0]; omega)) (by first | omega | (simp only [g_l0]; omega)) (by first | omega | (simp only [g_l0]; omega)) (by first | omega | (simp only [g_l0]; omega)) hY (lv_sub hl [1, 2, 3, 4, 5, 6, 7, 8, 9, 10, 11, 12, 13, 14, 15, 16, 17, 18, 19, 20, 21, 22, 23, 24, 25, 0, 27] rfl) h
    ·
      rw [if_neg z_2] at h
      refine lv_lload hx hb dL_law_2097 (lv_at hl 23 rfl) ?_
      refine lv_iload hx hb dL_law_2099 (lv_at hl 27 rfl) ?_
      obtain ⟨r_3, e_4, h⟩ := g_bind h
      refine G_ai hY hA (va_runS (As := [.long x25, .int x33]) (rest := []) ⟨hx, hb, hml, hown, hg⟩ (kL_at l D y aS H.size L hL ad N σ x25 x33 _ e_4) (va_cwS 2 hg ggS_RL_29_L_at rfl rfl rfl (by decide +kernel) ⟨Nat.le_of_ble_eq_true rfl, Nat.le_of_ble_eq_true rfl⟩) (G_pS hK hY) rfl rfl hl.1 rfl (lv_room (Nat.le_of_ble_eq_true rfl)) dL_law_2101 ⟨(by first | omega | (show _ ≤ (600086 : Nat); omega) | (show _ ≤ (7301442 : Nat); omega)), (by first | omega | (show _ ≤ (600086 : Nat); omega) | (show _ ≤ (7301442 : Nat); omega))⟩) ?_
      clear hY
      rintro _ H locs rfl hY
      refine lv_aload hx hb dL_law_2104 (lv_at hl 13 rfl) ?_
      refine lv_iload hx hb dL_law_2106 (lv_at hl 24 rfl) ?_
      obtain ⟨z_5, h⟩ := g_guard h
      refine G_lald (j := x28.toNatClampNeg) hx hb hK hY (hL 171 (by decide)) gk_171 (by rw [gl_171]; exact z_5) rfl dL_law_2108 ?_
      refine lv_iload hx hb dL_law_2109 (lv_at hl 27 rfl) ?_
      obtain ⟨r_6, e_7, h⟩ := g_bind h
      refine G_ai hY hA (va_runS (As := [.long (σ.2.1 171 x28.toNatClampNeg), .int x33]) (rest := [.int r_3]) ⟨hx, hb, hml, hown, hg⟩ (kL_at l D y aS H.size L hL ad N σ (σ.2.1 171 x28.toNatClampNeg) x33 _ e_7) (va_cwS 2 hg ggS_RL_29_L_at rfl rfl rfl (by decide +kernel) ⟨Nat.le_of_ble_eq_true rfl, Nat.le_of_ble_eq_true rfl⟩) (G_pS hK hY) rfl rfl hl.1 rfl (lv_room (Nat.le_of_ble_eq_true rfl)) dL_law_2111 ⟨(by first | omega | (show _ ≤ (600086 : Nat); omega) | (show _ ≤ (7301442 : Nat); omega)), (by first | omega | (show _ ≤ (600086 : Nat); omega) | (show _ ≤ (7301442 : Nat); omega))⟩) ?_
      clear hY
      rintro _ H locs rfl hY
      refine lv_icmp_ne (tgt := 2121) hx hb dL_law_2114 (by decide) (fun z_8 => ?_) (fun z_8 => ?_)
      ·
        rw [if_neg z_8] at h
        exact wL_law_2121 hx hb hr hml hown hg hlocks hK hA hL hfl hZ hX hbl hA2 hres hL2 hrec221 hrec1998 (by first | omega | (simp only [g_l0]; omega)) (by first | omega | (simp only [g_l0]; omega)) (by first | omega | (simp only [g_l0]; omega)) (by first | omega | (simp only [g_l0]; omega)) hY (lv_sub hl [1, 2, 3, 4, 5, 6, 7, 8, 9, 10, 11, 12, 13, 14, 15, 16, 17, 18, 19, 20, 21, 22, 23, 24, 25, 0, 27] rfl) h
      ·
        rw [if_pos z_8] at h
        exact wL_law_2117 hx hb hr hml hown hg hlocks hK hA hL hfl hZ hX hbl hA2 hres hL2 hrec221 hrec1998 (by first | omega | (simp only [g_l0]; omega)) (by first | omega | (simp only [g_l0]; omega)) (by first | omega | (simp only [g_l0]; omega)) (by first | omega | (simp only [g_l0]; omega)) hY (lv_sub hl [1, 2, 3, 4, 5, 6, 7, 8, 9, 10, 11, 12, 13, 14, 15, 16, 17, 18, 19, 20, 21, 22, 23, 24, 25, 0, 27] rfl) h
def fL_law_2052 (N : Nat) (xs : Nat → Int32) (Lx : Nat) (rec221 : (gS × Int32 × Int32) → Option Int32) (rec1998 : (gS × Int32 × Int64 × Int32 × Int32) → Option Int32) (σ : gS) (x21 : Int32) (x24 : Int32) (x25 : Int64) (x28 : Int32) (x30 : Int64) (x32 : Int32) (x33 : Int32) (x34 : Int32) (xs0 : Int32) (xs1 : Int32) : Option Int32 := if x34 = 0 then (fL_law_2084 N xs Lx rec221 rec1998 σ x21 x24 x25 x28 (xs1 ||| xs0) x32 x33 x34 0 x30) else (if (x28 - 1) < 0 ∨ 26 ≤ (x28 - 1).toNatClampNeg then none else ((fL_at N σ (σ.2.1 171 ((x28 - 1).toNatClampNeg)) x33).bind fun r_3 => fL_law_2084 N xs Lx rec221 rec1998 σ x21 x24 x25 x28 (xs1 ||| xs0) x32 x33 x34 (((r_3.toInt64) <<< ((4 * x33).toInt64 &&& 63))) x30))
set_option maxRecDepth 100000 in
set_option maxHeartbeats 1000000 in
theorem wL_law_2052 {rec221 : (gS × Int32 × Int32) → Option Int32} {rec1998 : (gS × Int32 × Int64 × Int32 × Int32) → Option Int32} {σ : gS} {x21 : Int32} {x24 : Int32} {x25 : Int64} {x28 : Int32} {x30 : Int64} {x32 : Int32} {x33 : Int32} {x34 : Int32} {xs0 : Int32} {xs1 : Int32} {ad : Nat → Nat} {kc ns : Nat} (hx : p.tables.exec = Jvm.exec) (hb : c.code = cL_law) (hr : meth.sig.returnType = (some .boolean)) (hml : c.maxLocals = 37) (hown : s.vm.findClass RL = some m.cls) (hg : ∀ w ∈ wsL_law, w.before args s = true) (hlocks : meth.locks = false) (hK : gK D y aS s) (hA : ∀ q, s.heap.size ≤ q → A q) (hL : ∀ k, k < 179 → k ∈ L) (hfl : l.stackTraces = false) (hZ : gZ A s s.heap) (hX : va_X b Lx xs s s.heap) (hbl : b < s.heap.size) (hA2 : ∀ q, A q → s.heap.size ≤ q) (hres : res = 1) (hL2 : ∀ k ∈ L, k < 179) (hrec221 : ∀ {ad : Nat → Nat} {kc ns : Nat} {σ9 : gS} {x20n9 : Int32} {x21n9 : Int32} (hkc : kc ≤ 183 + 643 * x21n9.toInt.toNat + 0) (hns : ns ≤ 3391 + 81814 * x21n9.toInt.toNat + 0) (hi0 : 0 ≤ x21n9.toInt) (hi8 : x21n9.toInt ≤ 80) (H : Heap) (locs : List Loc) (ls : Array Slot), gY D y A s L ad σ9 H locs → lv_has ls 37 [(0, .ref b), (1, .ref (ad 0)), (2, .ref (ad 161)), (3, .ref (ad 162)), (4, .ref (ad 163)), (5, .ref (ad 164)), (6, .ref (ad 165)), (7, .ref (ad 166)), (8, .ref (ad 167)), (9, .ref (ad 168)), (10, .ref (ad 169)), (11, .ref (ad 170)), (12, .ref (ad 171)), (13, .ref (ad 172)), (14, .ref (ad 173)), (15, .ref (ad 174)), (16, .ref (ad 175)), (17, .ref (ad 176)), (18, .ref (ad 177)), (19, .ref (ad 178)), (20, .int x20n9), (21, .int x21n9)] → rec221 (σ9, x20n9, x21n9) = some res → W p l e room_1 s m args below meth c H locs kc ns (lw_Z below args s) (F0 m 221 ls [])) (hrec1998 : ∀ {ad : Nat → Nat} {kc ns : Nat} {σ9 : gS} {x29n9 : Int32} {x30n9 : Int64} {x32n9 : Int32} {x33n9 : Int32} (hkc : kc ≤ 183 + 643 * x21.toInt.toNat + 0) (hns : ns ≤ 3391 + 81814 * x21.toInt.toNat + 0) (hi0 : 0 ≤ x21.toInt) (hi8 : x21.toInt < 80) (H : Heap) (locs : List Loc) (ls : Array Slot), gY D y A s L ad σ9 H locs → lv_has ls 37 [(0, .ref b), (1, .ref (ad 0)), (2, .ref (ad 161)), (3, .ref (ad 162)), (4, .ref (ad 163)), (5, .ref (ad 164)), (6, .ref (ad 165)), (7, .ref (ad 166)), (8, .ref (ad 167)), (9, .ref (ad 168)), (10, .ref (ad 169)), (11, .ref (ad 170)), (12, .ref (ad 171)), (13, .ref (ad 172)), (14, .ref (ad 173)), (15, .ref (ad 174)), (16, .ref (ad 175)), (17, .ref (ad 176)), (18, .ref (ad 177)), (19, .ref (ad 178)), (21, .int x21), (24, .int x24), (25, .long x25), (28, .int x28), (29, .int x29n9), (30, .long x30n9), (32, .int x32n9), (33, .int x33n9)] → rec1998 (σ9, x29n9, x30n9, x32n9, x33n9) = some res → W p l e room_1 s m args below meth c H locs kc ns (lw_Z below args s) (F0 m 1998 ls [])) (hkc : kc ≤ 183 + 643 * x21.toInt.toNat + 0) (hns : ns ≤ 3391 + 81814 * x21.toInt.toNat + 0) (hi0 : 0 ≤ x21.toInt) (hi8 : x21.toInt < 80) {H : Heap} {locs : List Loc} {ls : Array Slot} (hY : gY D y A s L ad σ H locs) (hl : lv_has ls 37 [(0, .ref b), (1, .ref (ad 0)), (2, .ref (ad 161)), (3, .ref (ad 162)), (4, .ref (ad 163)), (5, .ref (ad 164)), (6, .ref (ad 165)), (7, .ref (ad 166)), (8, .ref (ad 167)), (9, .ref (ad 168)), (10, .ref (ad 169)), (11, .ref (ad 170)), (12, .ref (ad 171)), (13, .ref (ad 172)), (14, .ref (ad 173)), (15, .ref (ad 174)), (16, .ref (ad 175)), (17, .ref (ad 176)), (18, .ref (ad 177)), (19, .ref (ad 178)), (21, .int x21), (24, .int x24), (25, .long x25), (28, .int x28), (30, .long x30), (32, .int x32), (33, .int x33), (34, .int x34)]) (h : fL_law_2052 N xs Lx rec221 rec1998 σ x21 x24 x25 x28 x30 x32 x33 x34 xs0 xs1 = some res) : W p l e room_1 s m args below meth c H locs kc ns (lw_Z below args s) (F0 m 2052 ls [.int xs0, .int xs1]) := by
  unfold fL_law_2052 at h
  refine lv_ior hx hb dL_law_2052 ?_
  refine lv_istore (lv' := [(29, .int (xs1 ||| xs0)), (0, .ref b), (1, .ref (ad 0)), (2, .ref (ad 161)), (3, .ref (ad 162)), (4, .ref (ad 163)), (5, .ref (ad 164)), (6, .ref (ad 165)), (7, .ref (ad 166)), (8, .ref (ad 167)), (9, .ref (ad 168)), (10, .ref (ad 169)), (11, .ref (ad 170)), (12, .ref (ad 171)), (13, .ref (ad 172)), (14, .ref (ad 173)), (15, .ref (ad 174)), (16, .ref (ad 175)), (17, .ref (ad 176)), (18, .ref (ad 177)), (19, .ref (ad 178)), (21, .int x21), (24, .int x24), (25, .long x25), (28, .int x28), (30, .long x30), (32, .int x32), (33, .int x33), (34, .int x34)]) hx hb dL_law_2053 hl (by decide) rfl ?_
  clear hl
  intro ls hl
  refine lv_lload hx hb dL_law_2055 (lv_at hl 25 rfl) ?_
  refine lv_iload hx hb dL_law_2057 (lv_at hl 28 rfl) ?_
  refine lv_if_eq (tgt := 2083) hx hb dL_law_2059 (by decide) (fun z_1 => ?_) (fun z_1 => ?_)
  ·
    rw [if_pos z_1] at h
    refine lv_lconst (v := 0) hx hb dL_law_2083 (by decide) ?_
    exact wL_law_2084 hx hb hr hml hown hg hlocks hK hA hL hfl hZ hX hbl hA2 hres hL2 hrec221 hrec1998 (by first | omega | (simp only [g_l0]; omega)) (by first | omega | (simp only [g_l0]; omega)) (by first | omega | (simp only [g_l0]; omega)) (by first | omega | (simp only [g_l0]; omega)) hY (lv_sub hl [1, 2, 3, 4, 5, 6, 7, 8, 9, 10, 11, 12, 13, 14, 15, 16, 17, 18, 19, 20, 21, 22, 23, 24, 0, 26, 27, 28] rfl) h
  ·
    rw [if_neg z_1] at h
    refine lv_aload hx hb dL_law_2062 (lv_at hl 13 rfl) ?_
    refine lv_iload hx hb dL_law_2064 (lv_at hl 24 rfl) ?_
    refine lv_iconst (v := 1) hx hb dL_law_2066 (by decide) ?_
    refine lv_isub hx hb dL_law_2067 ?_
    obtain ⟨z_2, h⟩ := g_guard h
    refine G_lald (j := (x28 - 1).toNatClampNeg) hx hb hK hY (hL 171 (by decide)) gk_171 (by rw [gl_171]; exact z_2) rfl dL_law_2068 ?_
    refine lv_iload hx hb dL_law_2069 (lv_at hl 27 rfl) ?_
    obtain ⟨r_3, e_4, h⟩ := g_bind h
    refine G_ai hY hA (va_runS (As := [.long (σ.2.1 171 ((x28 - 1).toNatClampNeg)), .int x33]) (rest := [.long x30]) ⟨hx, hb, hml, hown, hg⟩ (kL_at l D y aS H.size L hL ad N σ (σ.2.1 171 ((x28 - 1).toNatClampNeg)) x33 _ e_4) (va_cwS 2 hg ggS_RL_29_L_at rfl rfl rfl (by decide +kernel) ⟨Nat.le_of_ble_eq_true rfl, Nat.le_of_ble_eq_true rfl⟩) (G_pS hK hY) rfl rfl hl.1 rfl (lv_room (Nat.le_of_ble_eq_true rfl)) dL_law_2071 ⟨(by first | omega | (show _ ≤ (600086 : Nat); omega) | (show _ ≤ (7301442 : Nat); omega)), (by first | omega | (show _ ≤ (600086 : Nat); omega) | (show _ ≤ (7301442 : Nat); omega))⟩) ?_
    clear hY
    rintro _ H locs rfl hY
    refine lv_i2l (v := (r_3.toInt64)) hx hb dL_law_2074 rfl ?_
    refine lv_iconst (v := 4) hx hb dL_law_2075 (by decide) ?_
    refine lv_iload hx hb dL_law_2076 (lv_at hl 27 rfl) ?_
    refine lv_imul hx hb dL_law_2078 ?_
    refine lv_lshl (v := (((r_3.toInt64) <<< ((4 * x33).toInt64 &&& 63)))) hx hb dL_law_2079 rfl ?_
    refine lv_goto (tgt := 2084) hx hb dL_law_2080 (by decide) ?_
    exact wL_law_2084 hx hb hr hml hown hg hlocks hK hA hL hfl hZ hX hbl hA2 hres hL2 hrec221 hrec1998 (by first | omega | (simp only [g_l0]; omega)) (by first | omega | (simp only [g_l0]; omega)) (by first | omega | (simp only [g_l0]; omega)) (by first | omega | (simp only [g_l0]; omega)) hY (lv_sub hl [1, 2, 3, 4, 5, 6, 7, 8, 9, 10, 11, 12, 13, 14, 15, 16, 17, 18, 19, 20, 21, 22, 23, 24, 0, 26, 27, 28] rfl) h
def fL_law_2035 (N : Nat) (xs : Nat → Int32) (Lx : Nat) (rec221 : (gS × Int32 × Int32) → Option Int32) (rec1998 : (gS × Int32 × Int64 × Int32 × Int32) → Option Int32) (σ : gS) (x21 : Int32) (x24 : Int32) (x25 : Int64) (x28 : Int32) (x29 : Int32) (x30 : Int64) (x32 : Int32) (x33 : Int32) (xs0 : Int32) : Option Int32 := if xs0 = 0 then (fL_law_2052 N xs Lx rec221 rec1998 σ x21 x24 x25 x28 x30 x32 x33 xs0 0 x29) else (fL_law_2052 N xs Lx rec221 rec1998 σ x21 x24 x25 x28 x30 x32 x33 xs0 ((1 : Int32) <<< (x33 &&& 31)) x29)
set_option maxRecDepth 100000 in
set_option maxHeartbeats 1000000 in
theorem wL_law_2035 {rec221 : (gS × Int32 × Int32) → Option Int32} {rec1998 : (gS × Int32 × Int64 × Int32 × Int32) → Option Int32} {σ : gS} {x21 : Int32} {x24 : Int32} {x25 : Int64} {x28 : Int32} {x29 : Int32} {x30 : Int64} {x32 : Int32} {x33 : Int32} {xs0 : Int32} {ad : Nat → Nat} {kc ns : Nat} (hx : p.tables.exec = Jvm.exec) (hb : c.code = cL_law) (hr : meth.sig.returnType = (some .boolean)) (hml : c.maxLocals = 37) (hown : s.vm.findClass RL = some m.cls) (hg : ∀ w ∈ wsL_law, w.before args s = true) (hlocks : meth.locks = false) (hK : gK D y aS s) (hA : ∀ q, s.heap.size ≤ q → A q) (hL : ∀ k, k < 179 → k ∈ L) (hfl : l.stackTraces = false) (hZ : gZ A s s.heap) (hX : va_X b Lx xs s s.heap) (hbl : b < s.heap.size) (hA2 : ∀ q, A q → s.heap.size ≤ q) (hres : res = 1) (hL2 : ∀ k ∈ L, k < 179) (hrec221 : ∀ {ad : Nat → Nat} {kc ns : Nat} {σ9 : gS} {x20n9 : Int32} {x21n9 : Int32} (hkc : kc ≤ 183 + 643 * x21n9.toInt.toNat + 0) (hns : ns ≤ 3391 + 81814 * x21n9.toInt.toNat + 0) (hi0 : 0 ≤ x21n9.toInt) (hi8 : x21n9.toInt ≤ 80) (H : Heap) (locs : List Loc) (ls : Array Slot), gY D y A s L ad σ9 H locs → lv_has ls 37 [(0, .ref b), (1, .ref (ad 0)), (2, .ref (ad 161)), (3, .ref (ad 162)), (4, .ref (ad 163)), (5, .ref (ad 164)), (6, .ref (ad 165)), (7, .ref (ad 166)), (8, .ref (ad 167)), (9, .ref (ad 168)), (10, .ref (ad 169)), (11, .ref (ad 170)), (12, .ref (ad 171)), (13, .ref (ad 172)), (14, .ref (ad 173)), (15, .ref (ad 174)), (16, .ref (ad 175)), (17, .ref (ad 176)), (18, .ref (ad 177)), (19, .ref (ad 178)), (20, .int x20n9), (21, .int x21n9)] → rec221 (σ9, x20n9, x21n9) = some res → W p l e room_1 s m args below meth c H locs kc ns (lw_Z below args s) (F0 m 221 ls [])) (hrec1998 : ∀ {ad : Nat → Nat} {kc ns : Nat} {σ9 : gS} {x29n9 : Int32} {x30n9 : Int64} {x32n9 : Int32} {x33n9 : Int32} (hkc : kc ≤ 183 + 643 * x21.toInt.toNat + 0) (hns : ns ≤ 3391 + 81814 * x21.toInt.toNat + 0) (hi0 : 0 ≤ x21.toInt) (hi8 : x21.toInt < 80) (H : Heap) (locs : List Loc) (ls : Array Slot), gY D y A s L ad σ9 H locs → lv_has ls 37 [(0, .ref b), (1, .ref (ad 0)), (2, .ref (ad 161)), (3, .ref (ad 162)), (4, .ref (ad 163)), (5, .ref (ad 164)), (6, .ref (ad 165)), (7, .ref (ad 166)), (8, .ref (ad 167)), (9, .ref (ad 168)), (10, .ref (ad 169)), (11, .ref (ad 170)), (12, .ref (ad 171)), (13, .ref (ad 172)), (14, .ref (ad 173)), (15, .ref (ad 174)), (16, .ref (ad 175)), (17, .ref (ad 176)), (18, .ref (ad 177)), (19, .ref (ad 178)), (21, .int x21), (24, .int x24), (25, .long x25), (28, .int x28), (29, .int x29n9), (30, .long x30n9), (32, .int x32n9), (33, .int x33n9)] → rec1998 (σ9, x29n9, x30n9, x32n9, x33n9) = some res → W p l e room_1 s m args below meth c H locs kc ns (lw_Z below args s) (F0 m 1998 ls [])) (hkc : kc ≤ 183 + 643 * x21.toInt.toNat + 0) (hns : ns ≤ 3391 + 81814 * x21.toInt.toNat + 0) (hi0 : 0 ≤ x21.toInt) (hi8 : x21.toInt < 80) {H : Heap} {locs : List Loc} {ls : Array Slot} (hY : gY D y A s L ad σ H locs) (hl : lv_has ls 37 [(0, .ref b), (1, .ref (ad 0)), (2, .ref (ad 161)), (3, .ref (ad 162)), (4, .ref (ad 163)), (5, .ref (ad 164)), (6, .ref (ad 165)), (7, .ref (ad 166)), (8, .ref (ad 167)), (9, .ref (ad 168)), (10, .ref (ad 169)), (11, .ref (ad 170)), (12, .ref (ad 171)), (13, .ref (ad 172)), (14, .ref (ad 173)), (15, .ref (ad 174)), (16, .ref (ad 175)), (17, .ref (ad 176)), (18, .ref (ad 177)), (19, .ref (ad 178)), (21, .int x21), (24, .int x24), (25, .long x25), (28, .int x28), (29, .int x29), (30, .long x30), (32, .int x32), (33, .int x33)]) (h : fL_law_2035 N xs Lx rec221 rec1998 σ x21 x24 x25 x28 x29 x30 x32 x33 xs0 = some res) : W p l e room_1 s m args below meth c H locs kc ns (lw_Z below args s) (F0 m 2035 ls [.int xs0]) := by
  unfold fL_law_2035 at h
  refine lv_istore (lv' := [(34, .int xs0), (0, .ref b), (1, .ref (ad 0)), (2, .ref (ad 161)), (3, .ref (ad 162)), (4, .ref (ad 163)), (5, .ref (ad 164)), (6, .ref (ad 165)), (7, .ref (ad 166)), (8, .ref (ad 167)), (9, .ref (ad 168)), (10, .ref (ad 169)), (11, .ref (ad 170)), (12, .ref (ad 171)), (13, .ref (ad 172)), (14, .ref (ad 173)), (15, .ref (ad 174)), (16, .ref (ad 175)), (17, .ref (ad 176)), (18, .ref (ad 177)), (19, .ref (ad 178)), (21, .int x21), (24, .int x24), (25, .long x25), (28, .int x28), (29, .int x29), (30, .long x30), (32, .int x32), (33, .int x33)]) hx hb dL_law_2035 hl (by decide) rfl ?_
  clear hl
  intro ls hl
  refine lv_iload hx hb dL_law_2037 (lv_at hl 25 rfl) ?_
  refine lv_iload hx hb dL_law_2039 (lv_at hl 0 rfl) ?_
  refine lv_if_eq (tgt := 2051) hx hb dL_law_2041 (by decide) (fun z_1 => ?_) (fun z_1 => ?_)
  ·
    rw [if_pos z_1] at h
    refine lv_iconst (v := 0) hx hb dL_law_2051 (by decide) ?_
    exact wL_law_2052 hx hb hr hml hown hg hlocks hK hA hL hfl hZ hX hbl hA2 hres hL2 hrec221 hrec1998 (by first | omega | (simp only [g_l0]; omega)) (by first | omega | (simp only [g_l0]; omega)) (by first | omega | (simp only [g_l0]; omega)) (by first | omega | (simp only [g_l0]; omega)) hY (lv_sub hl [1, 2, 3, 4, 5, 6, 7, 8, 9, 10, 11, 12, 13, 14, 15, 16, 17, 18, 19, 20, 21, 22, 23, 24, 26, 27, 28, 0] rfl) h
  ·
    rw [if_neg z_1] at h
    refine lv_iconst (v := 1) hx hb dL_law_2044 (by decide) ?_
    refine lv_iload hx hb dL_law_2045 (lv_at hl 28 rfl) ?_
    refine lv_ishl hx hb dL_law_2047 ?_
    refine lv_goto (tgt := 2052) hx hb dL_law_2048 (by decide) ?_
    exact wL_law_2052 hx hb hr hml hown hg hlocks hK hA hL hfl hZ hX hbl hA2 hres hL2 hrec221 hrec1998 (by first | omega | (simp only [g_l0]; omega)) (by first | omega | (simp only [g_l0]; omega)) (by first | omega | (simp only [g_l0]; omega)) (by first | omega | (simp only [g_l0]; omega)) hY (lv_sub hl [1, 2, 3, 4, 5, 6, 7, 8, 9, 10, 11, 12, 13, 14, 15, 16, 17, 18, 19, 20, 21, 22, 23, 24, 26, 27, 28, 0] rfl) h
def fL_law_1998 (N : Nat) (xs : Nat → Int32) (Lx : Nat) (rec221 : (gS × Int32 × Int32) → Option Int32) (x21 : Int32) (x24 : Int32) (x25 : Int64) (x28 : Int32) (rec1998 : (gS × Int32 × Int64 × Int32 × Int32) → Option Int32) (xx : gS × Int32 × Int64 × Int32 × Int32) : Option Int32 := match xx with
  | (σ, x29, x30, x32, x33) => if 12 ≤ x33 then ((fL_does N σ (6 : Int32) x28 ((x24 / 5) - (x24 / 5) / 8 * 8) (0 : Int32)).bind fun r_2 => if x32 = 0 then (fL_law_2159 N xs Lx rec221 r_2.2 x21 x24 x25 x29 x30 x32 (-13) r_2.1) else (fL_law_2159 N xs Lx rec221 r_2.2 x21 x24 x25 x29 x30 x32 (r_2.2.1 161 0) r_2.1)) else (if x28 < 0 ∨ 26 ≤ x28.toNatClampNeg then none else ((fL_at N σ (σ.2.1 171 x28.toNatClampNeg) x33).bind fun r_6 => if (x28 - 1) < 0 ∨ 26 ≤ (x28 - 1).toNatClampNeg then none else ((fL_at N σ (σ.2.1 171 ((x28 - 1).toNatClampNeg)) x33).bind fun r_9 => if r_6 = r_9 then (fL_law_2035 N xs Lx rec221 rec1998 σ x21 x24 x25 x28 x29 x30 x32 x33 0) else (fL_law_2035 N xs Lx rec221 rec1998 σ x21 x24 x25 x28 x29 x30 x32 x33 1))))
set_option maxRecDepth 100000 in
set_option maxHeartbeats 1000000 in
theorem wL_law_1998 {rec221 : (gS × Int32 × Int32) → Option Int32} {x21 : Int32} {x24 : Int32} {x25 : Int64} {x28 : Int32} (hx : p.tables.exec = Jvm.exec) (hb : c.code = cL_law) (hr : meth.sig.returnType = (some .boolean)) (hml : c.maxLocals = 37) (hown : s.vm.findClass RL = some m.cls) (hg : ∀ w ∈ wsL_law, w.before args s = true) (hlocks : meth.locks = false) (hK : gK D y aS s) (hA : ∀ q, s.heap.size ≤ q → A q) (hL : ∀ k, k < 179 → k ∈ L) (hfl : l.stackTraces = false) (hZ : gZ A s s.heap) (hX : va_X b Lx xs s s.heap) (hbl : b < s.heap.size) (hA2 : ∀ q, A q → s.heap.size ≤ q) (hres : res = 1) (hL2 : ∀ k ∈ L, k < 179) (hrec221 : ∀ {ad : Nat → Nat} {kc ns : Nat} {σ9 : gS} {x20n9 : Int32} {x21n9 : Int32} (hkc : kc ≤ 183 + 643 * x21n9.toInt.toNat + 0) (hns : ns ≤ 3391 + 81814 * x21n9.toInt.toNat + 0) (hi0 : 0 ≤ x21n9.toInt) (hi8 : x21n9.toInt ≤ 80) (H : Heap) (locs : List Loc) (ls : Array Slot), gY D y A s L ad σ9 H locs → lv_has ls 37 [(0, .ref b), (1, .ref (ad 0)), (2, .ref (ad 161)), (3, .ref (ad 162)), (4, .ref (ad 163)), (5, .ref (ad 164)), (6, .ref (ad 165)), (7, .ref (ad 166)), (8, .ref (ad 167)), (9, .ref (ad 168)), (10, .ref (ad 169)), (11, .ref (ad 170)), (12, .ref (ad 171)), (13, .ref (ad 172)), (14, .ref (ad 173)), (15, .ref (ad 174)), (16, .ref (ad 175)), (17, .ref (ad 176)), (18, .ref (ad 177)), (19, .ref (ad 178)), (20, .int x20n9), (21, .int x21n9)] → rec221 (σ9, x20n9, x21n9) = some res → W p l e room_1 s m args below meth c H locs kc ns (lw_Z below args s) (F0 m 221 ls [])) : ∀ (n : Nat) {ad : Nat → Nat} {kc ns : Nat} {σ : gS} {x29 : Int32} {x30 : Int64} {x32 : Int32} {x33 : Int32} (hkc : kc ≤ 183 + 643 * x21.toInt.toNat + 0) (hns : ns ≤ 3391 + 81814 * x21.toInt.toNat + 0) (hi0 : 0 ≤ x21.toInt) (hi8 : x21.toInt < 80) (H : Heap) (locs : List Loc) (ls : Array Slot), gY D y A s L ad σ H locs → lv_has ls 37 [(0, .ref b), (1, .ref (ad 0)), (2, .ref (ad 161)), (3, .ref (ad 162)), (4, .ref (ad 163)), (5, .ref (ad 164)), (6, .ref (ad 165)), (7, .ref (ad 166)), (8, .ref (ad 167)), (9, .ref (ad 168)), (10, .ref (ad 169)), (11, .ref (ad 170)), (12, .ref (ad 171)), (13, .ref (ad 172)), (14, .ref (ad 173)), (15, .ref (ad 174)), (16, .ref (ad 175)), (17, .ref (ad 176)), (18, .ref (ad 177)), (19, .ref (ad 178)), (21, .int x21), (24, .int x24), (25, .long x25), (28, .int x28), (29, .int x29), (30, .long x30), (32, .int x32), (33, .int x33)] → lp (fL_law_1998 N xs Lx rec221 x21 x24 x25 x28) n (σ, x29, x30, x32, x33) = some res → W p l e room_1 s m args below meth c H locs kc ns (lw_Z below args s) (F0 m 1998 ls []) := by
  intro n
  induction n with
  | zero => intro ad kc ns σ x29 x30 x32 x33 hkc hns hi0 hi8 H locs ls hY hl h; exact nomatch (show none = some res from h)
  | succ n hrec1998 =>
    intro ad kc ns σ x29 x30 x32 x33 hkc hns hi0 hi8 H locs ls hY hl h
    replace h : fL_law_1998 N xs Lx rec221 x21 x24 x25 x28 (lp (fL_law_1998 N xs Lx rec221 x21 x24 x25 x28) n) (σ, x29, x30, x32, x33) = some res := h
    generalize lp (fL_law_1998 N xs Lx rec221 x21 x24 x25 x28) n = rec1998 at h hrec1998
    unfold fL_law_1998 at h
    try dsimp only at h
    refine lv_iload hx hb dL_law_1998 (lv_at hl 27 rfl) ?_
    refine lv_bipush (v := 12) hx hb dL_law_2000 (by decide +kernel) ?_
    refine lv_icmp_ge (tgt := 2130) hx hb dL_law_2002 (by decide) (fun z_1 => ?_) (fun z_1 => ?_)
    ·
      rw [if_pos z_1] at h
      have qz_1 := g_get z_1; (try simp only [g_l0, g_l3, g_l6, g_l80] at qz_1)
      refine lv_aload_n hx hb dL_law_2130 rfl (lv_at hl 1 rfl) ?_
      refine lv_bipush (v := 6) hx hb dL_law_2131 (by decide +kernel) ?_
      refine lv_iload hx hb dL_law_2133 (lv_at hl 23 rfl) ?_
      refine lv_iload hx hb dL_law_2135 (lv_at hl 21 rfl) ?_
      refine lv_iconst (v := 5) hx hb dL_law_2137 (by decide) ?_
      refine lv_idiv hx hb dL_law_2138 (by decide +kernel) ?_
      refine lv_bipush (v := 8) hx hb dL_law_2139 (by decide +kernel) ?_
      refine lv_irem hx hb dL_law_2141 (by decide +kernel) ?_
      refine lv_iconst (v := 0) hx hb dL_law_2142 (by decide) ?_
      obtain ⟨r_2, e_3, h⟩ := g_bind h
      refine G_aiC hY hA (vx_runSW (As := [.ref (ad 0), .int 6, .int x28, .int ((x24 / 5) - (x24 / 5) / 8 * 8), .int 0]) (rest := []) ⟨hx, hb, hml, hown, hg⟩ (kL_does l hfl D y aS H.size L hL ad N σ (6 : Int32) x28 ((x24 / 5) - (x24 / 5) / 8 * 8) (0 : Int32) _ e_3) (vx_cwSW 5 hg ggS_RL_161_L_does rfl rfl rfl (by decide +kernel) ⟨Nat.le_of_ble_eq_true rfl, Nat.le_of_ble_eq_true rfl⟩) (G_xpS hZ hA hK hY) rfl rfl hl.1 rfl (lv_room (Nat.le_of_ble_eq_true rfl)) dL_law_2143 ⟨(by first | omega | (show _ ≤ (600086 : Nat); omega) | (show _ ≤ (7301442 : Nat); omega)), (by first | omega | (show _ ≤ (600086 : Nat); omega) | (show _ ≤ (7301442 : Nat); omega))⟩) ?_
      clear hY
      rintro _ H locs rfl hY
      refine lv_iload hx hb dL_law_2146 (lv_at hl 26 rfl) ?_
      refine lv_if_eq (tgt := 2157) hx hb dL_law_2148 (by decide) (fun z_4 => ?_) (fun z_4 => ?_)
      ·
        rw [if_pos z_4] at h
        refine lv_bipush (v := (-13)) hx hb dL_law_2157 (by decide +kernel) ?_
        exact wL_law_2159 hx hb hr hml hown hg hlocks hK hA hL hfl hZ hX hbl hA2 hres hL2 hrec221 (by first | omega | (simp only [g_l0]; omega)) (by first | omega | (simp only [g_l0]; omega)) (by first | omega | (simp only [g_l0]; omega)) (by first | omega | (simp only [g_l0]; omega)) hY (lv_sub hl [0, 1, 2, 3, 4, 5, 6, 7, 8, 9, 10, 11, 12, 13, 14, 15, 16, 17, 18, 19, 20, 21, 22, 24, 25, 26] rfl) h
      ·
        rw [if_neg z_4] at h
        refine lv_aload_n hx hb dL_law_2151 rfl (lv_at hl 2 rfl) ?_
        refine lv_iconst (v := 0) hx hb dL_law_2152 (by decide) ?_
        refine G_iald (j := 0) hx hb hK hY (hL 161 (by decide)) gk_161 (by rw [gl_161]; decide +kernel) (by decide +kernel) dL_law_2153 ?_
        refine lv_goto (tgt := 2159) hx hb dL_law_2154 (by decide) ?_
        exact wL_law_2159 hx hb hr hml hown hg hlocks hK hA hL hfl hZ hX hbl hA2 hres hL2 hrec221 (by first | omega | (simp only [g_l0]; omega)) (by first | omega | (simp only [g_l0]; omega)) (by first | omega | (simp only [g_l0]; omega)) (by first | omega | (simp only [g_l0]; omega)) hY (lv_sub hl [0, 1, 2, 3, 4, 5, 6, 7, 8, 9, 10, 11, 12, 13, 14, 15, 16, 17, 18, 19, 20, 21, 22, 24, 25, 26] rfl) h
    ·
      rw [if_neg z_1] at h
      have qz_1 := g_gef z_1; (try simp only [g_l0, g_l3, g_l6, g_l80] at qz_1)
      refine lv_aload hx hb dL_law_2005 (lv_at hl 12 rfl) ?_
      refine lv_iload hx hb dL_law_2007 (lv_at hl 23 rfl) ?_
      obtain ⟨z_5, h⟩ := g_guard h
      refine G_lald (j := x28.toNatClampNeg) hx hb hK hY (hL 171 (by decide)) gk_171 (by rw [gl_171]; exact z_5) rfl dL_law_2009 ?_
      refine lv_iload hx hb dL_law_2010 (lv_at hl 27 rfl) ?_
      obtain ⟨r_6, e_7, h⟩ := g_bind h
      refine G_ai hY hA (va_runS (As := [.long (σ.2.1 171 x28.toNatClampNeg), .int x33]) (rest := []) ⟨hx, hb, hml, hown, hg⟩ (kL_at l D y aS H.size L hL ad N σ (σ.2.1 171 x28.toNatClampNeg) x33 _ e_7) (va_cwS 2 hg ggS_RL_29_L_at rfl rfl rfl (by decide +kernel) ⟨Nat.le_of_ble_eq_true rfl, Nat.le_of_ble_eq_true rfl⟩) (G_pS hK hY) rfl rfl hl.1 rfl (lv_room (Nat.le_of_ble_eq_true rfl)) dL_law_2012 ⟨(by first | omega | (show _ ≤ (600086 : Nat); omega) | (show _ ≤ (7301442 : Nat); omega)), (by first | omega | (show _ ≤ (600086 : Nat); omega) | (show _ ≤ (7301442 : Nat); omega))⟩) ?_
      clear hY
      rintro _ H locs rfl hY
      refine lv_aload hx hb dL_law_2015 (lv_at hl 12 rfl) ?_
      refine lv_iload hx hb dL_law_2017 (lv_at hl 23 rfl) ?_
      refine lv_iconst (v := 1) hx hb dL_law_2019 (by decide) ?_
      refine lv_isub hx hb dL_law_2020 ?_
      obtain ⟨z_8, h⟩ := g_guard h
      refine G_lald (j := (x28 - 1).toNatClampNeg) hx hb hK hY (hL 171 (by decide)) gk_171 (by rw [gl_171]; exact z_8) rfl dL_law_2021 ?_
      refine lv_iload hx hb dL_law_2022 (lv_at hl 27 rfl) ?_
      obtain ⟨r_9, e_10, h⟩ := g_bind h
      refine G_ai hY hA (va_runS (As := [.long (σ.2.1 171 ((x28 - 1).toNatClampNeg)), .int x33]) (rest := [.int r_6]) ⟨hx, hb, hml, hown, hg⟩ (kL_at l D y aS H.size L hL ad N σ (σ.2.1 171 ((x28 - 1).toNatClampNeg)) x33 _ e_10) (va_cwS 2 hg ggS_RL_29_L_at rfl rfl rfl (by decide +kernel) ⟨Nat.le_of_ble_eq_true rfl, Nat.le_of_ble_eq_true rfl⟩) (G_pS hK hY) rfl rfl hl.1 rfl (lv_room (Nat.le_of_ble_eq_true rfl)) dL_law_2024 ⟨(by first | omega | (show _ ≤ (600086 : Nat); omega) | (show _ ≤ (7301442 : Nat); omega)), (by first | omega | (show _ ≤ (600086 : Nat); omega) | (show _ ≤ (7301442 : Nat); omega))⟩) ?_
      clear hY
      rintro _ H locs rfl hY
      refine lv_icmp_eq (tgt := 2034) hx hb dL_law_2027 (by decide) (fun z_11 => ?_) (fun z_11 => ?_)
      ·
        rw [if_pos z_11] at h
        refine lv_iconst (v := 0) hx hb dL_law_2034 (by decide) ?_
        exact wL_law_2035 hx hb hr hml hown hg hlocks hK hA hL hfl hZ hX hbl hA2 hres hL2 hrec221 hrec1998 (by first | omega | (simp only [g_l0]; omega)) (by first | omega | (simp only [g_l0]; omega)) (by first | omega | (simp only [g_l0]; omega)) (by first | omega | (simp only [g_l0]; omega)) hY (lv_sub hl [0, 1, 2, 3, 4, 5, 6, 7, 8, 9, 10, 11, 12, 13, 14, 15, 16, 17, 18, 19, 20, 21, 22, 23, 24, 25, 26, 27] rfl) h
      ·
        rw [if_neg z_11] at h
        refine lv_iconst (v := 1) hx hb dL_law_2030 (by decide) ?_
        refine lv_goto (tgt := 2035) hx hb dL_law_2031 (by decide) ?_
        exact wL_law_2035 hx hb hr hml hown hg hlocks hK hA hL hfl hZ hX hbl hA2 hres hL2 hrec221 hrec1998 (by first | omega | (simp only [g_l0]; omega)) (by first | omega | (simp only [g_l0]; omega)) (by first | omega | (simp only [g_l0]; omega)) (by first | omega | (simp only [g_l0]; omega)) hY (lv_sub hl [0, 1, 2, 3, 4, 5, 6, 7, 8, 9, 10, 11, 12, 13, 14, 15, 16, 17, 18, 19, 20, 21, 22, 23, 24, 25, 26, 27] rfl) h
def fL_law_1931 (N : Nat) (xs : Nat → Int32) (Lx : Nat) (rec221 : (gS × Int32 × Int32) → Option Int32) (σ : gS) (x21 : Int32) (x24 : Int32) (x28 : Int32) (xs0 : Int32) : Option Int32 := if (3 + x28) < 0 ∨ 14 ≤ (3 + x28).toNatClampNeg then none else (fL_law_2698 N xs Lx rec221 (sI σ 178 ((3 + x28).toNatClampNeg) (1 + ((x24 / 3) - (x24 / 3) / 10 * 10))) xs0 x21 x24)
set_option maxRecDepth 100000 in
set_option maxHeartbeats 1000000 in
theorem wL_law_1931 {rec221 : (gS × Int32 × Int32) → Option Int32} {σ : gS} {x21 : Int32} {x24 : Int32} {x28 : Int32} {xs0 : Int32} {ad : Nat → Nat} {kc ns : Nat} (hx : p.tables.exec = Jvm.exec) (hb : c.code = cL_law) (hr : meth.sig.returnType = (some .boolean)) (hml : c.maxLocals = 37) (hown : s.vm.findClass RL = some m.cls) (hg : ∀ w ∈ wsL_law, w.before args s = true) (hlocks : meth.locks = false) (hK : gK D y aS s) (hA : ∀ q, s.heap.size ≤ q → A q) (hL : ∀ k, k < 179 → k ∈ L) (hfl : l.stackTraces = false) (hZ : gZ A s s.heap) (hX : va_X b Lx xs s s.heap) (hbl : b < s.heap.size) (hA2 : ∀ q, A q → s.heap.size ≤ q) (hres : res = 1) (hL2 : ∀ k ∈ L, k < 179) (hrec221 : ∀ {ad : Nat → Nat} {kc ns : Nat} {σ9 : gS} {x20n9 : Int32} {x21n9 : Int32} (hkc : kc ≤ 183 + 643 * x21n9.toInt.toNat + 0) (hns : ns ≤ 3391 + 81814 * x21n9.toInt.toNat + 0) (hi0 : 0 ≤ x21n9.toInt) (hi8 : x21n9.toInt ≤ 80) (H : Heap) (locs : List Loc) (ls : Array Slot), gY D y A s L ad σ9 H locs → lv_has ls 37 [(0, .ref b), (1, .ref (ad 0)), (2, .ref (ad 161)), (3, .ref (ad 162)), (4, .ref (ad 163)), (5, .ref (ad 164)), (6, .ref (ad 165)), (7, .ref (ad 166)), (8, .ref (ad 167)), (9, .ref (ad 168)), (10, .ref (ad 169)), (11, .ref (ad 170)), (12, .ref (ad 171)), (13, .ref (ad 172)), (14, .ref (ad 173)), (15, .ref (ad 174)), (16, .ref (ad 175)), (17, .ref (ad 176)), (18, .ref (ad 177)), (19, .ref (ad 178)), (20, .int x20n9), (21, .int x21n9)] → rec221 (σ9, x20n9, x21n9) = some res → W p l e room_1 s m args below meth c H locs kc ns (lw_Z below args s) (F0 m 221 ls [])) (hkc : kc ≤ 183 + 643 * x21.toInt.toNat + 0) (hns : ns ≤ 3391 + 81814 * x21.toInt.toNat + 0) (hi0 : 0 ≤ x21.toInt) (hi8 : x21.toInt < 80) {H : Heap} {locs : List Loc} {ls : Array Slot} (hY : gY D y A s L ad σ H locs) (hl : lv_has ls 37 [(0, .ref b), (1, .ref (ad 0)), (2, .ref (ad 161)), (3, .ref (ad 162)), (4, .ref (ad 163)), (5, .ref (ad 164)), (6, .ref (ad 165)), (7, .ref (ad 166)), (8, .ref (ad 167)), (9, .ref (ad 168)), (10, .ref (ad 169)), (11, .ref (ad 170)), (12, .ref (ad 171)), (13, .ref (ad 172)), (14, .ref (ad 173)), (15, .ref (ad 174)), (16, .ref (ad 175)), (17, .ref (ad 176)), (18, .ref (ad 177)), (19, .ref (ad 178)), (21, .int x21), (24, .int x24), (28, .int x28)]) (h : fL_law_1931 N xs Lx rec221 σ x21 x24 x28 xs0 = some res) : W p l e room_1 s m args below meth c H locs kc ns (lw_Z below args s) (F0 m 1931 ls [.int xs0]) := by
  unfold fL_law_1931 at h
  refine lv_istore (lv' := [(20, .int xs0), (0, .ref b), (1, .ref (ad 0)), (2, .ref (ad 161)), (3, .ref (ad 162)), (4, .ref (ad 163)), (5, .ref (ad 164)), (6, .ref (ad 165)), (7, .ref (ad 166)), (8, .ref (ad 167)), (9, .ref (ad 168)), (10, .ref (ad 169)), (11, .ref (ad 170)), (12, .ref (ad 171)), (13, .ref (ad 172)), (14, .ref (ad 173)), (15, .ref (ad 174)), (16, .ref (ad 175)), (17, .ref (ad 176)), (18, .ref (ad 177)), (19, .ref (ad 178)), (21, .int x21), (24, .int x24), (28, .int x28)]) hx hb dL_law_1931 hl (by decide) rfl ?_
  clear hl
  intro ls hl
  refine lv_aload hx hb dL_law_1933 (lv_at hl 20 rfl) ?_
  refine lv_iconst (v := 3) hx hb dL_law_1935 (by decide) ?_
  refine lv_iload hx hb dL_law_1936 (lv_at hl 23 rfl) ?_
  refine lv_iadd hx hb dL_law_1938 ?_
  refine lv_iconst (v := 1) hx hb dL_law_1939 (by decide) ?_
  refine lv_iload hx hb dL_law_1940 (lv_at hl 22 rfl) ?_
  refine lv_iconst (v := 3) hx hb dL_law_1942 (by decide) ?_
  refine lv_idiv hx hb dL_law_1943 (by decide +kernel) ?_
  refine lv_bipush (v := 10) hx hb dL_law_1944 (by decide +kernel) ?_
  refine lv_irem hx hb dL_law_1946 (by decide +kernel) ?_
  refine lv_iadd hx hb dL_law_1947 ?_
  obtain ⟨z_1, h⟩ := g_guard h
  refine G_iast (j := (3 + x28).toNatClampNeg) hx hb hK hY (hL 178 (by decide)) gk_178 (by rw [gl_178]; exact z_1) rfl dL_law_1948 ?_
  clear hY
  intro H locs hY
  refine lv_goto (tgt := 2698) hx hb dL_law_1949 (by decide) ?_
  exact wL_law_2698 hx hb hr hml hown hg hlocks hK hA hL hfl hZ hX hbl hA2 hres hL2 hrec221 (by first | omega | (simp only [g_l0]; omega)) (by first | omega | (simp only [g_l0]; omega)) (by first | omega | (simp only [g_l0]; omega)) (by first | omega | (simp only [g_l0]; omega)) hY (lv_sub hl [1, 2, 3, 4, 5, 6, 7, 8, 9, 10, 11, 12, 13, 14, 15, 16, 17, 18, 19, 20, 0, 21, 22] rfl) h
def fL_law_1884 (N : Nat) (xs : Nat → Int32) (Lx : Nat) (rec221 : (gS × Int32 × Int32) → Option Int32) (σ : gS) (x20 : Int32) (x21 : Int32) (x24 : Int32) (xs0 : Int32) (xs1 : Int32) : Option Int32 := if xs1 < 0 ∨ 18 ≤ xs1.toNatClampNeg then none else (fL_law_2698 N xs Lx rec221 (sI σ 176 xs1.toNatClampNeg xs0) x20 x21 x24)
set_option maxRecDepth 100000 in
set_option maxHeartbeats 1000000 in
theorem wL_law_1884 {rec221 : (gS × Int32 × Int32) → Option Int32} {σ : gS} {x20 : Int32} {x21 : Int32} {x24 : Int32} {xs0 : Int32} {xs1 : Int32} {ad : Nat → Nat} {kc ns : Nat} (hx : p.tables.exec = Jvm.exec) (hb : c.code = cL_law) (hr : meth.sig.returnType = (some .boolean)) (hml : c.maxLocals = 37) (hown : s.vm.findClass RL = some m.cls) (hg : ∀ w ∈ wsL_law, w.before args s = true) (hlocks : meth.locks = false) (hK : gK D y aS s) (hA : ∀ q, s.heap.size ≤ q → A q) (hL : ∀ k, k < 179 → k ∈ L) (hfl : l.stackTraces = false) (hZ : gZ A s s.heap) (hX : va_X b Lx xs s s.heap) (hbl : b < s.heap.size) (hA2 : ∀ q, A q → s.heap.size ≤ q) (hres : res = 1) (hL2 : ∀ k ∈ L, k < 179) (hrec221 : ∀ {ad : Nat → Nat} {kc ns : Nat} {σ9 : gS} {x20n9 : Int32} {x21n9 : Int32} (hkc : kc ≤ 183 + 643 * x21n9.toInt.toNat + 0) (hns : ns ≤ 3391 + 81814 * x21n9.toInt.toNat + 0) (hi0 : 0 ≤ x21n9.toInt) (hi8 : x21n9.toInt ≤ 80) (H : Heap) (locs : List Loc) (ls : Array Slot), gY D y A s L ad σ9 H locs → lv_has ls 37 [(0, .ref b), (1, .ref (ad 0)), (2, .ref (ad 161)), (3, .ref (ad 162)), (4, .ref (ad 163)), (5, .ref (ad 164)), (6, .ref (ad 165)), (7, .ref (ad 166)), (8, .ref (ad 167)), (9, .ref (ad 168)), (10, .ref (ad 169)), (11, .ref (ad 170)), (12, .ref (ad 171)), (13, .ref (ad 172)), (14, .ref (ad 173)), (15, .ref (ad 174)), (16, .ref (ad 175)), (17, .ref (ad 176)), (18, .ref (ad 177)), (19, .ref (ad 178)), (20, .int x20n9), (21, .int x21n9)] → rec221 (σ9, x20n9, x21n9) = some res → W p l e room_1 s m args below meth c H locs kc ns (lw_Z below args s) (F0 m 221 ls [])) (hkc : kc ≤ 183 + 643 * x21.toInt.toNat + 0) (hns : ns ≤ 3391 + 81814 * x21.toInt.toNat + 0) (hi0 : 0 ≤ x21.toInt) (hi8 : x21.toInt < 80) {H : Heap} {locs : List Loc} {ls : Array Slot} (hY : gY D y A s L ad σ H locs) (hl : lv_has ls 37 [(0, .ref b), (1, .ref (ad 0)), (2, .ref (ad 161)), (3, .ref (ad 162)), (4, .ref (ad 163)), (5, .ref (ad 164)), (6, .ref (ad 165)), (7, .ref (ad 166)), (8, .ref (ad 167)), (9, .ref (ad 168)), (10, .ref (ad 169)), (11, .ref (ad 170)), (12, .ref (ad 171)), (13, .ref (ad 172)), (14, .ref (ad 173)), (15, .ref (ad 174)), (16, .ref (ad 175)), (17, .ref (ad 176)), (18, .ref (ad 177)), (19, .ref (ad 178)), (20, .int x20), (21, .int x21), (24, .int x24)]) (h : fL_law_1884 N xs Lx rec221 σ x20 x21 x24 xs0 xs1 = some res) : W p l e room_1 s m args below meth c H locs kc ns (lw_Z below args s) (F0 m 1884 ls [.int xs0, .int xs1, .ref (ad 176)]) := by
  unfold fL_law_1884 at h
  obtain ⟨z_1, h⟩ := g_guard h
  refine G_iast (j := xs1.toNatClampNeg) hx hb hK hY (hL 176 (by decide)) gk_176 (by rw [gl_176]; exact z_1) rfl dL_law_1884 ?_
  clear hY
  intro H locs hY
  refine lv_goto (tgt := 2698) hx hb dL_law_1885 (by decide) ?_
  exact wL_law_2698 hx hb hr hml hown hg hlocks hK hA hL hfl hZ hX hbl hA2 hres hL2 hrec221 (by first | omega | (simp only [g_l0]; omega)) (by first | omega | (simp only [g_l0]; omega)) (by first | omega | (simp only [g_l0]; omega)) (by first | omega | (simp only [g_l0]; omega)) hY (lv_sub hl [0, 1, 2, 3, 4, 5, 6, 7, 8, 9, 10, 11, 12, 13, 14, 15, 16, 17, 18, 19, 20, 21, 22] rfl) h
def fL_law_1855 (N : Nat) (xs : Nat → Int32) (Lx : Nat) (rec221 : (gS × Int32 × Int32) → Option Int32) (σ : gS) (x20 : Int32) (x21 : Int32) (x24 : Int32) (x28 : Int32) (x29 : Int32) (xs0 : Int32) (xs1 : Int32) : Option Int32 := if xs1 < 0 ∨ 18 ≤ xs1.toNatClampNeg then none else (if x29 = 0 then (fL_law_1884 N xs Lx rec221 (sI σ 176 xs1.toNatClampNeg xs0) x20 x21 x24 (-1) ((6 * x28) + 3)) else (if ((6 * x28) + 3) < 0 ∨ 18 ≤ ((6 * x28) + 3).toNatClampNeg then none else (fL_law_1884 N xs Lx rec221 (sI σ 176 xs1.toNatClampNeg xs0) x20 x21 x24 ((sI σ 176 xs1.toNatClampNeg xs0).1 176 (((6 * x28) + 3).toNatClampNeg)) ((6 * x28) + 3))))
set_option maxRecDepth 100000 in
set_option maxHeartbeats 1000000 in
theorem wL_law_1855 {rec221 : (gS × Int32 × Int32) → Option Int32} {σ : gS} {x20 : Int32} {x21 : Int32} {x24 : Int32} {x28 : Int32} {x29 : Int32} {xs0 : Int32} {xs1 : Int32} {ad : Nat → Nat} {kc ns : Nat} (hx : p.tables.exec = Jvm.exec) (hb : c.code = cL_law) (hr : meth.sig.returnType = (some .boolean)) (hml : c.maxLocals = 37) (hown : s.vm.findClass RL = some m.cls) (hg : ∀ w ∈ wsL_law, w.before args s = true) (hlocks : meth.locks = false) (hK : gK D y aS s) (hA : ∀ q, s.heap.size ≤ q → A q) (hL : ∀ k, k < 179 → k ∈ L) (hfl : l.stackTraces = false) (hZ : gZ A s s.heap) (hX : va_X b Lx xs s s.heap) (hbl : b < s.heap.size) (hA2 : ∀ q, A q → s.heap.size ≤ q) (hres : res = 1) (hL2 : ∀ k ∈ L, k < 179) (hrec221 : ∀ {ad : Nat → Nat} {kc ns : Nat} {σ9 : gS} {x20n9 : Int32} {x21n9 : Int32} (hkc : kc ≤ 183 + 643 * x21n9.toInt.toNat + 0) (hns : ns ≤ 3391 + 81814 * x21n9.toInt.toNat + 0) (hi0 : 0 ≤ x21n9.toInt) (hi8 : x21n9.toInt ≤ 80) (H : Heap) (locs : List Loc) (ls : Array Slot), gY D y A s L ad σ9 H locs → lv_has ls 37 [(0, .ref b), (1, .ref (ad 0)), (2, .ref (ad 161)), (3, .ref (ad 162)), (4, .ref (ad 163)), (5, .ref (ad 164)), (6, .ref (ad 165)), (7, .ref (ad 166)), (8, .ref (ad 167)), (9, .ref (ad 168)), (10, .ref (ad 169)), (11, .ref (ad 170)), (12, .ref (ad 171)), (13, .ref (ad 172)), (14, .ref (ad 173)), (15, .ref (ad 174)), (16, .ref (ad 175)), (17, .ref (ad 176)), (18, .ref (ad 177)), (19, .ref (ad 178)), (20, .int x20n9), (21, .int x21n9)] → rec221 (σ9, x20n9, x21n9) = some res → W p l e room_1 s m args below meth c H locs kc ns (lw_Z below args s) (F0 m 221 ls [])) (hkc : kc ≤ 183 + 643 * x21.toInt.toNat + 0) (hns : ns ≤ 3391 + 81814 * x21.toInt.toNat + 0) (hi0 : 0 ≤ x21.toInt) (hi8 : x21.toInt < 80) {H : Heap} {locs : List Loc} {ls : Array Slot} (hY : gY D y A s L ad σ H locs) (hl : lv_has ls 37 [(0, .ref b), (1, .ref (ad 0)), (2, .ref (ad 161)), (3, .ref (ad 162)), (4, .ref (ad 163)), (5, .ref (ad 164)), (6, .ref (ad 165)), (7, .ref (ad 166)), (8, .ref (ad 167)), (9, .ref (ad 168)), (10, .ref (ad 169)), (11, .ref (ad 170)), (12, .ref (ad 171)), (13, .ref (ad 172)), (14, .ref (ad 173)), (15, .ref (ad 174)), (16, .ref (ad 175)), (17, .ref (ad 176)), (18, .ref (ad 177)), (19, .ref (ad 178)), (20, .int x20), (21, .int x21), (24, .int x24), (28, .int x28), (29, .int x29)]) (h : fL_law_1855 N xs Lx rec221 σ x20 x21 x24 x28 x29 xs0 xs1 = some res) : W p l e room_1 s m args below meth c H locs kc ns (lw_Z below args s) (F0 m 1855 ls [.int xs0, .int xs1, .ref (ad 176)]) := by
  unfold fL_law_1855 at h
  obtain ⟨z_1, h⟩ := g_guard h
  refine G_iast (j := xs1.toNatClampNeg) hx hb hK hY (hL 176 (by decide)) gk_176 (by rw [gl_176]; exact z_1) rfl dL_law_1855 ?_
  clear hY
  intro H locs hY
  refine lv_aload hx hb dL_law_1856 (lv_at hl 17 rfl) ?_
  refine lv_bipush (v := 6) hx hb dL_law_1858 (by decide +kernel) ?_
  refine lv_iload hx hb dL_law_1860 (lv_at hl 23 rfl) ?_
  refine lv_imul hx hb dL_law_1862 ?_
  refine lv_iconst (v := 3) hx hb dL_law_1863 (by decide) ?_
  refine lv_iadd hx hb dL_law_1864 ?_
  refine lv_iload hx hb dL_law_1865 (lv_at hl 24 rfl) ?_
  refine lv_if_eq (tgt := 1883) hx hb dL_law_1867 (by decide) (fun z_2 => ?_) (fun z_2 => ?_)
  ·
    rw [if_pos z_2] at h
    refine lv_iconst (v := (-1)) hx hb dL_law_1883 (by decide) ?_
    exact wL_law_1884 hx hb hr hml hown hg hlocks hK hA hL hfl hZ hX hbl hA2 hres hL2 hrec221 (by first | omega | (simp only [g_l0]; omega)) (by first | omega | (simp only [g_l0]; omega)) (by first | omega | (simp only [g_l0]; omega)) (by first | omega | (simp only [g_l0]; omega)) hY (lv_sub hl [0, 1, 2, 3, 4, 5, 6, 7, 8, 9, 10, 11, 12, 13, 14, 15, 16, 17, 18, 19, 20, 21, 22] rfl) h
  ·
    rw [if_neg z_2] at h
    refine lv_aload hx hb dL_law_1870 (lv_at hl 17 rfl) ?_
    refine lv_bipush (v := 6) hx hb dL_law_1872 (by decide +kernel) ?_
    refine lv_iload hx hb dL_law_1874 (lv_at hl 23 rfl) ?_
    refine lv_imul hx hb dL_law_1876 ?_
    refine lv_iconst (v := 3) hx hb dL_law_1877 (by decide) ?_
    refine lv_iadd hx hb dL_law_1878 ?_
    obtain ⟨z_3, h⟩ := g_guard h
    refine G_iald (j := ((6 * x28) + 3).toNatClampNeg) hx hb hK hY (hL 176 (by decide)) gk_176 (by rw [gl_176]; exact z_3) rfl dL_law_1879 ?_
    refine lv_goto (tgt := 1884) hx hb dL_law_1880 (by decide) ?_
    exact wL_law_1884 hx hb hr hml hown hg hlocks hK hA hL hfl hZ hX hbl hA2 hres hL2 hrec221 (by first | omega | (simp only [g_l0]; omega)) (by first | omega | (simp only [g_l0]; omega)) (by first | omega | (simp only [g_l0]; omega)) (by first | omega | (simp only [g_l0]; omega)) hY (lv_sub hl [0, 1, 2, 3, 4, 5, 6, 7, 8, 9, 10, 11, 12, 13, 14, 15, 16, 17, 18, 19, 20, 21, 22] rfl) h
def fL_law_1830 (N : Nat) (xs : Nat → Int32) (Lx : Nat) (rec221 : (gS × Int32 × Int32) → Option Int32) (σ : gS) (x20 : Int32) (x21 : Int32) (x24 : Int32) (x28 : Int32) (x29 : Int32) (xs0 : Int32) (xs1 : Int32) : Option Int32 := if xs1 < 0 ∨ 18 ≤ xs1.toNatClampNeg then none else (if x29 = 0 then (fL_law_1855 N xs Lx rec221 (sI σ 176 xs1.toNatClampNeg xs0) x20 x21 x24 x28 x29 (-1) (6 * x28)) else (if (6 * x28) < 0 ∨ 18 ≤ (6 * x28).toNatClampNeg then none else (fL_law_1855 N xs Lx rec221 (sI σ 176 xs1.toNatClampNeg xs0) x20 x21 x24 x28 x29 ((sI σ 176 xs1.toNatClampNeg xs0).1 176 ((6 * x28).toNatClampNeg)) (6 * x28))))
set_option maxRecDepth 100000 in
set_option maxHeartbeats 1000000 in
theorem wL_law_1830 {rec221 : (gS × Int32 × Int32) → Option Int32} {σ : gS} {x20 : Int32} {x21 : Int32} {x24 : Int32} {x28 : Int32} {x29 : Int32} {xs0 : Int32} {xs1 : Int32} {ad : Nat → Nat} {kc ns : Nat} (hx : p.tables.exec = Jvm.exec) (hb : c.code = cL_law) (hr : meth.sig.returnType = (some .boolean)) (hml : c.maxLocals = 37) (hown : s.vm.findClass RL = some m.cls) (hg : ∀ w ∈ wsL_law, w.before args s = true) (hlocks : meth.locks = false) (hK : gK D y aS s) (hA : ∀ q, s.heap.size ≤ q → A q) (hL : ∀ k, k < 179 → k ∈ L) (hfl : l.stackTraces = false) (hZ : gZ A s s.heap) (hX : va_X b Lx xs s s.heap) (hbl : b < s.heap.size) (hA2 : ∀ q, A q → s.heap.size ≤ q) (hres : res = 1) (hL2 : ∀ k ∈ L, k < 179) (hrec221 : ∀ {ad : Nat → Nat} {kc ns : Nat} {σ9 : gS} {x20n9 : Int32} {x21n9 : Int32} (hkc : kc ≤ 183 + 643 * x21n9.toInt.toNat + 0) (hns : ns ≤ 3391 + 81814 * x21n9.toInt.toNat + 0) (hi0 : 0 ≤ x21n9.toInt) (hi8 : x21n9.toInt ≤ 80) (H : Heap) (locs : List Loc) (ls : Array Slot), gY D y A s L ad σ9 H locs → lv_has ls 37 [(0, .ref b), (1, .ref (ad 0)), (2, .ref (ad 161)), (3, .ref (ad 162)), (4, .ref (ad 163)), (5, .ref (ad 164)), (6, .ref (ad 165)), (7, .ref (ad 166)), (8, .ref (ad 167)), (9, .ref (ad 168)), (10, .ref (ad 169)), (11, .ref (ad 170)), (12, .ref (ad 171)), (13, .ref (ad 172)), (14, .ref (ad 173)), (15, .ref (ad 174)), (16, .ref (ad 175)), (17, .ref (ad 176)), (18, .ref (ad 177)), (19, .ref (ad 178)), (20, .int x20n9), (21, .int x21n9)] → rec221 (σ9, x20n9, x21n9) = some res → W p l e room_1 s m args below meth c H locs kc ns (lw_Z below args s) (F0 m 221 ls [])) (hkc : kc ≤ 183 + 643 * x21.toInt.toNat + 0) (hns : ns ≤ 3391 + 81814 * x21.toInt.toNat + 0) (hi0 : 0 ≤ x21.toInt) (hi8 : x21.toInt < 80) {H : Heap} {locs : List Loc} {ls : Array Slot} (hY : gY D y A s L ad σ H locs) (hl : lv_has ls 37 [(0, .ref b), (1, .ref (ad 0)), (2, .ref (ad 161)), (3, .ref (ad 162)), (4, .ref (ad 163)), (5, .ref (ad 164)), (6, .ref (ad 165)), (7, .ref (ad 166)), (8, .ref (ad 167)), (9, .ref (ad 168)), (10, .ref (ad 169)), (11, .ref (ad 170)), (12, .ref (ad 171)), (13, .ref (ad 172)), (14, .ref (ad 173)), (15, .ref (ad 174)), (16, .ref (ad 175)), (17, .ref (ad 176)), (18, .ref (ad 177)), (19, .ref (ad 178)), (20, .int x20), (21, .int x21), (24, .int x24), (28, .int x28), (29, .int x29)]) (h : fL_law_1830 N xs Lx rec221 σ x20 x21 x24 x28 x29 xs0 xs1 = some res) : W p l e room_1 s m args below meth c H locs kc ns (lw_Z below args s) (F0 m 1830 ls [.int xs0, .int xs1, .ref (ad 176)]) := by
  unfold fL_law_1830 at h
  obtain ⟨z_1, h⟩ := g_guard h
  refine G_iast (j := xs1.toNatClampNeg) hx hb hK hY (hL 176 (by decide)) gk_176 (by rw [gl_176]; exact z_1) rfl dL_law_1830 ?_
  clear hY
  intro H locs hY
  refine lv_aload hx hb dL_law_1831 (lv_at hl 17 rfl) ?_
  refine lv_bipush (v := 6) hx hb dL_law_1833 (by decide +kernel) ?_
  refine lv_iload hx hb dL_law_1835 (lv_at hl 23 rfl) ?_
  refine lv_imul hx hb dL_law_1837 ?_
  refine lv_iload hx hb dL_law_1838 (lv_at hl 24 rfl) ?_
  refine lv_if_eq (tgt := 1854) hx hb dL_law_1840 (by decide) (fun z_2 => ?_) (fun z_2 => ?_)
  ·
    rw [if_pos z_2] at h
    refine lv_iconst (v := (-1)) hx hb dL_law_1854 (by decide) ?_
    exact wL_law_1855 hx hb hr hml hown hg hlocks hK hA hL hfl hZ hX hbl hA2 hres hL2 hrec221 (by first | omega | (simp only [g_l0]; omega)) (by first | omega | (simp only [g_l0]; omega)) (by first | omega | (simp only [g_l0]; omega)) (by first | omega | (simp only [g_l0]; omega)) hY (lv_sub hl [0, 1, 2, 3, 4, 5, 6, 7, 8, 9, 10, 11, 12, 13, 14, 15, 16, 17, 18, 19, 20, 21, 22, 23, 24] rfl) h
  ·
    rw [if_neg z_2] at h
    refine lv_aload hx hb dL_law_1843 (lv_at hl 17 rfl) ?_
    refine lv_bipush (v := 6) hx hb dL_law_1845 (by decide +kernel) ?_
    refine lv_iload hx hb dL_law_1847 (lv_at hl 23 rfl) ?_
    refine lv_imul hx hb dL_law_1849 ?_
    obtain ⟨z_3, h⟩ := g_guard h
    refine G_iald (j := (6 * x28).toNatClampNeg) hx hb hK hY (hL 176 (by decide)) gk_176 (by rw [gl_176]; exact z_3) rfl dL_law_1850 ?_
    refine lv_goto (tgt := 1855) hx hb dL_law_1851 (by decide) ?_
    exact wL_law_1855 hx hb hr hml hown hg hlocks hK hA hL hfl hZ hX hbl hA2 hres hL2 hrec221 (by first | omega | (simp only [g_l0]; omega)) (by first | omega | (simp only [g_l0]; omega)) (by first | omega | (simp only [g_l0]; omega)) (by first | omega | (simp only [g_l0]; omega)) hY (lv_sub hl [0, 1, 2, 3, 4, 5, 6, 7, 8, 9, 10, 11, 12, 13, 14, 15, 16, 17, 18, 19, 20, 21, 22, 23, 24] rfl) h
def fL_law_1809 (N : Nat) (xs : Nat → Int32) (Lx : Nat) (rec221 : (gS × Int32 × Int32) → Option Int32) (σ : gS) (x21 : Int32) (x24 : Int32) (x28 : Int32) (x29 : Int32) (xs0 : Int32) : Option Int32 := if x29 = 0 then (fL_law_1830 N xs Lx rec221 σ xs0 x21 x24 x28 x29 0 ((6 * x28) + 4)) else (fL_law_1830 N xs Lx rec221 σ xs0 x21 x24 x28 x29 1 ((6 * x28) + 4))
set_option maxRecDepth 100000 in
set_option maxHeartbeats 1000000 in
theorem wL_law_1809 {rec221 : (gS × Int32 × Int32) → Option Int32} {σ : gS} {x21 : Int32} {x24 : Int32} {x28 : Int32} {x29 : Int32} {xs0 : Int32} {ad : Nat → Nat} {kc ns : Nat} (hx : p.tables.exec = Jvm.exec) (hb : c.code = cL_law) (hr : meth.sig.returnType = (some .boolean)) (hml : c.maxLocals = 37) (hown : s.vm.findClass RL = some m.cls) (hg : ∀ w ∈ wsL_law, w.before args s = true) (hlocks : meth.locks = false) (hK : gK D y aS s) (hA : ∀ q, s.heap.size ≤ q → A q) (hL : ∀ k, k < 179 → k ∈ L) (hfl : l.stackTraces = false) (hZ : gZ A s s.heap) (hX : va_X b Lx xs s s.heap) (hbl : b < s.heap.size) (hA2 : ∀ q, A q → s.heap.size ≤ q) (hres : res = 1) (hL2 : ∀ k ∈ L, k < 179) (hrec221 : ∀ {ad : Nat → Nat} {kc ns : Nat} {σ9 : gS} {x20n9 : Int32} {x21n9 : Int32} (hkc : kc ≤ 183 + 643 * x21n9.toInt.toNat + 0) (hns : ns ≤ 3391 + 81814 * x21n9.toInt.toNat + 0) (hi0 : 0 ≤ x21n9.toInt) (hi8 : x21n9.toInt ≤ 80) (H : Heap) (locs : List Loc) (ls : Array Slot), gY D y A s L ad σ9 H locs → lv_has ls 37 [(0, .ref b), (1, .ref (ad 0)), (2, .ref (ad 161)), (3, .ref (ad 162)), (4, .ref (ad 163)), (5, .ref (ad 164)), (6, .ref (ad 165)), (7, .ref (ad 166)), (8, .ref (ad 167)), (9, .ref (ad 168)), (10, .ref (ad 169)), (11, .ref (ad 170)), (12, .ref (ad 171)), (13, .ref (ad 172)), (14, .ref (ad 173)), (15, .ref (ad 174)), (16, .ref (ad 175)), (17, .ref (ad 176)), (18, .ref (ad 177)), (19, .ref (ad 178)), (20, .int x20n9), (21, .int x21n9)] → rec221 (σ9, x20n9, x21n9) = some res → W p l e room_1 s m args below meth c H locs kc ns (lw_Z below args s) (F0 m 221 ls [])) (hkc : kc ≤ 183 + 643 * x21.toInt.toNat + 0) (hns : ns ≤ 3391 + 81814 * x21.toInt.toNat + 0) (hi0 : 0 ≤ x21.toInt) (hi8 : x21.toInt < 80) {H : Heap} {locs : List Loc} {ls : Array Slot} (hY : gY D y A s L ad σ H locs) (hl : lv_has ls 37 [(0, .ref b), (1, .ref (ad 0)), (2, .ref (ad 161)), (3, .ref (ad 162)), (4, .ref (ad 163)), (5, .ref (ad 164)), (6, .ref (ad 165)), (7, .ref (ad 166)), (8, .ref (ad 167)), (9, .ref (ad 168)), (10, .ref (ad 169)), (11, .ref (ad 170)), (12, .ref (ad 171)), (13, .ref (ad 172)), (14, .ref (ad 173)), (15, .ref (ad 174)), (16, .ref (ad 175)), (17, .ref (ad 176)), (18, .ref (ad 177)), (19, .ref (ad 178)), (21, .int x21), (24, .int x24), (28, .int x28), (29, .int x29)]) (h : fL_law_1809 N xs Lx rec221 σ x21 x24 x28 x29 xs0 = some res) : W p l e room_1 s m args below meth c H locs kc ns (lw_Z below args s) (F0 m 1809 ls [.int xs0]) := by
  unfold fL_law_1809 at h
  refine lv_istore (lv' := [(20, .int xs0), (0, .ref b), (1, .ref (ad 0)), (2, .ref (ad 161)), (3, .ref (ad 162)), (4, .ref (ad 163)), (5, .ref (ad 164)), (6, .ref (ad 165)), (7, .ref (ad 166)), (8, .ref (ad 167)), (9, .ref (ad 168)), (10, .ref (ad 169)), (11, .ref (ad 170)), (12, .ref (ad 171)), (13, .ref (ad 172)), (14, .ref (ad 173)), (15, .ref (ad 174)), (16, .ref (ad 175)), (17, .ref (ad 176)), (18, .ref (ad 177)), (19, .ref (ad 178)), (21, .int x21), (24, .int x24), (28, .int x28), (29, .int x29)]) hx hb dL_law_1809 hl (by decide) rfl ?_
  clear hl
  intro ls hl
  refine lv_aload hx hb dL_law_1811 (lv_at hl 18 rfl) ?_
  refine lv_bipush (v := 6) hx hb dL_law_1813 (by decide +kernel) ?_
  refine lv_iload hx hb dL_law_1815 (lv_at hl 23 rfl) ?_
  refine lv_imul hx hb dL_law_1817 ?_
  refine lv_iconst (v := 4) hx hb dL_law_1818 (by decide) ?_
  refine lv_iadd hx hb dL_law_1819 ?_
  refine lv_iload hx hb dL_law_1820 (lv_at hl 24 rfl) ?_
  refine lv_if_eq (tgt := 1829) hx hb dL_law_1822 (by decide) (fun z_1 => ?_) (fun z_1 => ?_)
  ·
    rw [if_pos z_1] at h
    refine lv_iconst (v := 0) hx hb dL_law_1829 (by decide) ?_
    exact wL_law_1830 hx hb hr hml hown hg hlocks hK hA hL hfl hZ hX hbl hA2 hres hL2 hrec221 (by first | omega | (simp only [g_l0]; omega)) (by first | omega | (simp only [g_l0]; omega)) (by first | omega | (simp only [g_l0]; omega)) (by first | omega | (simp only [g_l0]; omega)) hY (lv_sub hl [1, 2, 3, 4, 5, 6, 7, 8, 9, 10, 11, 12, 13, 14, 15, 16, 17, 18, 19, 20, 0, 21, 22, 23, 24] rfl) h
  ·
    rw [if_neg z_1] at h
    refine lv_iconst (v := 1) hx hb dL_law_1825 (by decide) ?_
    refine lv_goto (tgt := 1830) hx hb dL_law_1826 (by decide) ?_
    exact wL_law_1830 hx hb hr hml hown hg hlocks hK hA hL hfl hZ hX hbl hA2 hres hL2 hrec221 (by first | omega | (simp only [g_l0]; omega)) (by first | omega | (simp only [g_l0]; omega)) (by first | omega | (simp only [g_l0]; omega)) (by first | omega | (simp only [g_l0]; omega)) hY (lv_sub hl [1, 2, 3, 4, 5, 6, 7, 8, 9, 10, 11, 12, 13, 14, 15, 16, 17, 18, 19, 20, 0, 21, 22, 23, 24] rfl) h
def fL_law_1801 (N : Nat) (xs : Nat → Int32) (Lx : Nat) (rec221 : (gS × Int32 × Int32) → Option Int32) (σ : gS) (x21 : Int32) (x24 : Int32) (x28 : Int32) (x29 : Int32) (xs0 : Int32) (xs1 : Int32) : Option Int32 := if xs1 = xs0 then (fL_law_1809 N xs Lx rec221 σ x21 x24 x28 x29 1) else (fL_law_1809 N xs Lx rec221 σ x21 x24 x28 x29 0)
set_option maxRecDepth 100000 in
set_option maxHeartbeats 1000000 in
theorem wL_law_1801 {rec221 : (gS × Int32 × Int32) → Option Int32} {σ : gS} {x21 : Int32} {x24 : Int32} {x28 : Int32} {x29 : Int32} {xs0 : Int32} {xs1 : Int32} {ad : Nat → Nat} {kc ns : Nat} (hx : p.tables.exec = Jvm.exec) (hb : c.code = cL_law) (hr : meth.sig.returnType = (some .boolean)) (hml : c.maxLocals = 37) (hown : s.vm.findClass RL = some m.cls) (hg : ∀ w ∈ wsL_law, w.before args s = true) (hlocks : meth.locks = false) (hK : gK D y aS s) (hA : ∀ q, s.heap.size ≤ q → A q) (hL : ∀ k, k < 179 → k ∈ L) (hfl : l.stackTraces = false) (hZ : gZ A s s.heap) (hX : va_X b Lx xs s s.heap) (hbl : b < s.heap.size) (hA2 : ∀ q, A q → s.heap.size ≤ q) (hres : res = 1) (hL2 : ∀ k ∈ L, k < 179) (hrec221 : ∀ {ad : Nat → Nat} {kc ns : Nat} {σ9 : gS} {x20n9 : Int32} {x21n9 : Int32} (hkc : kc ≤ 183 + 643 * x21n9.toInt.toNat + 0) (hns : ns ≤ 3391 + 81814 * x21n9.toInt.toNat + 0) (hi0 : 0 ≤ x21n9.toInt) (hi8 : x21n9.toInt ≤ 80) (H : Heap) (locs : List Loc) (ls : Array Slot), gY D y A s L ad σ9 H locs → lv_has ls 37 [(0, .ref b), (1, .ref (ad 0)), (2, .ref (ad 161)), (3, .ref (ad 162)), (4, .ref (ad 163)), (5, .ref (ad 164)), (6, .ref (ad 165)), (7, .ref (ad 166)), (8, .ref (ad 167)), (9, .ref (ad 168)), (10, .ref (ad 169)), (11, .ref (ad 170)), (12, .ref (ad 171)), (13, .ref (ad 172)), (14, .ref (ad 173)), (15, .ref (ad 174)), (16, .ref (ad 175)), (17, .ref (ad 176)), (18, .ref (ad 177)), (19, .ref (ad 178)), (20, .int x20n9), (21, .int x21n9)] → rec221 (σ9, x20n9, x21n9) = some res → W p l e room_1 s m args below meth c H locs kc ns (lw_Z below args s) (F0 m 221 ls [])) (hkc : kc ≤ 183 + 643 * x21.toInt.toNat + 0) (hns : ns ≤ 3391 + 81814 * x21.toInt.toNat + 0) (hi0 : 0 ≤ x21.toInt) (hi8 : x21.toInt < 80) {H : Heap} {locs : List Loc} {ls : Array Slot} (hY : gY D y A s L ad σ H locs) (hl : lv_has ls 37 [(0, .ref b), (1, .ref (ad 0)), (2, .ref (ad 161)), (3, .ref (ad 162)), (4, .ref (ad 163)), (5, .ref (ad 164)), (6, .ref (ad 165)), (7, .ref (ad 166)), (8, .ref (ad 167)), (9, .ref (ad 168)), (10, .ref (ad 169)), (11, .ref (ad 170)), (12, .ref (ad 171)), (13, .ref (ad 172)), (14, .ref (ad 173)), (15, .ref (ad 174)), (16, .ref (ad 175)), (17, .ref (ad 176)), (18, .ref (ad 177)), (19, .ref (ad 178)), (21, .int x21), (24, .int x24), (28, .int x28), (29, .int x29)]) (h : fL_law_1801 N xs Lx rec221 σ x21 x24 x28 x29 xs0 xs1 = some res) : W p l e room_1 s m args below meth c H locs kc ns (lw_Z below args s) (F0 m 1801 ls [.int xs0, .int xs1]) := by
  unfold fL_law_1801 at h
  refine lv_icmp_ne (tgt := 1808) hx hb dL_law_1801 (by decide) (fun z_1 => ?_) (fun z_1 => ?_)
  ·
    rw [if_neg z_1] at h
    refine lv_iconst (v := 0) hx hb dL_law_1808 (by decide) ?_
    exact wL_law_1809 hx hb hr hml hown hg hlocks hK hA hL hfl hZ hX hbl hA2 hres hL2 hrec221 (by first | omega | (simp only [g_l0]; omega)) (by first | omega | (simp only [g_l0]; omega)) (by first | omega | (simp only [g_l0]; omega)) (by first | omega | (simp only [g_l0]; omega)) hY (lv_sub hl [0, 1, 2, 3, 4, 5, 6, 7, 8, 9, 10, 11, 12, 13, 14, 15, 16, 17, 18, 19, 20, 21, 22, 23] rfl) h
  ·
    rw [if_pos z_1] at h
    refine lv_iconst (v := 1) hx hb dL_law_1804 (by decide) ?_
    refine lv_goto (tgt := 1809) hx hb dL_law_1805 (by decide) ?_
    exact wL_law_1809 hx hb hr hml hown hg hlocks hK hA hL hfl hZ hX hbl hA2 hres hL2 hrec221 (by first | omega | (simp only [g_l0]; omega)) (by first | omega | (simp only [g_l0]; omega)) (by first | omega | (simp only [g_l0]; omega)) (by first | omega | (simp only [g_l0]; omega)) hY (lv_sub hl [0, 1, 2, 3, 4, 5, 6, 7, 8, 9, 10, 11, 12, 13, 14, 15, 16, 17, 18, 19, 20, 21, 22, 23] rfl) h
def fL_law_1768 (N : Nat) (xs : Nat → Int32) (Lx : Nat) (rec221 : (gS × Int32 × Int32) → Option Int32) (σ : gS) (x21 : Int32) (x24 : Int32) (x28 : Int32) (x29 : Int32) (xs0 : Int32) (xs1 : Int32) : Option Int32 := if xs1 = xs0 then (fL_law_1809 N xs Lx rec221 σ x21 x24 x28 x29 1) else (fL_law_1809 N xs Lx rec221 σ x21 x24 x28 x29 0)
set_option maxRecDepth 100000 in
set_option maxHeartbeats 1000000 in
theorem wL_law_1768 {rec221 : (gS × Int32 × Int32) → Option Int32} {σ : gS} {x21 : Int32} {x24 : Int32} {x28 : Int32} {x29 : Int32} {xs0 : Int32} {xs1 : Int32} {ad : Nat → Nat} {kc ns : Nat} (hx : p.tables.exec = Jvm.exec) (hb : c.code = cL_law) (hr : meth.sig.returnType = (some .boolean)) (hml : c.maxLocals = 37) (hown : s.vm.findClass RL = some m.cls) (hg : ∀ w ∈ wsL_law, w.before args s = true) (hlocks : meth.locks = false) (hK : gK D y aS s) (hA : ∀ q, s.heap.size ≤ q → A q) (hL : ∀ k, k < 179 → k ∈ L) (hfl : l.stackTraces = false) (hZ : gZ A s s.heap) (hX : va_X b Lx xs s s.heap) (hbl : b < s.heap.size) (hA2 : ∀ q, A q → s.heap.size ≤ q) (hres : res = 1) (hL2 : ∀ k ∈ L, k < 179) (hrec221 : ∀ {ad : Nat → Nat} {kc ns : Nat} {σ9 : gS} {x20n9 : Int32} {x21n9 : Int32} (hkc : kc ≤ 183 + 643 * x21n9.toInt.toNat + 0) (hns : ns ≤ 3391 + 81814 * x21n9.toInt.toNat + 0) (hi0 : 0 ≤ x21n9.toInt) (hi8 : x21n9.toInt ≤ 80) (H : Heap) (locs : List Loc) (ls : Array Slot), gY D y A s L ad σ9 H locs → lv_has ls 37 [(0, .ref b), (1, .ref (ad 0)), (2, .ref (ad 161)), (3, .ref (ad 162)), (4, .ref (ad 163)), (5, .ref (ad 164)), (6, .ref (ad 165)), (7, .ref (ad 166)), (8, .ref (ad 167)), (9, .ref (ad 168)), (10, .ref (ad 169)), (11, .ref (ad 170)), (12, .ref (ad 171)), (13, .ref (ad 172)), (14, .ref (ad 173)), (15, .ref (ad 174)), (16, .ref (ad 175)), (17, .ref (ad 176)), (18, .ref (ad 177)), (19, .ref (ad 178)), (20, .int x20n9), (21, .int x21n9)] → rec221 (σ9, x20n9, x21n9) = some res → W p l e room_1 s m args below meth c H locs kc ns (lw_Z below args s) (F0 m 221 ls [])) (hkc : kc ≤ 183 + 643 * x21.toInt.toNat + 0) (hns : ns ≤ 3391 + 81814 * x21.toInt.toNat + 0) (hi0 : 0 ≤ x21.toInt) (hi8 : x21.toInt < 80) {H : Heap} {locs : List Loc} {ls : Array Slot} (hY : gY D y A s L ad σ H locs) (hl : lv_has ls 37 [(0, .ref b), (1, .ref (ad 0)), (2, .ref (ad 161)), (3, .ref (ad 162)), (4, .ref (ad 163)), (5, .ref (ad 164)), (6, .ref (ad 165)), (7, .ref (ad 166)), (8, .ref (ad 167)), (9, .ref (ad 168)), (10, .ref (ad 169)), (11, .ref (ad 170)), (12, .ref (ad 171)), (13, .ref (ad 172)), (14, .ref (ad 173)), (15, .ref (ad 174)), (16, .ref (ad 175)), (17, .ref (ad 176)), (18, .ref (ad 177)), (19, .ref (ad 178)), (21, .int x21), (24, .int x24), (28, .int x28), (29, .int x29)]) (h : fL_law_1768 N xs Lx rec221 σ x21 x24 x28 x29 xs0 xs1 = some res) : W p l e room_1 s m args below meth c H locs kc ns (lw_Z below args s) (F0 m 1768 ls [.int xs0, .int xs1]) := by
  unfold fL_law_1768 at h
  refine lv_icmp_ne (tgt := 1775) hx hb dL_law_1768 (by decide) (fun z_1 => ?_) (fun z_1 => ?_)
  ·
    rw [if_neg z_1] at h
    refine lv_iconst (v := 0) hx hb dL_law_1775 (by decide) ?_
    refine lv_goto (tgt := 1809) hx hb dL_law_1776 (by decide) ?_
    exact wL_law_1809 hx hb hr hml hown hg hlocks hK hA hL hfl hZ hX hbl hA2 hres hL2 hrec221 (by first | omega | (simp only [g_l0]; omega)) (by first | omega | (simp only [g_l0]; omega)) (by first | omega | (simp only [g_l0]; omega)) (by first | omega | (simp only [g_l0]; omega)) hY (lv_sub hl [0, 1, 2, 3, 4, 5, 6, 7, 8, 9, 10, 11, 12, 13, 14, 15, 16, 17, 18, 19, 20, 21, 22, 23] rfl) h
  ·
    rw [if_pos z_1] at h
    refine lv_iconst (v := 1) hx hb dL_law_1771 (by decide) ?_
    refine lv_goto (tgt := 1809) hx hb dL_law_1772 (by decide) ?_
    exact wL_law_1809 hx hb hr hml hown hg hlocks hK hA hL hfl hZ hX hbl hA2 hres hL2 hrec221 (by first | omega | (simp only [g_l0]; omega)) (by first | omega | (simp only [g_l0]; omega)) (by first | omega | (simp only [g_l0]; omega)) (by first | omega | (simp only [g_l0]; omega)) hY (lv_sub hl [0, 1, 2, 3, 4, 5, 6, 7, 8, 9, 10, 11, 12, 13, 14, 15, 16, 17, 18, 19, 20, 21, 22, 23] rfl) h
def fL_law_1737 (N : Nat) (xs : Nat → Int32) (Lx : Nat) (rec221 : (gS × Int32 × Int32) → Option Int32) (σ : gS) (x21 : Int32) (x24 : Int32) (x28 : Int32) (xs0 : Int32) : Option Int32 := if xs0 = 0 then ((fX11_vanish N σ x28).bind fun r_2 => if (6 * x28) < 0 ∨ 18 ≤ (6 * x28).toNatClampNeg then none else (if (r_2.2.1 176 ((6 * x28).toNatClampNeg)) < 0 then (fL_law_1801 N xs Lx rec221 r_2.2 x21 x24 x28 xs0 0 r_2.1) else (fL_law_1801 N xs Lx rec221 r_2.2 x21 x24 x28 xs0 1 r_2.1))) else ((fX11_come N σ x28).bind fun r_6 => if ((6 * x28) + 4) < 0 ∨ 18 ≤ ((6 * x28) + 4).toNatClampNeg then none else (if (r_6.2.1 176 (((6 * x28) + 4).toNatClampNeg)) = 0 then (fL_law_1768 N xs Lx rec221 r_6.2 x21 x24 x28 xs0 1 r_6.1) else (fL_law_1768 N xs Lx rec221 r_6.2 x21 x24 x28 xs0 0 r_6.1)))
set_option maxRecDepth 100000 in
set_option maxHeartbeats 1000000 in
theorem wL_law_1737 {rec221 : (gS × Int32 × Int32) → Option Int32} {σ : gS} {x21 : Int32} {x24 : Int32} {x28 : Int32} {xs0 : Int32} {ad : Nat → Nat} {kc ns : Nat} (hx : p.tables.exec = Jvm.exec) (hb : c.code = cL_law) (hr : meth.sig.returnType = (some .boolean)) (hml : c.maxLocals = 37) (hown : s.vm.findClass RL = some m.cls) (hg : ∀ w ∈ wsL_law, w.before args s = true) (hlocks : meth.locks = false) (hK : gK D y aS s) (hA : ∀ q, s.heap.size ≤ q → A q) (hL : ∀ k, k < 179 → k ∈ L) (hfl : l.stackTraces = false) (hZ : gZ A s s.heap) (hX : va_X b Lx xs s s.heap) (hbl : b < s.heap.size) (hA2 : ∀ q, A q → s.heap.size ≤ q) (hres : res = 1) (hL2 : ∀ k ∈ L, k < 179) (hrec221 : ∀ {ad : Nat → Nat} {kc ns : Nat} {σ9 : gS} {x20n9 : Int32} {x21n9 : Int32} (hkc : kc ≤ 183 + 643 * x21n9.toInt.toNat + 0) (hns : ns ≤ 3391 + 81814 * x21n9.toInt.toNat + 0) (hi0 : 0 ≤ x21n9.toInt) (hi8 : x21n9.toInt ≤ 80) (H : Heap) (locs : List Loc) (ls : Array Slot), gY D y A s L ad σ9 H locs → lv_has ls 37 [(0, .ref b), (1, .ref (ad 0)), (2, .ref (ad 161)), (3, .ref (ad 162)), (4, .ref (ad 163)), (5, .ref (ad 164)), (6, .ref (ad 165)), (7, .ref (ad 166)), (8, .ref (ad 167)), (9, .ref (ad 168)), (10, .ref (ad 169)), (11, .ref (ad 170)), (12, .ref (ad 171)), (13, .ref (ad 172)), (14, .ref (ad 173)), (15, .ref (ad 174)), (16, .ref (ad 175)), (17, .ref (ad 176)), (18, .ref (ad 177)), (19, .ref (ad 178)), (20, .int x20n9), (21, .int x21n9)] → rec221 (σ9, x20n9, x21n9) = some res → W p l e room_1 s m args below meth c H locs kc ns (lw_Z below args s) (F0 m 221 ls [])) (hkc : kc ≤ 183 + 643 * x21.toInt.toNat + 0) (hns : ns ≤ 3391 + 81814 * x21.toInt.toNat + 0) (hi0 : 0 ≤ x21.toInt) (hi8 : x21.toInt < 80) {H : Heap} {locs : List Loc} {ls : Array Slot} (hY : gY D y A s L ad σ H locs) (hl : lv_has ls 37 [(0, .ref b), (1, .ref (ad 0)), (2, .ref (ad 161)), (3, .ref (ad 162)), (4, .ref (ad 163)), (5, .ref (ad 164)), (6, .ref (ad 165)), (7, .ref (ad 166)), (8, .ref (ad 167)), (9, .ref (ad 168)), (10, .ref (ad 169)), (11, .ref (ad 170)), (12, .ref (ad 171)), (13, .ref (ad 172)), (14, .ref (ad 173)), (15, .ref (ad 174)), (16, .ref (ad 175)), (17, .ref (ad 176)), (18, .ref (ad 177)), (19, .ref (ad 178)), (21, .int x21), (24, .int x24), (28, .int x28)]) (h : fL_law_1737 N xs Lx rec221 σ x21 x24 x28 xs0 = some res) : W p l e room_1 s m args below meth c H locs kc ns (lw_Z below args s) (F0 m 1737 ls [.int xs0]) := by
  unfold fL_law_1737 at h
  refine lv_istore (lv' := [(29, .int xs0), (0, .ref b), (1, .ref (ad 0)), (2, .ref (ad 161)), (3, .ref (ad 162)), (4, .ref (ad 163)), (5, .ref (ad 164)), (6, .ref (ad 165)), (7, .ref (ad 166)), (8, .ref (ad 167)), (9, .ref (ad 168)), (10, .ref (ad 169)), (11, .ref (ad 170)), (12, .ref (ad 171)), (13, .ref (ad 172)), (14, .ref (ad 173)), (15, .ref (ad 174)), (16, .ref (ad 175)), (17, .ref (ad 176)), (18, .ref (ad 177)), (19, .ref (ad 178)), (21, .int x21), (24, .int x24), (28, .int x28)]) hx hb dL_law_1737 hl (by decide) rfl ?_
  clear hl
  intro ls hl
  refine lv_iload hx hb dL_law_1739 (lv_at hl 0 rfl) ?_
  refine lv_if_eq (tgt := 1779) hx hb dL_law_1741 (by decide) (fun z_1 => ?_) (fun z_1 => ?_)
  ·
    rw [if_pos z_1] at h
    refine lv_aload_n hx hb dL_law_1779 rfl (lv_at hl 2 rfl) ?_
    refine lv_iload hx hb dL_law_1780 (lv_at hl 23 rfl) ?_
    obtain ⟨r_2, e_3, h⟩ := g_bind h
    refine G_ai hY hA (va_runV (As := [.int x28]) (rest := []) ⟨hx, hb, hml, hown, hg⟩ (kX11_vanish l D y aS H.size L hL ad N σ x28 _ e_3) (cwV 1 hg ggV_RL_236_X11_vanish rfl rfl rfl (by decide +kernel) ⟨Nat.le_of_ble_eq_true rfl, Nat.le_of_ble_eq_true rfl⟩) (G_pV (q := (RX11, TX11, 19)) hK hY (hL 0 (by decide)) gk_0 (by decide) rfl) rfl rfl hl.1 rfl (lv_room (Nat.le_of_ble_eq_true rfl)) dL_law_1782 ⟨(by first | omega | (show _ ≤ (600086 : Nat); omega) | (show _ ≤ (7301442 : Nat); omega)), (by first | omega | (show _ ≤ (600086 : Nat); omega) | (show _ ≤ (7301442 : Nat); omega))⟩) ?_
    clear hY
    rintro _ H locs rfl hY
    refine lv_aload hx hb dL_law_1785 (lv_at hl 18 rfl) ?_
    refine lv_bipush (v := 6) hx hb dL_law_1787 (by decide +kernel) ?_
    refine lv_iload hx hb dL_law_1789 (lv_at hl 23 rfl) ?_
    refine lv_imul hx hb dL_law_1791 ?_
    obtain ⟨z_4, h⟩ := g_guard h
    refine G_iald (j := (6 * x28).toNatClampNeg) hx hb hK hY (hL 176 (by decide)) gk_176 (by rw [gl_176]; exact z_4) rfl dL_law_1792 ?_
    refine lv_if_lt (tgt := 1800) hx hb dL_law_1793 (by decide) (fun z_5 => ?_) (fun z_5 => ?_)
    ·
      rw [if_pos z_5] at h
      have qz_5 := g_ltt z_5; (try simp only [g_l0, g_l3, g_l6, g_l80] at qz_5)
      refine lv_iconst (v := 0) hx hb dL_law_1800 (by decide) ?_
      exact wL_law_1801 hx hb hr hml hown hg hlocks hK hA hL hfl hZ hX hbl hA2 hres hL2 hrec221 (by first | omega | (simp only [g_l0]; omega)) (by first | omega | (simp only [g_l0]; omega)) (by first | omega | (simp only [g_l0]; omega)) (by first | omega | (simp only [g_l0]; omega)) hY (lv_sub hl [1, 2, 3, 4, 5, 6, 7, 8, 9, 10, 11, 12, 13, 14, 15, 16, 17, 18, 19, 20, 21, 22, 23, 0] rfl) h
    ·
      rw [if_neg z_5] at h
      have qz_5 := g_ltf z_5; (try simp only [g_l0, g_l3, g_l6, g_l80] at qz_5)
      refine lv_iconst (v := 1) hx hb dL_law_1796 (by decide) ?_
      refine lv_goto (tgt := 1801) hx hb dL_law_1797 (by decide) ?_
      exact wL_law_1801 hx hb hr hml hown hg hlocks hK hA hL hfl hZ hX hbl hA2 hres hL2 hrec221 (by first | omega | (simp only [g_l0]; omega)) (by first | omega | (simp only [g_l0]; omega)) (by first | omega | (simp only [g_l0]; omega)) (by first | omega | (simp only [g_l0]; omega)) hY (lv_sub hl [1, 2, 3, 4, 5, 6, 7, 8, 9, 10, 11, 12, 13, 14, 15, 16, 17, 18, 19, 20, 21, 22, 23, 0] rfl) h
  ·
    rw [if_neg z_1] at h
    refine lv_aload_n hx hb dL_law_1744 rfl (lv_at hl 2 rfl) ?_
    refine lv_iload hx hb dL_law_1745 (lv_at hl 23 rfl) ?_
    obtain ⟨r_6, e_7, h⟩ := g_bind h
    refine G_ai hY hA (va_runV (As := [.int x28]) (rest := []) ⟨hx, hb, hml, hown, hg⟩ (kX11_come l D y aS H.size L hL ad N σ x28 _ e_7) (cwV 1 hg ggV_RL_233_X11_come rfl rfl rfl (by decide +kernel) ⟨Nat.le_of_ble_eq_true rfl, Nat.le_of_ble_eq_true rfl⟩) (G_pV (q := (RX11, TX11, 19)) hK hY (hL 0 (by decide)) gk_0 (by decide) rfl) rfl rfl hl.1 rfl (lv_room (Nat.le_of_ble_eq_true rfl)) dL_law_1747 ⟨(by first | omega | (show _ ≤ (600086 : Nat); omega) | (show _ ≤ (7301442 : Nat); omega)), (by first | omega | (show _ ≤ (600086 : Nat); omega) | (show _ ≤ (7301442 : Nat); omega))⟩) ?_
    clear hY
    rintro _ H locs rfl hY
    refine lv_aload hx hb dL_law_1750 (lv_at hl 18 rfl) ?_
    refine lv_bipush (v := 6) hx hb dL_law_1752 (by decide +kernel) ?_
    refine lv_iload hx hb dL_law_1754 (lv_at hl 23 rfl) ?_
    refine lv_imul hx hb dL_law_1756 ?_
    refine lv_iconst (v := 4) hx hb dL_law_1757 (by decide) ?_
    refine lv_iadd hx hb dL_law_1758 ?_
    obtain ⟨z_8, h⟩ := g_guard h
    refine G_iald (j := ((6 * x28) + 4).toNatClampNeg) hx hb hK hY (hL 176 (by decide)) gk_176 (by rw [gl_176]; exact z_8) rfl dL_law_1759 ?_
    refine lv_if_ne (tgt := 1767) hx hb dL_law_1760 (by decide) (fun z_9 => ?_) (fun z_9 => ?_)
    ·
      rw [if_neg z_9] at h
      refine lv_iconst (v := 0) hx hb dL_law_1767 (by decide) ?_
      exact wL_law_1768 hx hb hr hml hown hg hlocks hK hA hL hfl hZ hX hbl hA2 hres hL2 hrec221 (by first | omega | (simp only [g_l0]; omega)) (by first | omega | (simp only [g_l0]; omega)) (by first | omega | (simp only [g_l0]; omega)) (by first | omega | (simp only [g_l0]; omega)) hY (lv_sub hl [1, 2, 3, 4, 5, 6, 7, 8, 9, 10, 11, 12, 13, 14, 15, 16, 17, 18, 19, 20, 21, 22, 23, 0] rfl) h
    ·
      rw [if_pos z_9] at h
      refine lv_iconst (v := 1) hx hb dL_law_1763 (by decide) ?_
      refine lv_goto (tgt := 1768) hx hb dL_law_1764 (by decide) ?_
      exact wL_law_1768 hx hb hr hml hown hg hlocks hK hA hL hfl hZ hX hbl hA2 hres hL2 hrec221 (by first | omega | (simp only [g_l0]; omega)) (by first | omega | (simp only [g_l0]; omega)) (by first | omega | (simp only [g_l0]; omega)) (by first | omega | (simp only [g_l0]; omega)) hY (lv_sub hl [1, 2, 3, 4, 5, 6, 7, 8, 9, 10, 11, 12, 13, 14, 15, 16, 17, 18, 19, 20, 21, 22, 23, 0] rfl) h
def fL_law_1694 (N : Nat) (xs : Nat → Int32) (Lx : Nat) (rec221 : (gS × Int32 × Int32) → Option Int32) (σ : gS) (x21 : Int32) (x24 : Int32) (x28 : Int32) (x29 : Int32) (xs0 : Int32) : Option Int32 := fL_law_2698 N xs Lx rec221 (sI (sI σ 161 5 x28) 161 6 x29) xs0 x21 x24
set_option maxRecDepth 100000 in
set_option maxHeartbeats 1000000 in
theorem wL_law_1694 {rec221 : (gS × Int32 × Int32) → Option Int32} {σ : gS} {x21 : Int32} {x24 : Int32} {x28 : Int32} {x29 : Int32} {xs0 : Int32} {ad : Nat → Nat} {kc ns : Nat} (hx : p.tables.exec = Jvm.exec) (hb : c.code = cL_law) (hr : meth.sig.returnType = (some .boolean)) (hml : c.maxLocals = 37) (hown : s.vm.findClass RL = some m.cls) (hg : ∀ w ∈ wsL_law, w.before args s = true) (hlocks : meth.locks = false) (hK : gK D y aS s) (hA : ∀ q, s.heap.size ≤ q → A q) (hL : ∀ k, k < 179 → k ∈ L) (hfl : l.stackTraces = false) (hZ : gZ A s s.heap) (hX : va_X b Lx xs s s.heap) (hbl : b < s.heap.size) (hA2 : ∀ q, A q → s.heap.size ≤ q) (hres : res = 1) (hL2 : ∀ k ∈ L, k < 179) (hrec221 : ∀ {ad : Nat → Nat} {kc ns : Nat} {σ9 : gS} {x20n9 : Int32} {x21n9 : Int32} (hkc : kc ≤ 183 + 643 * x21n9.toInt.toNat + 0) (hns : ns ≤ 3391 + 81814 * x21n9.toInt.toNat + 0) (hi0 : 0 ≤ x21n9.toInt) (hi8 : x21n9.toInt ≤ 80) (H : Heap) (locs : List Loc) (ls : Array Slot), gY D y A s L ad σ9 H locs → lv_has ls 37 [(0, .ref b), (1, .ref (ad 0)), (2, .ref (ad 161)), (3, .ref (ad 162)), (4, .ref (ad 163)), (5, .ref (ad 164)), (6, .ref (ad 165)), (7, .ref (ad 166)), (8, .ref (ad 167)), (9, .ref (ad 168)), (10, .ref (ad 169)), (11, .ref (ad 170)), (12, .ref (ad 171)), (13, .ref (ad 172)), (14, .ref (ad 173)), (15, .ref (ad 174)), (16, .ref (ad 175)), (17, .ref (ad 176)), (18, .ref (ad 177)), (19, .ref (ad 178)), (20, .int x20n9), (21, .int x21n9)] → rec221 (σ9, x20n9, x21n9) = some res → W p l e room_1 s m args below meth c H locs kc ns (lw_Z below args s) (F0 m 221 ls [])) (hkc : kc ≤ 183 + 643 * x21.toInt.toNat + 0) (hns : ns ≤ 3391 + 81814 * x21.toInt.toNat + 0) (hi0 : 0 ≤ x21.toInt) (hi8 : x21.toInt < 80) {H : Heap} {locs : List Loc} {ls : Array Slot} (hY : gY D y A s L ad σ H locs) (hl : lv_has ls 37 [(0, .ref b), (1, .ref (ad 0)), (2, .ref (ad 161)), (3, .ref (ad 162)), (4, .ref (ad 163)), (5, .ref (ad 164)), (6, .ref (ad 165)), (7, .ref (ad 166)), (8, .ref (ad 167)), (9, .ref (ad 168)), (10, .ref (ad 169)), (11, .ref (ad 170)), (12, .ref (ad 171)), (13, .ref (ad 172)), (14, .ref (ad 173)), (15, .ref (ad 174)), (16, .ref (ad 175)), (17, .ref (ad 176)), (18, .ref (ad 177)), (19, .ref (ad 178)), (21, .int x21), (24, .int x24), (28, .int x28), (29, .int x29)]) (h : fL_law_1694 N xs Lx rec221 σ x21 x24 x28 x29 xs0 = some res) : W p l e room_1 s m args below meth c H locs kc ns (lw_Z below args s) (F0 m 1694 ls [.int xs0]) := by
  unfold fL_law_1694 at h
  refine lv_istore (lv' := [(20, .int xs0), (0, .ref b), (1, .ref (ad 0)), (2, .ref (ad 161)), (3, .ref (ad 162)), (4, .ref (ad 163)), (5, .ref (ad 164)), (6, .ref (ad 165)), (7, .ref (ad 166)), (8, .ref (ad 167)), (9, .ref (ad 168)), (10, .ref (ad 169)), (11, .ref (ad 170)), (12, .ref (ad 171)), (13, .ref (ad 172)), (14, .ref (ad 173)), (15, .ref (ad 174)), (16, .ref (ad 175)), (17, .ref (ad 176)), (18, .ref (ad 177)), (19, .ref (ad 178)), (21, .int x21), (24, .int x24), (28, .int x28), (29, .int x29)]) hx hb dL_law_1694 hl (by decide) rfl ?_
  clear hl
  intro ls hl
  refine lv_aload_n hx hb dL_law_1696 rfl (lv_at hl 3 rfl) ?_
  refine lv_iconst (v := 5) hx hb dL_law_1697 (by decide) ?_
  refine lv_iload hx hb dL_law_1698 (lv_at hl 23 rfl) ?_
  refine G_iast (j := 5) hx hb hK hY (hL 161 (by decide)) gk_161 (by rw [gl_161]; decide +kernel) (by decide +kernel) dL_law_1700 ?_
  clear hY
  intro H locs hY
  refine lv_aload_n hx hb dL_law_1701 rfl (lv_at hl 3 rfl) ?_
  refine lv_bipush (v := 6) hx hb dL_law_1702 (by decide +kernel) ?_
  refine lv_iload hx hb dL_law_1704 (lv_at hl 24 rfl) ?_
  refine G_iast (j := 6) hx hb hK hY (hL 161 (by decide)) gk_161 (by rw [gl_161]; decide +kernel) (by decide +kernel) dL_law_1706 ?_
  clear hY
  intro H locs hY
  refine lv_goto (tgt := 2698) hx hb dL_law_1707 (by decide) ?_
  exact wL_law_2698 hx hb hr hml hown hg hlocks hK hA hL hfl hZ hX hbl hA2 hres hL2 hrec221 (by first | omega | (simp only [g_l0]; omega)) (by first | omega | (simp only [g_l0]; omega)) (by first | omega | (simp only [g_l0]; omega)) (by first | omega | (simp only [g_l0]; omega)) hY (lv_sub hl [1, 2, 3, 4, 5, 6, 7, 8, 9, 10, 11, 12, 13, 14, 15, 16, 17, 18, 19, 20, 0, 21, 22] rfl) h
def fL_law_1642 (N : Nat) (xs : Nat → Int32) (Lx : Nat) (rec221 : (gS × Int32 × Int32) → Option Int32) (σ : gS) (x21 : Int32) (x23 : Int32) (x24 : Int32) (x25 : Int64) (x27 : Int32) : Option Int32 := if x23 = 16 then ((fX11_batches N σ (1 + (x24 - x24 / 4 * 4)) (1 + ((x24 / 4) - (x24 / 4) / 4 * 4))).bind fun r_13 => if r_13.1 = ((10 * (r_13.2.1 161 5)) + (r_13.2.1 161 6)) then (fL_law_1694 N xs Lx rec221 r_13.2 x21 x24 (1 + (x24 - x24 / 4 * 4)) (1 + ((x24 / 4) - (x24 / 4) / 4 * 4)) 1) else (fL_law_1694 N xs Lx rec221 r_13.2 x21 x24 (1 + (x24 - x24 / 4 * 4)) (1 + ((x24 / 4) - (x24 / 4) / 4 * 4)) 0)) else (if x23 = 17 then (if ((x24 / 3) - (x24 / 3) / 3 * 3) ≤ 0 then (fL_law_1737 N xs Lx rec221 σ x21 x24 (x24 - x24 / 3 * 3) 0) else (fL_law_1737 N xs Lx rec221 σ x21 x24 (x24 - x24 / 3 * 3) 1)) else (if x23 = 18 then ((fX11_weigh N σ (x24 - x24 / 3 * 3) (1 + ((x24 / 3) - (x24 / 3) / 10 * 10))).bind fun r_8 => if (3 + (x24 - x24 / 3 * 3)) < 0 ∨ 14 ≤ (3 + (x24 - x24 / 3 * 3)).toNatClampNeg then none else (if r_8.1 = (r_8.2.1 178 ((3 + (x24 - x24 / 3 * 3)).toNatClampNeg)) then (fL_law_1931 N xs Lx rec221 r_8.2 x21 x24 (x24 - x24 / 3 * 3) 1) else (fL_law_1931 N xs Lx rec221 r_8.2 x21 x24 (x24 - x24 / 3 * 3) 0))) else (if x23 = 19 then (if 20 ≤ (σ.1 161 0) then (fL_law_2266 N xs Lx rec221 σ x21 x23 x24 x27) else (if (σ.1 161 1) ≤ 1 then (fL_law_2266 N xs Lx rec221 σ x21 x23 x24 x27) else (if ((σ.1 161 1) - 1) = 0 then none else (lp (fL_law_1998 N xs Lx rec221 x21 x24 x25 (1 + (x24 - x24 / ((σ.1 161 1) - 1) * ((σ.1 161 1) - 1)))) N (σ, 0, 0, 1, 0))))) else (fL_law_2266 N xs Lx rec221 σ x21 x23 x24 x27))))
set_option maxRecDepth 100000 in
set_option maxHeartbeats 1000000 in
theorem wL_law_1642 {rec221 : (gS × Int32 × Int32) → Option Int32} {σ : gS} {x21 : Int32} {x23 : Int32} {x24 : Int32} {x25 : Int64} {x27 : Int32} {ad : Nat → Nat} {kc ns : Nat} (hx : p.tables.exec = Jvm.exec) (hb : c.code = cL_law) (hr : meth.sig.returnType = (some .boolean)) (hml : c.maxLocals = 37) (hown : s.vm.findClass RL = some m.cls) (hg : ∀ w ∈ wsL_law, w.before args s = true) (hlocks : meth.locks = false) (hK : gK D y aS s) (hA : ∀ q, s.heap.size ≤ q → A q) (hL : ∀ k, k < 179 → k ∈ L) (hfl : l.stackTraces = false) (hZ : gZ A s s.heap) (hX : va_X b Lx xs s s.heap) (hbl : b < s.heap.size) (hA2 : ∀ q, A q → s.heap.size ≤ q) (hres : res = 1) (hL2 : ∀ k ∈ L, k < 179) (hrec221 : ∀ {ad : Nat → Nat} {kc ns : Nat} {σ9 : gS} {x20n9 : Int32} {x21n9 : Int32} (hkc : kc ≤ 183 + 643 * x21n9.toInt.toNat + 0) (hns : ns ≤ 3391 + 81814 * x21n9.toInt.toNat + 0) (hi0 : 0 ≤ x21n9.toInt) (hi8 : x21n9.toInt ≤ 80) (H : Heap) (locs : List Loc) (ls : Array Slot), gY D y A s L ad σ9 H locs → lv_has ls 37 [(0, .ref b), (1, .ref (ad 0)), (2, .ref (ad 161)), (3, .ref (ad 162)), (4, .ref (ad 163)), (5, .ref (ad 164)), (6, .ref (ad 165)), (7, .ref (ad 166)), (8, .ref (ad 167)), (9, .ref (ad 168)), (10, .ref (ad 169)), (11, .ref (ad 170)), (12, .ref (ad 171)), (13, .ref (ad 172)), (14, .ref (ad 173)), (15, .ref (ad 174)), (16, .ref (ad 175)), (17, .ref (ad 176)), (18, .ref (ad 177)), (19, .ref (ad 178)), (20, .int x20n9), (21, .int x21n9)] → rec221 (σ9, x20n9, x21n9) = some res → W p l e room_1 s m args below meth c H locs kc ns (lw_Z below args s) (F0 m 221 ls [])) (hkc : kc ≤ 183 + 643 * x21.toInt.toNat + 0) (hns : ns ≤ 3391 + 81814 * x21.toInt.toNat + 0) (hi0 : 0 ≤ x21.toInt) (hi8 : x21.toInt < 80) {H : Heap} {locs : List Loc} {ls : Array Slot} (hY : gY D y A s L ad σ H locs) (hl : lv_has ls 37 [(0, .ref b), (1, .ref (ad 0)), (2, .ref (ad 161)), (3, .ref (ad 162)), (4, .ref (ad 163)), (5, .ref (ad 164)), (6, .ref (ad 165)), (7, .ref (ad 166)), (8, .ref (ad 167)), (9, .ref (ad 168)), (10, .ref (ad 169)), (11, .ref (ad 170)), (12, .ref (ad 171)), (13, .ref (ad 172)), (14, .ref (ad 173)), (15, .ref (ad 174)), (16, .ref (ad 175)), (17, .ref (ad 176)), (18, .ref (ad 177)), (19, .ref (ad 178)), (21, .int x21), (23, .int x23), (24, .int x24), (25, .long x25), (27, .int x27)]) (h : fL_law_1642 N xs Lx rec221 σ x21 x23 x24 x25 x27 = some res) : W p l e room_1 s m args below meth c H locs kc ns (lw_Z below args s) (F0 m 1642 ls []) := by
  unfold fL_law_1642 at h
  refine lv_iload hx hb dL_law_1642 (lv_at hl 21 rfl) ?_
  refine lv_bipush (v := 16) hx hb dL_law_1644 (by decide +kernel) ?_
  refine lv_icmp_ne (tgt := 1710) hx hb dL_law_1646 (by decide) (fun z_1 => ?_) (fun z_1 => ?_)
  ·
    rw [if_neg z_1] at h
    refine lv_iload hx hb dL_law_1710 (lv_at hl 21 rfl) ?_
    refine lv_bipush (v := 17) hx hb dL_law_1712 (by decide +kernel) ?_
    refine lv_icmp_ne (tgt := 1888) hx hb dL_law_1714 (by decide) (fun z_2 => ?_) (fun z_2 => ?_)
    ·
      rw [if_neg z_2] at h
      refine lv_iload hx hb dL_law_1888 (lv_at hl 21 rfl) ?_
      refine lv_bipush (v := 18) hx hb dL_law_1890 (by decide +kernel) ?_
      refine lv_icmp_ne (tgt := 1952) hx hb dL_law_1892 (by decide) (fun z_3 => ?_) (fun z_3 => ?_)
      ·
        rw [if_neg z_3] at h
        refine lv_iload hx hb dL_law_1952 (lv_at hl 21 rfl) ?_
        refine lv_bipush (v := 19) hx hb dL_law_1954 (by decide +kernel) ?_
        refine lv_icmp_ne (tgt := 2266) hx hb dL_law_1956 (by decide) (fun z_4 => ?_) (fun z_4 => ?_)
        ·
          rw [if_neg z_4] at h
          exact wL_law_2266 hx hb hr hml hown hg hlocks hK hA hL hfl hZ hX hbl hA2 hres hL2 hrec221 (by first | omega | (simp only [g_l0]; omega)) (by first | omega | (simp only [g_l0]; omega)) (by first | omega | (simp only [g_l0]; omega)) (by first | omega | (simp only [g_l0]; omega)) hY (lv_sub hl [0, 1, 2, 3, 4, 5, 6, 7, 8, 9, 10, 11, 12, 13, 14, 15, 16, 17, 18, 19, 20, 21, 22, 24] rfl) h
        ·
          rw [if_pos z_4] at h
          refine lv_aload_n hx hb dL_law_1959 rfl (lv_at hl 2 rfl) ?_
          refine lv_iconst (v := 0) hx hb dL_law_1960 (by decide) ?_
          refine G_iald (j := 0) hx hb hK hY (hL 161 (by decide)) gk_161 (by rw [gl_161]; decide +kernel) (by decide +kernel) dL_law_1961 ?_
          refine lv_bipush (v := 20) hx hb dL_law_1962 (by decide +kernel) ?_
          refine lv_icmp_ge (tgt := 2266) hx hb dL_law_1964 (by decide) (fun z_5 => ?_) (fun z_5 => ?_)
          ·
            rw [if_pos z_5] at h
            have qz_5 := g_get z_5; (try simp only [g_l0, g_l3, g_l6, g_l80] at qz_5)
            exact wL_law_2266 hx hb hr hml hown hg hlocks hK hA hL hfl hZ hX hbl hA2 hres hL2 hrec221 (by first | omega | (simp only [g_l0]; omega)) (by first | omega | (simp only [g_l0]; omega)) (by first | omega | (simp only [g_l0]; omega)) (by first | omega | (simp only [g_l0]; omega)) hY (lv_sub hl [0, 1, 2, 3, 4, 5, 6, 7, 8, 9, 10, 11, 12, 13, 14, 15, 16, 17, 18, 19, 20, 21, 22, 24] rfl) h
          ·
            rw [if_neg z_5] at h
            have qz_5 := g_gef z_5; (try simp only [g_l0, g_l3, g_l6, g_l80] at qz_5)
            refine lv_aload_n hx hb dL_law_1967 rfl (lv_at hl 2 rfl) ?_
            refine lv_iconst (v := 1) hx hb dL_law_1968 (by decide) ?_
            refine G_iald (j := 1) hx hb hK hY (hL 161 (by decide)) gk_161 (by rw [gl_161]; decide +kernel) (by decide +kernel) dL_law_1969 ?_
            refine lv_iconst (v := 1) hx hb dL_law_1970 (by decide) ?_
            refine lv_icmp_le (tgt := 2266) hx hb dL_law_1971 (by decide) (fun z_6 => ?_) (fun z_6 => ?_)
            ·
              rw [if_pos z_6] at h
              have qz_6 := g_let z_6; (try simp only [g_l0, g_l3, g_l6, g_l80] at qz_6)
              exact wL_law_2266 hx hb hr hml hown hg hlocks hK hA hL hfl hZ hX hbl hA2 hres hL2 hrec221 (by first | omega | (simp only [g_l0]; omega)) (by first | omega | (simp only [g_l0]; omega)) (by first | omega | (simp only [g_l0]; omega)) (by first | omega | (simp only [g_l0]; omega)) hY (lv_sub hl [0, 1, 2, 3, 4, 5, 6, 7, 8, 9, 10, 11, 12, 13, 14, 15, 16, 17, 18, 19, 20, 21, 22, 24] rfl) h
            ·
              rw [if_neg z_6] at h
              have qz_6 := g_lef z_6; (try simp only [g_l0, g_l3, g_l6, g_l80] at qz_6)
              refine lv_iconst (v := 1) hx hb dL_law_1974 (by decide) ?_
              refine lv_iload hx hb dL_law_1975 (lv_at hl 22 rfl) ?_
              refine lv_aload_n hx hb dL_law_1977 rfl (lv_at hl 2 rfl) ?_
              refine lv_iconst (v := 1) hx hb dL_law_1978 (by decide) ?_
              refine G_iald (j := 1) hx hb hK hY (hL 161 (by decide)) gk_161 (by rw [gl_161]; decide +kernel) (by decide +kernel) dL_law_1979 ?_
              refine lv_iconst (v := 1) hx hb dL_law_1980 (by decide) ?_
              refine lv_isub hx hb dL_law_1981 ?_
              obtain ⟨z_7, h⟩ := g_guard h
              refine lv_irem hx hb dL_law_1982 z_7 ?_
              refine lv_iadd hx hb dL_law_1983 ?_
              refine lv_istore (lv' := [(28, .int (1 + (x24 - x24 / ((σ.1 161 1) - 1) * ((σ.1 161 1) - 1)))), (0, .ref b), (1, .ref (ad 0)), (2, .ref (ad 161)), (3, .ref (ad 162)), (4, .ref (ad 163)), (5, .ref (ad 164)), (6, .ref (ad 165)), (7, .ref (ad 166)), (8, .ref (ad 167)), (9, .ref (ad 168)), (10, .ref (ad 169)), (11, .ref (ad 170)), (12, .ref (ad 171)), (13, .ref (ad 172)), (14, .ref (ad 173)), (15, .ref (ad 174)), (16, .ref (ad 175)), (17, .ref (ad 176)), (18, .ref (ad 177)), (19, .ref (ad 178)), (21, .int x21), (23, .int x23), (24, .int x24), (25, .long x25), (27, .int x27)]) hx hb dL_law_1984 hl (by decide) rfl ?_
              clear hl
              intro ls hl
              refine lv_iconst (v := 0) hx hb dL_law_1986 (by decide) ?_
              refine lv_istore (lv' := [(29, .int 0), (28, .int (1 + (x24 - x24 / ((σ.1 161 1) - 1) * ((σ.1 161 1) - 1)))), (0, .ref b), (1, .ref (ad 0)), (2, .ref (ad 161)), (3, .ref (ad 162)), (4, .ref (ad 163)), (5, .ref (ad 164)), (6, .ref (ad 165)), (7, .ref (ad 166)), (8, .ref (ad 167)), (9, .ref (ad 168)), (10, .ref (ad 169)), (11, .ref (ad 170)), (12, .ref (ad 171)), (13, .ref (ad 172)), (14, .ref (ad 173)), (15, .ref (ad 174)), (16, .ref (ad 175)), (17, .ref (ad 176)), (18, .ref (ad 177)), (19, .ref (ad 178)), (21, .int x21), (23, .int x23), (24, .int x24), (25, .long x25), (27, .int x27)]) hx hb dL_law_1987 hl (by decide) rfl ?_
              clear hl
              intro ls hl
              refine lv_lconst (v := 0) hx hb dL_law_1989 (by decide) ?_
              refine lv_lstore (lv' := [(30, .long 0), (29, .int 0), (28, .int (1 + (x24 - x24 / ((σ.1 161 1) - 1) * ((σ.1 161 1) - 1)))), (0, .ref b), (1, .ref (ad 0)), (2, .ref (ad 161)), (3, .ref (ad 162)), (4, .ref (ad 163)), (5, .ref (ad 164)), (6, .ref (ad 165)), (7, .ref (ad 166)), (8, .ref (ad 167)), (9, .ref (ad 168)), (10, .ref (ad 169)), (11, .ref (ad 170)), (12, .ref (ad 171)), (13, .ref (ad 172)), (14, .ref (ad 173)), (15, .ref (ad 174)), (16, .ref (ad 175)), (17, .ref (ad 176)), (18, .ref (ad 177)), (19, .ref (ad 178)), (21, .int x21), (23, .int x23), (24, .int x24), (25, .long x25), (27, .int x27)]) hx hb dL_law_1990 hl (by decide) rfl ?_
              clear hl
              intro ls hl
              refine lv_iconst (v := 1) hx hb dL_law_1992 (by decide) ?_
              refine lv_istore (lv' := [(32, .int 1), (30, .long 0), (29, .int 0), (28, .int (1 + (x24 - x24 / ((σ.1 161 1) - 1) * ((σ.1 161 1) - 1)))), (0, .ref b), (1, .ref (ad 0)), (2, .ref (ad 161)), (3, .ref (ad 162)), (4, .ref (ad 163)), (5, .ref (ad 164)), (6, .ref (ad 165)), (7, .ref (ad 166)), (8, .ref (ad 167)), (9, .ref (ad 168)), (10, .ref (ad 169)), (11, .ref (ad 170)), (12, .ref (ad 171)), (13, .ref (ad 172)), (14, .ref (ad 173)), (15, .ref (ad 174)), (16, .ref (ad 175)), (17, .ref (ad 176)), (18, .ref (ad 177)), (19, .ref (ad 178)), (21, .int x21), (23, .int x23), (24, .int x24), (25, .long x25), (27, .int x27)]) hx hb dL_law_1993 hl (by decide) rfl ?_
              clear hl
              intro ls hl
              refine lv_iconst (v := 0) hx hb dL_law_1995 (by decide) ?_
              refine lv_istore (lv' := [(33, .int 0), (32, .int 1), (30, .long 0), (29, .int 0), (28, .int (1 + (x24 - x24 / ((σ.1 161 1) - 1) * ((σ.1 161 1) - 1)))), (0, .ref b), (1, .ref (ad 0)), (2, .ref (ad 161)), (3, .ref (ad 162)), (4, .ref (ad 163)), (5, .ref (ad 164)), (6, .ref (ad 165)), (7, .ref (ad 166)), (8, .ref (ad 167)), (9, .ref (ad 168)), (10, .ref (ad 169)), (11, .ref (ad 170)), (12, .ref (ad 171)), (13, .ref (ad 172)), (14, .ref (ad 173)), (15, .ref (ad 174)), (16, .ref (ad 175)), (17, .ref (ad 176)), (18, .ref (ad 177)), (19, .ref (ad 178)), (21, .int x21), (23, .int x23), (24, .int x24), (25, .long x25), (27, .int x27)]) hx hb dL_law_1996 hl (by decide) rfl ?_
              clear hl
              intro ls hl
              exact wL_law_1998 hx hb hr hml hown hg hlocks hK hA hL hfl hZ hX hbl hA2 hres hL2 hrec221 N (by first | omega | (simp only [g_l0]; omega)) (by first | omega | (simp only [g_l0]; omega)) (by first | omega | (simp only [g_l0]; omega)) (by first | omega | (simp only [g_l0]; omega)) _ _ _ hY (lv_sub hl [5, 6, 7, 8, 9, 10, 11, 12, 13, 14, 15, 16, 17, 18, 19, 20, 21, 22, 23, 24, 25, 27, 28, 4, 3, 2, 1, 0] rfl) h
      ·
        rw [if_pos z_3] at h
        refine lv_iload hx hb dL_law_1895 (lv_at hl 22 rfl) ?_
        refine lv_iconst (v := 3) hx hb dL_law_1897 (by decide) ?_
        refine lv_irem hx hb dL_law_1898 (by decide +kernel) ?_
        refine lv_istore (lv' := [(28, .int (x24 - x24 / 3 * 3)), (0, .ref b), (1, .ref (ad 0)), (2, .ref (ad 161)), (3, .ref (ad 162)), (4, .ref (ad 163)), (5, .ref (ad 164)), (6, .ref (ad 165)), (7, .ref (ad 166)), (8, .ref (ad 167)), (9, .ref (ad 168)), (10, .ref (ad 169)), (11, .ref (ad 170)), (12, .ref (ad 171)), (13, .ref (ad 172)), (14, .ref (ad 173)), (15, .ref (ad 174)), (16, .ref (ad 175)), (17, .ref (ad 176)), (18, .ref (ad 177)), (19, .ref (ad 178)), (21, .int x21), (23, .int x23), (24, .int x24), (25, .long x25), (27, .int x27)]) hx hb dL_law_1899 hl (by decide) rfl ?_
        clear hl
        intro ls hl
        refine lv_aload_n hx hb dL_law_1901 rfl (lv_at hl 2 rfl) ?_
        refine lv_iload hx hb dL_law_1902 (lv_at hl 0 rfl) ?_
        refine lv_iconst (v := 1) hx hb dL_law_1904 (by decide) ?_
        refine lv_iload hx hb dL_law_1905 (lv_at hl 23 rfl) ?_
        refine lv_iconst (v := 3) hx hb dL_law_1907 (by decide) ?_
        refine lv_idiv hx hb dL_law_1908 (by decide +kernel) ?_
        refine lv_bipush (v := 10) hx hb dL_law_1909 (by decide +kernel) ?_
        refine lv_irem hx hb dL_law_1911 (by decide +kernel) ?_
        refine lv_iadd hx hb dL_law_1912 ?_
        obtain ⟨r_8, e_9, h⟩ := g_bind h
        refine G_ai hY hA (va_runV (As := [.int (x24 - x24 / 3 * 3), .int (1 + ((x24 / 3) - (x24 / 3) / 10 * 10))]) (rest := []) ⟨hx, hb, hml, hown, hg⟩ (kX11_weigh l D y aS H.size L hL ad N σ (x24 - x24 / 3 * 3) (1 + ((x24 / 3) - (x24 / 3) / 10 * 10)) _ e_9) (cwV 2 hg ggV_RL_239_X11_weigh rfl rfl rfl (by decide +kernel) ⟨Nat.le_of_ble_eq_true rfl, Nat.le_of_ble_eq_true rfl⟩) (G_pV (q := (RX11, TX11, 19)) hK hY (hL 0 (by decide)) gk_0 (by decide) rfl) rfl rfl hl.1 rfl (lv_room (Nat.le_of_ble_eq_true rfl)) dL_law_1913 ⟨(by first | omega | (show _ ≤ (600086 : Nat); omega) | (show _ ≤ (7301442 : Nat); omega)), (by first | omega | (show _ ≤ (600086 : Nat); omega) | (show _ ≤ (7301442 : Nat); omega))⟩) ?_
        clear hY
        rintro _ H locs rfl hY
        refine lv_aload hx hb dL_law_1916 (lv_at hl 20 rfl) ?_
        refine lv_iconst (v := 3) hx hb dL_law_1918 (by decide) ?_
        refine lv_iload hx hb dL_law_1919 (lv_at hl 0 rfl) ?_
        refine lv_iadd hx hb dL_law_1921 ?_
        obtain ⟨z_10, h⟩ := g_guard h
        refine G_iald (j := (3 + (x24 - x24 / 3 * 3)).toNatClampNeg) hx hb hK hY (hL 178 (by decide)) gk_178 (by rw [gl_178]; exact z_10) rfl dL_law_1922 ?_
        refine lv_icmp_ne (tgt := 1930) hx hb dL_law_1923 (by decide) (fun z_11 => ?_) (fun z_11 => ?_)
        ·
          rw [if_neg z_11] at h
          refine lv_iconst (v := 0) hx hb dL_law_1930 (by decide) ?_
          exact wL_law_1931 hx hb hr hml hown hg hlocks hK hA hL hfl hZ hX hbl hA2 hres hL2 hrec221 (by first | omega | (simp only [g_l0]; omega)) (by first | omega | (simp only [g_l0]; omega)) (by first | omega | (simp only [g_l0]; omega)) (by first | omega | (simp only [g_l0]; omega)) hY (lv_sub hl [1, 2, 3, 4, 5, 6, 7, 8, 9, 10, 11, 12, 13, 14, 15, 16, 17, 18, 19, 20, 21, 23, 0] rfl) h
        ·
          rw [if_pos z_11] at h
          refine lv_iconst (v := 1) hx hb dL_law_1926 (by decide) ?_
          refine lv_goto (tgt := 1931) hx hb dL_law_1927 (by decide) ?_
          exact wL_law_1931 hx hb hr hml hown hg hlocks hK hA hL hfl hZ hX hbl hA2 hres hL2 hrec221 (by first | omega | (simp only [g_l0]; omega)) (by first | omega | (simp only [g_l0]; omega)) (by first | omega | (simp only [g_l0]; omega)) (by first | omega | (simp only [g_l0]; omega)) hY (lv_sub hl [1, 2, 3, 4, 5, 6, 7, 8, 9, 10, 11, 12, 13, 14, 15, 16, 17, 18, 19, 20, 21, 23, 0] rfl) h
    ·
      rw [if_pos z_2] at h
      refine lv_iload hx hb dL_law_1717 (lv_at hl 22 rfl) ?_
      refine lv_iconst (v := 3) hx hb dL_law_1719 (by decide) ?_
      refine lv_irem hx hb dL_law_1720 (by decide +kernel) ?_
      refine lv_istore (lv' := [(28, .int (x24 - x24 / 3 * 3)), (0, .ref b), (1, .ref (ad 0)), (2, .ref (ad 161)), (3, .ref (ad 162)), (4, .ref (ad 163)), (5, .ref (ad 164)), (6, .ref (ad 165)), (7, .ref (ad 166)), (8, .ref (ad 167)), (9, .ref (ad 168)), (10, .ref (ad 169)), (11, .ref (ad 170)), (12, .ref (ad 171)), (13, .ref (ad 172)), (14, .ref (ad 173)), (15, .ref (ad 174)), (16, .ref (ad 175)), (17, .ref (ad 176)), (18, .ref (ad 177)), (19, .ref (ad 178)), (21, .int x21), (23, .int x23), (24, .int x24), (25, .long x25), (27, .int x27)]) hx hb dL_law_1721 hl (by decide) rfl ?_
      clear hl
      intro ls hl
      refine lv_iload hx hb dL_law_1723 (lv_at hl 23 rfl) ?_
      refine lv_iconst (v := 3) hx hb dL_law_1725 (by decide) ?_
      refine lv_idiv hx hb dL_law_1726 (by decide +kernel) ?_
      refine lv_iconst (v := 3) hx hb dL_law_1727 (by decide) ?_
      refine lv_irem hx hb dL_law_1728 (by decide +kernel) ?_
      refine lv_if_le (tgt := 1736) hx hb dL_law_1729 (by decide) (fun z_12 => ?_) (fun z_12 => ?_)
      ·
        rw [if_pos z_12] at h
        have qz_12 := g_let z_12; (try simp only [g_l0, g_l3, g_l6, g_l80] at qz_12)
        refine lv_iconst (v := 0) hx hb dL_law_1736 (by decide) ?_
        exact wL_law_1737 hx hb hr hml hown hg hlocks hK hA hL hfl hZ hX hbl hA2 hres hL2 hrec221 (by first | omega | (simp only [g_l0]; omega)) (by first | omega | (simp only [g_l0]; omega)) (by first | omega | (simp only [g_l0]; omega)) (by first | omega | (simp only [g_l0]; omega)) hY (lv_sub hl [1, 2, 3, 4, 5, 6, 7, 8, 9, 10, 11, 12, 13, 14, 15, 16, 17, 18, 19, 20, 21, 23, 0] rfl) h
      ·
        rw [if_neg z_12] at h
        have qz_12 := g_lef z_12; (try simp only [g_l0, g_l3, g_l6, g_l80] at qz_12)
        refine lv_iconst (v := 1) hx hb dL_law_1732 (by decide) ?_
        refine lv_goto (tgt := 1737) hx hb dL_law_1733 (by decide) ?_
        exact wL_law_1737 hx hb hr hml hown hg hlocks hK hA hL hfl hZ hX hbl hA2 hres hL2 hrec221 (by first | omega | (simp only [g_l0]; omega)) (by first | omega | (simp only [g_l0]; omega)) (by first | omega | (simp only [g_l0]; omega)) (by first | omega | (simp only [g_l0]; omega)) hY (lv_sub hl [1, 2, 3, 4, 5, 6, 7, 8, 9, 10, 11, 12, 13, 14, 15, 16, 17, 18, 19, 20, 21, 23, 0] rfl) h
  ·
    rw [if_pos z_1] at h
    refine lv_iconst (v := 1) hx hb dL_law_1649 (by decide) ?_
    refine lv_iload hx hb dL_law_1650 (lv_at hl 22 rfl) ?_
    refine lv_iconst (v := 4) hx hb dL_law_1652 (by decide) ?_
    refine lv_irem hx hb dL_law_1653 (by decide +kernel) ?_
    refine lv_iadd hx hb dL_law_1654 ?_
    refine lv_istore (lv' := [(28, .int (1 + (x24 - x24 / 4 * 4))), (0, .ref b), (1, .ref (ad 0)), (2, .ref (ad 161)), (3, .ref (ad 162)), (4, .ref (ad 163)), (5, .ref (ad 164)), (6, .ref (ad 165)), (7, .ref (ad 166)), (8, .ref (ad 167)), (9, .ref (ad 168)), (10, .ref (ad 169)), (11, .ref (ad 170)), (12, .ref (ad 171)), (13, .ref (ad 172)), (14, .ref (ad 173)), (15, .ref (ad 174)), (16, .ref (ad 175)), (17, .ref (ad 176)), (18, .ref (ad 177)), (19, .ref (ad 178)), (21, .int x21), (23, .int x23), (24, .int x24), (25, .long x25), (27, .int x27)]) hx hb dL_law_1655 hl (by decide) rfl ?_
    clear hl
    intro ls hl
    refine lv_iconst (v := 1) hx hb dL_law_1657 (by decide) ?_
    refine lv_iload hx hb dL_law_1658 (lv_at hl 23 rfl) ?_
    refine lv_iconst (v := 4) hx hb dL_law_1660 (by decide) ?_
    refine lv_idiv hx hb dL_law_1661 (by decide +kernel) ?_
    refine lv_iconst (v := 4) hx hb dL_law_1662 (by decide) ?_
    refine lv_irem hx hb dL_law_1663 (by decide +kernel) ?_
    refine lv_iadd hx hb dL_law_1664 ?_
    refine lv_istore (lv' := [(29, .int (1 + ((x24 / 4) - (x24 / 4) / 4 * 4))), (28, .int (1 + (x24 - x24 / 4 * 4))), (0, .ref b), (1, .ref (ad 0)), (2, .ref (ad 161)), (3, .ref (ad 162)), (4, .ref (ad 163)), (5, .ref (ad 164)), (6, .ref (ad 165)), (7, .ref (ad 166)), (8, .ref (ad 167)), (9, .ref (ad 168)), (10, .ref (ad 169)), (11, .ref (ad 170)), (12, .ref (ad 171)), (13, .ref (ad 172)), (14, .ref (ad 173)), (15, .ref (ad 174)), (16, .ref (ad 175)), (17, .ref (ad 176)), (18, .ref (ad 177)), (19, .ref (ad 178)), (21, .int x21), (23, .int x23), (24, .int x24), (25, .long x25), (27, .int x27)]) hx hb dL_law_1665 hl (by decide) rfl ?_
    clear hl
    intro ls hl
    refine lv_aload_n hx hb dL_law_1667 rfl (lv_at hl 3 rfl) ?_
    refine lv_iload hx hb dL_law_1668 (lv_at hl 1 rfl) ?_
    refine lv_iload hx hb dL_law_1670 (lv_at hl 0 rfl) ?_
    obtain ⟨r_13, e_14, h⟩ := g_bind h
    refine G_ai hY hA (va_runV (As := [.int (1 + (x24 - x24 / 4 * 4)), .int (1 + ((x24 / 4) - (x24 / 4) / 4 * 4))]) (rest := []) ⟨hx, hb, hml, hown, hg⟩ (kX11_batches l D y aS H.size L hL ad N σ (1 + (x24 - x24 / 4 * 4)) (1 + ((x24 / 4) - (x24 / 4) / 4 * 4)) _ e_14) (cwV 2 hg ggV_RL_231_X11_batches rfl rfl rfl (by decide +kernel) ⟨Nat.le_of_ble_eq_true rfl, Nat.le_of_ble_eq_true rfl⟩) (G_pV (q := (RX11, TX11, 19)) hK hY (hL 0 (by decide)) gk_0 (by decide) rfl) rfl rfl hl.1 rfl (lv_room (Nat.le_of_ble_eq_true rfl)) dL_law_1672 ⟨(by first | omega | (show _ ≤ (600086 : Nat); omega) | (show _ ≤ (7301442 : Nat); omega)), (by first | omega | (show _ ≤ (600086 : Nat); omega) | (show _ ≤ (7301442 : Nat); omega))⟩) ?_
    clear hY
    rintro _ H locs rfl hY
    refine lv_bipush (v := 10) hx hb dL_law_1675 (by decide +kernel) ?_
    refine lv_aload_n hx hb dL_law_1677 rfl (lv_at hl 4 rfl) ?_
    refine lv_iconst (v := 5) hx hb dL_law_1678 (by decide) ?_
    refine G_iald (j := 5) hx hb hK hY (hL 161 (by decide)) gk_161 (by rw [gl_161]; decide +kernel) (by decide +kernel) dL_law_1679 ?_
    refine lv_imul hx hb dL_law_1680 ?_
    refine lv_aload_n hx hb dL_law_1681 rfl (lv_at hl 4 rfl) ?_
    refine lv_bipush (v := 6) hx hb dL_law_1682 (by decide +kernel) ?_
    refine G_iald (j := 6) hx hb hK hY (hL 161 (by decide)) gk_161 (by rw [gl_161]; decide +kernel) (by decide +kernel) dL_law_1684 ?_
    refine lv_iadd hx hb dL_law_1685 ?_
    refine lv_icmp_ne (tgt := 1693) hx hb dL_law_1686 (by decide) (fun z_15 => ?_) (fun z_15 => ?_)
    ·
      rw [if_neg z_15] at h
      refine lv_iconst (v := 0) hx hb dL_law_1693 (by decide) ?_
      exact wL_law_1694 hx hb hr hml hown hg hlocks hK hA hL hfl hZ hX hbl hA2 hres hL2 hrec221 (by first | omega | (simp only [g_l0]; omega)) (by first | omega | (simp only [g_l0]; omega)) (by first | omega | (simp only [g_l0]; omega)) (by first | omega | (simp only [g_l0]; omega)) hY (lv_sub hl [2, 3, 4, 5, 6, 7, 8, 9, 10, 11, 12, 13, 14, 15, 16, 17, 18, 19, 20, 21, 22, 24, 1, 0] rfl) h
    ·
      rw [if_pos z_15] at h
      refine lv_iconst (v := 1) hx hb dL_law_1689 (by decide) ?_
      refine lv_goto (tgt := 1694) hx hb dL_law_1690 (by decide) ?_
      exact wL_law_1694 hx hb hr hml hown hg hlocks hK hA hL hfl hZ hX hbl hA2 hres hL2 hrec221 (by first | omega | (simp only [g_l0]; omega)) (by first | omega | (simp only [g_l0]; omega)) (by first | omega | (simp only [g_l0]; omega)) (by first | omega | (simp only [g_l0]; omega)) hY (lv_sub hl [2, 3, 4, 5, 6, 7, 8, 9, 10, 11, 12, 13, 14, 15, 16, 17, 18, 19, 20, 21, 22, 24, 1, 0] rfl) h
def fL_law_1614 (N : Nat) (xs : Nat → Int32) (Lx : Nat) (rec221 : (gS × Int32 × Int32) → Option Int32) (σ : gS) (x21 : Int32) (x24 : Int32) (x28 : Int32) (xs0 : Int32) : Option Int32 := if ((12 * x28) + 5) < 0 ∨ 48 ≤ ((12 * x28) + 5).toNatClampNeg then none else (if ((12 * x28) + 6) < 0 ∨ 48 ≤ ((12 * x28) + 6).toNatClampNeg then none else (fL_law_2698 N xs Lx rec221 (sI (sI σ 172 (((12 * x28) + 5).toNatClampNeg) 0) 172 (((12 * x28) + 6).toNatClampNeg) 0) xs0 x21 x24))
set_option maxRecDepth 100000 in
set_option maxHeartbeats 1000000 in
theorem wL_law_1614 {rec221 : (gS × Int32 × Int32) → Option Int32} {σ : gS} {x21 : Int32} {x24 : Int32} {x28 : Int32} {xs0 : Int32} {ad : Nat → Nat} {kc ns : Nat} (hx : p.tables.exec = Jvm.exec) (hb : c.code = cL_law) (hr : meth.sig.returnType = (some .boolean)) (hml : c.maxLocals = 37) (hown : s.vm.findClass RL = some m.cls) (hg : ∀ w ∈ wsL_law, w.before args s = true) (hlocks : meth.locks = false) (hK : gK D y aS s) (hA : ∀ q, s.heap.size ≤ q → A q) (hL : ∀ k, k < 179 → k ∈ L) (hfl : l.stackTraces = false) (hZ : gZ A s s.heap) (hX : va_X b Lx xs s s.heap) (hbl : b < s.heap.size) (hA2 : ∀ q, A q → s.heap.size ≤ q) (hres : res = 1) (hL2 : ∀ k ∈ L, k < 179) (hrec221 : ∀ {ad : Nat → Nat} {kc ns : Nat} {σ9 : gS} {x20n9 : Int32} {x21n9 : Int32} (hkc : kc ≤ 183 + 643 * x21n9.toInt.toNat + 0) (hns : ns ≤ 3391 + 81814 * x21n9.toInt.toNat + 0) (hi0 : 0 ≤ x21n9.toInt) (hi8 : x21n9.toInt ≤ 80) (H : Heap) (locs : List Loc) (ls : Array Slot), gY D y A s L ad σ9 H locs → lv_has ls 37 [(0, .ref b), (1, .ref (ad 0)), (2, .ref (ad 161)), (3, .ref (ad 162)), (4, .ref (ad 163)), (5, .ref (ad 164)), (6, .ref (ad 165)), (7, .ref (ad 166)), (8, .ref (ad 167)), (9, .ref (ad 168)), (10, .ref (ad 169)), (11, .ref (ad 170)), (12, .ref (ad 171)), (13, .ref (ad 172)), (14, .ref (ad 173)), (15, .ref (ad 174)), (16, .ref (ad 175)), (17, .ref (ad 176)), (18, .ref (ad 177)), (19, .ref (ad 178)), (20, .int x20n9), (21, .int x21n9)] → rec221 (σ9, x20n9, x21n9) = some res → W p l e room_1 s m args below meth c H locs kc ns (lw_Z below args s) (F0 m 221 ls [])) (hkc : kc ≤ 183 + 643 * x21.toInt.toNat + 0) (hns : ns ≤ 3391 + 81814 * x21.toInt.toNat + 0) (hi0 : 0 ≤ x21.toInt) (hi8 : x21.toInt < 80) {H : Heap} {locs : List Loc} {ls : Array Slot} (hY : gY D y A s L ad σ H locs) (hl : lv_has ls 37 [(0, .ref b), (1, .ref (ad 0)), (2, .ref (ad 161)), (3, .ref (ad 162)), (4, .ref (ad 163)), (5, .ref (ad 164)), (6, .ref (ad 165)), (7, .ref (ad 166)), (8, .ref (ad 167)), (9, .ref (ad 168)), (10, .ref (ad 169)), (11, .ref (ad 170)), (12, .ref (ad 171)), (13, .ref (ad 172)), (14, .ref (ad 173)), (15, .ref (ad 174)), (16, .ref (ad 175)), (17, .ref (ad 176)), (18, .ref (ad 177)), (19, .ref (ad 178)), (21, .int x21), (24, .int x24), (28, .int x28)]) (h : fL_law_1614 N xs Lx rec221 σ x21 x24 x28 xs0 = some res) : W p l e room_1 s m args below meth c H locs kc ns (lw_Z below args s) (F0 m 1614 ls [.int xs0]) := by
  unfold fL_law_1614 at h
  refine lv_istore (lv' := [(20, .int xs0), (0, .ref b), (1, .ref (ad 0)), (2, .ref (ad 161)), (3, .ref (ad 162)), (4, .ref (ad 163)), (5, .ref (ad 164)), (6, .ref (ad 165)), (7, .ref (ad 166)), (8, .ref (ad 167)), (9, .ref (ad 168)), (10, .ref (ad 169)), (11, .ref (ad 170)), (12, .ref (ad 171)), (13, .ref (ad 172)), (14, .ref (ad 173)), (15, .ref (ad 174)), (16, .ref (ad 175)), (17, .ref (ad 176)), (18, .ref (ad 177)), (19, .ref (ad 178)), (21, .int x21), (24, .int x24), (28, .int x28)]) hx hb dL_law_1614 hl (by decide) rfl ?_
  clear hl
  intro ls hl
  refine lv_aload hx hb dL_law_1616 (lv_at hl 14 rfl) ?_
  refine lv_bipush (v := 12) hx hb dL_law_1618 (by decide +kernel) ?_
  refine lv_iload hx hb dL_law_1620 (lv_at hl 23 rfl) ?_
  refine lv_imul hx hb dL_law_1622 ?_
  refine lv_iconst (v := 5) hx hb dL_law_1623 (by decide) ?_
  refine lv_iadd hx hb dL_law_1624 ?_
  refine lv_iconst (v := 0) hx hb dL_law_1625 (by decide) ?_
  obtain ⟨z_1, h⟩ := g_guard h
  refine G_iast (j := ((12 * x28) + 5).toNatClampNeg) hx hb hK hY (hL 172 (by decide)) gk_172 (by rw [gl_172]; exact z_1) rfl dL_law_1626 ?_
  clear hY
  intro H locs hY
  refine lv_aload hx hb dL_law_1627 (lv_at hl 14 rfl) ?_
  refine lv_bipush (v := 12) hx hb dL_law_1629 (by decide +kernel) ?_
  refine lv_iload hx hb dL_law_1631 (lv_at hl 23 rfl) ?_
  refine lv_imul hx hb dL_law_1633 ?_
  refine lv_bipush (v := 6) hx hb dL_law_1634 (by decide +kernel) ?_
  refine lv_iadd hx hb dL_law_1636 ?_
  refine lv_iconst (v := 0) hx hb dL_law_1637 (by decide) ?_
  obtain ⟨z_2, h⟩ := g_guard h
  refine G_iast (j := ((12 * x28) + 6).toNatClampNeg) hx hb hK hY (hL 172 (by decide)) gk_172 (by rw [gl_172]; exact z_2) rfl dL_law_1638 ?_
  clear hY
  intro H locs hY
  refine lv_goto (tgt := 2698) hx hb dL_law_1639 (by decide) ?_
  exact wL_law_2698 hx hb hr hml hown hg hlocks hK hA hL hfl hZ hX hbl hA2 hres hL2 hrec221 (by first | omega | (simp only [g_l0]; omega)) (by first | omega | (simp only [g_l0]; omega)) (by first | omega | (simp only [g_l0]; omega)) (by first | omega | (simp only [g_l0]; omega)) hY (lv_sub hl [1, 2, 3, 4, 5, 6, 7, 8, 9, 10, 11, 12, 13, 14, 15, 16, 17, 18, 19, 20, 0, 21, 22] rfl) h
def fL_law_1606 (N : Nat) (xs : Nat → Int32) (Lx : Nat) (rec221 : (gS × Int32 × Int32) → Option Int32) (σ : gS) (x21 : Int32) (x24 : Int32) (x28 : Int32) (xs0 : Int32) (xs1 : Int32) : Option Int32 := if xs1 = xs0 then (fL_law_1614 N xs Lx rec221 σ x21 x24 x28 1) else (fL_law_1614 N xs Lx rec221 σ x21 x24 x28 0)
set_option maxRecDepth 100000 in
set_option maxHeartbeats 1000000 in
theorem wL_law_1606 {rec221 : (gS × Int32 × Int32) → Option Int32} {σ : gS} {x21 : Int32} {x24 : Int32} {x28 : Int32} {xs0 : Int32} {xs1 : Int32} {ad : Nat → Nat} {kc ns : Nat} (hx : p.tables.exec = Jvm.exec) (hb : c.code = cL_law) (hr : meth.sig.returnType = (some .boolean)) (hml : c.maxLocals = 37) (hown : s.vm.findClass RL = some m.cls) (hg : ∀ w ∈ wsL_law, w.before args s = true) (hlocks : meth.locks = false) (hK : gK D y aS s) (hA : ∀ q, s.heap.size ≤ q → A q) (hL : ∀ k, k < 179 → k ∈ L) (hfl : l.stackTraces = false) (hZ : gZ A s s.heap) (hX : va_X b Lx xs s s.heap) (hbl : b < s.heap.size) (hA2 : ∀ q, A q → s.heap.size ≤ q) (hres : res = 1) (hL2 : ∀ k ∈ L, k < 179) (hrec221 : ∀ {ad : Nat → Nat} {kc ns : Nat} {σ9 : gS} {x20n9 : Int32} {x21n9 : Int32} (hkc : kc ≤ 183 + 643 * x21n9.toInt.toNat + 0) (hns : ns ≤ 3391 + 81814 * x21n9.toInt.toNat + 0) (hi0 : 0 ≤ x21n9.toInt) (hi8 : x21n9.toInt ≤ 80) (H : Heap) (locs : List Loc) (ls : Array Slot), gY D y A s L ad σ9 H locs → lv_has ls 37 [(0, .ref b), (1, .ref (ad 0)), (2, .ref (ad 161)), (3, .ref (ad 162)), (4, .ref (ad 163)), (5, .ref (ad 164)), (6, .ref (ad 165)), (7, .ref (ad 166)), (8, .ref (ad 167)), (9, .ref (ad 168)), (10, .ref (ad 169)), (11, .ref (ad 170)), (12, .ref (ad 171)), (13, .ref (ad 172)), (14, .ref (ad 173)), (15, .ref (ad 174)), (16, .ref (ad 175)), (17, .ref (ad 176)), (18, .ref (ad 177)), (19, .ref (ad 178)), (20, .int x20n9), (21, .int x21n9)] → rec221 (σ9, x20n9, x21n9) = some res → W p l e room_1 s m args below meth c H locs kc ns (lw_Z below args s) (F0 m 221 ls [])) (hkc : kc ≤ 183 + 643 * x21.toInt.toNat + 0) (hns : ns ≤ 3391 + 81814 * x21.toInt.toNat + 0) (hi0 : 0 ≤ x21.toInt) (hi8 : x21.toInt < 80) {H : Heap} {locs : List Loc} {ls : Array Slot} (hY : gY D y A s L ad σ H locs) (hl : lv_has ls 37 [(0, .ref b), (1, .ref (ad 0)), (2, .ref (ad 161)), (3, .ref (ad 162)), (4, .ref (ad 163)), (5, .ref (ad 164)), (6, .ref (ad 165)), (7, .ref (ad 166)), (8, .ref (ad 167)), (9, .ref (ad 168)), (10, .ref (ad 169)), (11, .ref (ad 170)), (12, .ref (ad 171)), (13, .ref (ad 172)), (14, .ref (ad 173)), (15, .ref (ad 174)), (16, .ref (ad 175)), (17, .ref (ad 176)), (18, .ref (ad 177)), (19, .ref (ad 178)), (21, .int x21), (24, .int x24), (28, .int x28)]) (h : fL_law_1606 N xs Lx rec221 σ x21 x24 x28 xs0 xs1 = some res) : W p l e room_1 s m args below meth c H locs kc ns (lw_Z below args s) (F0 m 1606 ls [.int xs0, .int xs1]) := by
  unfold fL_law_1606 at h
  refine lv_icmp_ne (tgt := 1613) hx hb dL_law_1606 (by decide) (fun z_1 => ?_) (fun z_1 => ?_)
  ·
    rw [if_neg z_1] at h
    refine lv_iconst (v := 0) hx hb dL_law_1613 (by decide) ?_
    exact wL_law_1614 hx hb hr hml hown hg hlocks hK hA hL hfl hZ hX hbl hA2 hres hL2 hrec221 (by first | omega | (simp only [g_l0]; omega)) (by first | omega | (simp only [g_l0]; omega)) (by first | omega | (simp only [g_l0]; omega)) (by first | omega | (simp only [g_l0]; omega)) hY (lv_sub hl [0, 1, 2, 3, 4, 5, 6, 7, 8, 9, 10, 11, 12, 13, 14, 15, 16, 17, 18, 19, 20, 21, 22] rfl) h
  ·
    rw [if_pos z_1] at h
    refine lv_iconst (v := 1) hx hb dL_law_1609 (by decide) ?_
    refine lv_goto (tgt := 1614) hx hb dL_law_1610 (by decide) ?_
    exact wL_law_1614 hx hb hr hml hown hg hlocks hK hA hL hfl hZ hX hbl hA2 hres hL2 hrec221 (by first | omega | (simp only [g_l0]; omega)) (by first | omega | (simp only [g_l0]; omega)) (by first | omega | (simp only [g_l0]; omega)) (by first | omega | (simp only [g_l0]; omega)) hY (lv_sub hl [0, 1, 2, 3, 4, 5, 6, 7, 8, 9, 10, 11, 12, 13, 14, 15, 16, 17, 18, 19, 20, 21, 22] rfl) h
def fL_law_1559 (N : Nat) (xs : Nat → Int32) (Lx : Nat) (rec221 : (gS × Int32 × Int32) → Option Int32) (σ : gS) (x21 : Int32) (x23 : Int32) (x24 : Int32) (x25 : Int64) (x27 : Int32) : Option Int32 := if x23 = 15 then (if (σ.1 161 2) ≤ 0 then (fL_law_1642 N xs Lx rec221 σ x21 x23 x24 x25 x27) else (if (σ.1 161 2) = 0 then none else ((fX11_letBack N σ (x24 - x24 / (σ.1 161 2) * (σ.1 161 2))).bind fun r_4 => if ((12 * (x24 - x24 / (σ.1 161 2) * (σ.1 161 2))) + 6) < 0 ∨ 48 ≤ ((12 * (x24 - x24 / (σ.1 161 2) * (σ.1 161 2))) + 6).toNatClampNeg then none else (if (r_4.2.1 172 (((12 * (x24 - x24 / (σ.1 161 2) * (σ.1 161 2))) + 6).toNatClampNeg)) = 1 then (fL_law_1606 N xs Lx rec221 r_4.2 x21 x24 (x24 - x24 / (σ.1 161 2) * (σ.1 161 2)) 1 r_4.1) else (fL_law_1606 N xs Lx rec221 r_4.2 x21 x24 (x24 - x24 / (σ.1 161 2) * (σ.1 161 2)) 0 r_4.1))))) else (fL_law_1642 N xs Lx rec221 σ x21 x23 x24 x25 x27)
set_option maxRecDepth 100000 in
set_option maxHeartbeats 1000000 in
theorem wL_law_1559 {rec221 : (gS × Int32 × Int32) → Option Int32} {σ : gS} {x21 : Int32} {x23 : Int32} {x24 : Int32} {x25 : Int64} {x27 : Int32} {ad : Nat → Nat} {kc ns : Nat} (hx : p.tables.exec = Jvm.exec) (hb : c.code = cL_law) (hr : meth.sig.returnType = (some .boolean)) (hml : c.maxLocals = 37) (hown : s.vm.findClass RL = some m.cls) (hg : ∀ w ∈ wsL_law, w.before args s = true) (hlocks : meth.locks = false) (hK : gK D y aS s) (hA : ∀ q, s.heap.size ≤ q → A q) (hL : ∀ k, k < 179 → k ∈ L) (hfl : l.stackTraces = false) (hZ : gZ A s s.heap) (hX : va_X b Lx xs s s.heap) (hbl : b < s.heap.size) (hA2 : ∀ q, A q → s.heap.size ≤ q) (hres : res = 1) (hL2 : ∀ k ∈ L, k < 179) (hrec221 : ∀ {ad : Nat → Nat} {kc ns : Nat} {σ9 : gS} {x20n9 : Int32} {x21n9 : Int32} (hkc : kc ≤ 183 + 643 * x21n9.toInt.toNat + 0) (hns : ns ≤ 3391 + 81814 * x21n9.toInt.toNat + 0) (hi0 : 0 ≤ x21n9.toInt) (hi8 : x21n9.toInt ≤ 80) (H : Heap) (locs : List Loc) (ls : Array Slot), gY D y A s L ad σ9 H locs → lv_has ls 37 [(0, .ref b), (1, .ref (ad 0)), (2, .ref (ad 161)), (3, .ref (ad 162)), (4, .ref (ad 163)), (5, .ref (ad 164)), (6, .ref (ad 165)), (7, .ref (ad 166)), (8, .ref (ad 167)), (9, .ref (ad 168)), (10, .ref (ad 169)), (11, .ref (ad 170)), (12, .ref (ad 171)), (13, .ref (ad 172)), (14, .ref (ad 173)), (15, .ref (ad 174)), (16, .ref (ad 175)), (17, .ref (ad 176)), (18, .ref (ad 177)), (19, .ref (ad 178)), (20, .int x20n9), (21, .int x21n9)] → rec221 (σ9, x20n9, x21n9) = some res → W p l e room_1 s m args below meth c H locs kc ns (lw_Z below args s) (F0 m 221 ls [])) (hkc : kc ≤ 183 + 643 * x21.toInt.toNat + 0) (hns : ns ≤ 3391 + 81814 * x21.toInt.toNat + 0) (hi0 : 0 ≤ x21.toInt) (hi8 : x21.toInt < 80) {H : Heap} {locs : List Loc} {ls : Array Slot} (hY : gY D y A s L ad σ H locs) (hl : lv_has ls 37 [(0, .ref b), (1, .ref (ad 0)), (2, .ref (ad 161)), (3, .ref (ad 162)), (4, .ref (ad 163)), (5, .ref (ad 164)), (6, .ref (ad 165)), (7, .ref (ad 166)), (8, .ref (ad 167)), (9, .ref (ad 168)), (10, .ref (ad 169)), (11, .ref (ad 170)), (12, .ref (ad 171)), (13, .ref (ad 172)), (14, .ref (ad 173)), (15, .ref (ad 174)), (16, .ref (ad 175)), (17, .ref (ad 176)), (18, .ref (ad 177)), (19, .ref (ad 178)), (21, .int x21), (23, .int x23), (24, .int x24), (25, .long x25), (27, .int x27)]) (h : fL_law_1559 N xs Lx rec221 σ x21 x23 x24 x25 x27 = some res) : W p l e room_1 s m args below meth c H locs kc ns (lw_Z below args s) (F0 m 1559 ls []) := by
  unfold fL_law_1559 at h
  refine lv_iload hx hb dL_law_1559 (lv_at hl 21 rfl) ?_
  refine lv_bipush (v := 15) hx hb dL_law_1561 (by decide +kernel) ?_
  refine lv_icmp_ne (tgt := 1642) hx hb dL_law_1563 (by decide) (fun z_1 => ?_) (fun z_1 => ?_)
  ·
    rw [if_neg z_1] at h
    exact wL_law_1642 hx hb hr hml hown hg hlocks hK hA hL hfl hZ hX hbl hA2 hres hL2 hrec221 (by first | omega | (simp only [g_l0]; omega)) (by first | omega | (simp only [g_l0]; omega)) (by first | omega | (simp only [g_l0]; omega)) (by first | omega | (simp only [g_l0]; omega)) hY (lv_sub hl [0, 1, 2, 3, 4, 5, 6, 7, 8, 9, 10, 11, 12, 13, 14, 15, 16, 17, 18, 19, 20, 21, 22, 23, 24] rfl) h
  ·
    rw [if_pos z_1] at h
    refine lv_aload_n hx hb dL_law_1566 rfl (lv_at hl 2 rfl) ?_
    refine lv_iconst (v := 2) hx hb dL_law_1567 (by decide) ?_
    refine G_iald (j := 2) hx hb hK hY (hL 161 (by decide)) gk_161 (by rw [gl_161]; decide +kernel) (by decide +kernel) dL_law_1568 ?_
    refine lv_if_le (tgt := 1642) hx hb dL_law_1569 (by decide) (fun z_2 => ?_) (fun z_2 => ?_)
    ·
      rw [if_pos z_2] at h
      have qz_2 := g_let z_2; (try simp only [g_l0, g_l3, g_l6, g_l80] at qz_2)
      exact wL_law_1642 hx hb hr hml hown hg hlocks hK hA hL hfl hZ hX hbl hA2 hres hL2 hrec221 (by first | omega | (simp only [g_l0]; omega)) (by first | omega | (simp only [g_l0]; omega)) (by first | omega | (simp only [g_l0]; omega)) (by first | omega | (simp only [g_l0]; omega)) hY (lv_sub hl [0, 1, 2, 3, 4, 5, 6, 7, 8, 9, 10, 11, 12, 13, 14, 15, 16, 17, 18, 19, 20, 21, 22, 23, 24] rfl) h
    ·
      rw [if_neg z_2] at h
      have qz_2 := g_lef z_2; (try simp only [g_l0, g_l3, g_l6, g_l80] at qz_2)
      refine lv_iload hx hb dL_law_1572 (lv_at hl 22 rfl) ?_
      refine lv_aload_n hx hb dL_law_1574 rfl (lv_at hl 2 rfl) ?_
      refine lv_iconst (v := 2) hx hb dL_law_1575 (by decide) ?_
      refine G_iald (j := 2) hx hb hK hY (hL 161 (by decide)) gk_161 (by rw [gl_161]; decide +kernel) (by decide +kernel) dL_law_1576 ?_
      obtain ⟨z_3, h⟩ := g_guard h
      refine lv_irem hx hb dL_law_1577 z_3 ?_
      refine lv_istore (lv' := [(28, .int (x24 - x24 / (σ.1 161 2) * (σ.1 161 2))), (0, .ref b), (1, .ref (ad 0)), (2, .ref (ad 161)), (3, .ref (ad 162)), (4, .ref (ad 163)), (5, .ref (ad 164)), (6, .ref (ad 165)), (7, .ref (ad 166)), (8, .ref (ad 167)), (9, .ref (ad 168)), (10, .ref (ad 169)), (11, .ref (ad 170)), (12, .ref (ad 171)), (13, .ref (ad 172)), (14, .ref (ad 173)), (15, .ref (ad 174)), (16, .ref (ad 175)), (17, .ref (ad 176)), (18, .ref (ad 177)), (19, .ref (ad 178)), (21, .int x21), (23, .int x23), (24, .int x24), (25, .long x25), (27, .int x27)]) hx hb dL_law_1578 hl (by decide) rfl ?_
      clear hl
      intro ls hl
      refine lv_aload_n hx hb dL_law_1580 rfl (lv_at hl 2 rfl) ?_
      refine lv_iload hx hb dL_law_1581 (lv_at hl 0 rfl) ?_
      obtain ⟨r_4, e_5, h⟩ := g_bind h
      refine G_ai hY hA (va_runV (As := [.int (x24 - x24 / (σ.1 161 2) * (σ.1 161 2))]) (rest := []) ⟨hx, hb, hml, hown, hg⟩ (kX11_letBack l D y aS H.size L hL ad N σ (x24 - x24 / (σ.1 161 2) * (σ.1 161 2)) _ e_5) (cwV 1 hg ggV_RL_228_X11_letBack rfl rfl rfl (by decide +kernel) ⟨Nat.le_of_ble_eq_true rfl, Nat.le_of_ble_eq_true rfl⟩) (G_pV (q := (RX11, TX11, 19)) hK hY (hL 0 (by decide)) gk_0 (by decide) rfl) rfl rfl hl.1 rfl (lv_room (Nat.le_of_ble_eq_true rfl)) dL_law_1583 ⟨(by first | omega | (show _ ≤ (600086 : Nat); omega) | (show _ ≤ (7301442 : Nat); omega)), (by first | omega | (show _ ≤ (600086 : Nat); omega) | (show _ ≤ (7301442 : Nat); omega))⟩) ?_
      clear hY
      rintro _ H locs rfl hY
      refine lv_aload hx hb dL_law_1586 (lv_at hl 14 rfl) ?_
      refine lv_bipush (v := 12) hx hb dL_law_1588 (by decide +kernel) ?_
      refine lv_iload hx hb dL_law_1590 (lv_at hl 0 rfl) ?_
      refine lv_imul hx hb dL_law_1592 ?_
      refine lv_bipush (v := 6) hx hb dL_law_1593 (by decide +kernel) ?_
      refine lv_iadd hx hb dL_law_1595 ?_
      obtain ⟨z_6, h⟩ := g_guard h
      refine G_iald (j := ((12 * (x24 - x24 / (σ.1 161 2) * (σ.1 161 2))) + 6).toNatClampNeg) hx hb hK hY (hL 172 (by decide)) gk_172 (by rw [gl_172]; exact z_6) rfl dL_law_1596 ?_
      refine lv_iconst (v := 1) hx hb dL_law_1597 (by decide) ?_
      refine lv_icmp_ne (tgt := 1605) hx hb dL_law_1598 (by decide) (fun z_7 => ?_) (fun z_7 => ?_)
      ·
        rw [if_neg z_7] at h
        refine lv_iconst (v := 0) hx hb dL_law_1605 (by decide) ?_
        exact wL_law_1606 hx hb hr hml hown hg hlocks hK hA hL hfl hZ hX hbl hA2 hres hL2 hrec221 (by first | omega | (simp only [g_l0]; omega)) (by first | omega | (simp only [g_l0]; omega)) (by first | omega | (simp only [g_l0]; omega)) (by first | omega | (simp only [g_l0]; omega)) hY (lv_sub hl [1, 2, 3, 4, 5, 6, 7, 8, 9, 10, 11, 12, 13, 14, 15, 16, 17, 18, 19, 20, 21, 23, 0] rfl) h
      ·
        rw [if_pos z_7] at h
        refine lv_iconst (v := 1) hx hb dL_law_1601 (by decide) ?_
        refine lv_goto (tgt := 1606) hx hb dL_law_1602 (by decide) ?_
        exact wL_law_1606 hx hb hr hml hown hg hlocks hK hA hL hfl hZ hX hbl hA2 hres hL2 hrec221 (by first | omega | (simp only [g_l0]; omega)) (by first | omega | (simp only [g_l0]; omega)) (by first | omega | (simp only [g_l0]; omega)) (by first | omega | (simp only [g_l0]; omega)) hY (lv_sub hl [1, 2, 3, 4, 5, 6, 7, 8, 9, 10, 11, 12, 13, 14, 15, 16, 17, 18, 19, 20, 21, 23, 0] rfl) h
def fL_law_1554 (N : Nat) (xs : Nat → Int32) (Lx : Nat) (rec221 : (gS × Int32 × Int32) → Option Int32) (σ : gS) (x21 : Int32) (x24 : Int32) (xs0 : Int32) : Option Int32 := fL_law_2698 N xs Lx rec221 σ xs0 x21 x24
set_option maxRecDepth 100000 in
set_option maxHeartbeats 1000000 in
theorem wL_law_1554 {rec221 : (gS × Int32 × Int32) → Option Int32} {σ : gS} {x21 : Int32} {x24 : Int32} {xs0 : Int32} {ad : Nat → Nat} {kc ns : Nat} (hx : p.tables.exec = Jvm.exec) (hb : c.code = cL_law) (hr : meth.sig.returnType = (some .boolean)) (hml : c.maxLocals = 37) (hown : s.vm.findClass RL = some m.cls) (hg : ∀ w ∈ wsL_law, w.before args s = true) (hlocks : meth.locks = false) (hK : gK D y aS s) (hA : ∀ q, s.heap.size ≤ q → A q) (hL : ∀ k, k < 179 → k ∈ L) (hfl : l.stackTraces = false) (hZ : gZ A s s.heap) (hX : va_X b Lx xs s s.heap) (hbl : b < s.heap.size) (hA2 : ∀ q, A q → s.heap.size ≤ q) (hres : res = 1) (hL2 : ∀ k ∈ L, k < 179) (hrec221 : ∀ {ad : Nat → Nat} {kc ns : Nat} {σ9 : gS} {x20n9 : Int32} {x21n9 : Int32} (hkc : kc ≤ 183 + 643 * x21n9.toInt.toNat + 0) (hns : ns ≤ 3391 + 81814 * x21n9.toInt.toNat + 0) (hi0 : 0 ≤ x21n9.toInt) (hi8 : x21n9.toInt ≤ 80) (H : Heap) (locs : List Loc) (ls : Array Slot), gY D y A s L ad σ9 H locs → lv_has ls 37 [(0, .ref b), (1, .ref (ad 0)), (2, .ref (ad 161)), (3, .ref (ad 162)), (4, .ref (ad 163)), (5, .ref (ad 164)), (6, .ref (ad 165)), (7, .ref (ad 166)), (8, .ref (ad 167)), (9, .ref (ad 168)), (10, .ref (ad 169)), (11, .ref (ad 170)), (12, .ref (ad 171)), (13, .ref (ad 172)), (14, .ref (ad 173)), (15, .ref (ad 174)), (16, .ref (ad 175)), (17, .ref (ad 176)), (18, .ref (ad 177)), (19, .ref (ad 178)), (20, .int x20n9), (21, .int x21n9)] → rec221 (σ9, x20n9, x21n9) = some res → W p l e room_1 s m args below meth c H locs kc ns (lw_Z below args s) (F0 m 221 ls [])) (hkc : kc ≤ 183 + 643 * x21.toInt.toNat + 0) (hns : ns ≤ 3391 + 81814 * x21.toInt.toNat + 0) (hi0 : 0 ≤ x21.toInt) (hi8 : x21.toInt < 80) {H : Heap} {locs : List Loc} {ls : Array Slot} (hY : gY D y A s L ad σ H locs) (hl : lv_has ls 37 [(0, .ref b), (1, .ref (ad 0)), (2, .ref (ad 161)), (3, .ref (ad 162)), (4, .ref (ad 163)), (5, .ref (ad 164)), (6, .ref (ad 165)), (7, .ref (ad 166)), (8, .ref (ad 167)), (9, .ref (ad 168)), (10, .ref (ad 169)), (11, .ref (ad 170)), (12, .ref (ad 171)), (13, .ref (ad 172)), (14, .ref (ad 173)), (15, .ref (ad 174)), (16, .ref (ad 175)), (17, .ref (ad 176)), (18, .ref (ad 177)), (19, .ref (ad 178)), (21, .int x21), (24, .int x24)]) (h : fL_law_1554 N xs Lx rec221 σ x21 x24 xs0 = some res) : W p l e room_1 s m args below meth c H locs kc ns (lw_Z below args s) (F0 m 1554 ls [.int xs0]) := by
  unfold fL_law_1554 at h
  refine lv_istore (lv' := [(20, .int xs0), (0, .ref b), (1, .ref (ad 0)), (2, .ref (ad 161)), (3, .ref (ad 162)), (4, .ref (ad 163)), (5, .ref (ad 164)), (6, .ref (ad 165)), (7, .ref (ad 166)), (8, .ref (ad 167)), (9, .ref (ad 168)), (10, .ref (ad 169)), (11, .ref (ad 170)), (12, .ref (ad 171)), (13, .ref (ad 172)), (14, .ref (ad 173)), (15, .ref (ad 174)), (16, .ref (ad 175)), (17, .ref (ad 176)), (18, .ref (ad 177)), (19, .ref (ad 178)), (21, .int x21), (24, .int x24)]) hx hb dL_law_1554 hl (by decide) rfl ?_
  clear hl
  intro ls hl
  refine lv_goto (tgt := 2698) hx hb dL_law_1556 (by decide) ?_
  exact wL_law_2698 hx hb hr hml hown hg hlocks hK hA hL hfl hZ hX hbl hA2 hres hL2 hrec221 (by first | omega | (simp only [g_l0]; omega)) (by first | omega | (simp only [g_l0]; omega)) (by first | omega | (simp only [g_l0]; omega)) (by first | omega | (simp only [g_l0]; omega)) hY (lv_sub hl [1, 2, 3, 4, 5, 6, 7, 8, 9, 10, 11, 12, 13, 14, 15, 16, 17, 18, 19, 20, 0, 21, 22] rfl) h
def fL_law_1505 (N : Nat) (xs : Nat → Int32) (Lx : Nat) (rec221 : (gS × Int32 × Int32) → Option Int32) (σ : gS) (x21 : Int32) (x24 : Int32) (x28 : Int32) (x29 : Int32) (xs0 : Int32) : Option Int32 := if (σ.1 161 3) < 0 ∨ 12 ≤ (σ.1 161 3).toNatClampNeg then none else ((fX11_line N (sI (sI σ 173 ((σ.1 161 3).toNatClampNeg) ((x28 + (4 * x29)) + (16 * xs0))) 161 3 (((sI σ 173 ((σ.1 161 3).toNatClampNeg) ((x28 + (4 * x29)) + (16 * xs0))).1 161 3) + 1)) x28 x29 xs0).bind fun r_2 => if r_2.1 = (r_2.2.1 161 3) then (fL_law_1554 N xs Lx rec221 r_2.2 x21 x24 1) else (fL_law_1554 N xs Lx rec221 r_2.2 x21 x24 0))
set_option maxRecDepth 100000 in
set_option maxHeartbeats 1000000 in
theorem wL_law_1505 {rec221 : (gS × Int32 × Int32) → Option Int32} {σ : gS} {x21 : Int32} {x24 : Int32} {x28 : Int32} {x29 : Int32} {xs0 : Int32} {ad : Nat → Nat} {kc ns : Nat} (hx : p.tables.exec = Jvm.exec) (hb : c.code = cL_law) (hr : meth.sig.returnType = (some .boolean)) (hml : c.maxLocals = 37) (hown : s.vm.findClass RL = some m.cls) (hg : ∀ w ∈ wsL_law, w.before args s = true) (hlocks : meth.locks = false) (hK : gK D y aS s) (hA : ∀ q, s.heap.size ≤ q → A q) (hL : ∀ k, k < 179 → k ∈ L) (hfl : l.stackTraces = false) (hZ : gZ A s s.heap) (hX : va_X b Lx xs s s.heap) (hbl : b < s.heap.size) (hA2 : ∀ q, A q → s.heap.size ≤ q) (hres : res = 1) (hL2 : ∀ k ∈ L, k < 179) (hrec221 : ∀ {ad : Nat → Nat} {kc ns : Nat} {σ9 : gS} {x20n9 : Int32} {x21n9 : Int32} (hkc : kc ≤ 183 + 643 * x21n9.toInt.toNat + 0) (hns : ns ≤ 3391 + 81814 * x21n9.toInt.toNat + 0) (hi0 : 0 ≤ x21n9.toInt) (hi8 : x21n9.toInt ≤ 80) (H : Heap) (locs : List Loc) (ls : Array Slot), gY D y A s L ad σ9 H locs → lv_has ls 37 [(0, .ref b), (1, .ref (ad 0)), (2, .ref (ad 161)), (3, .ref (ad 162)), (4, .ref (ad 163)), (5, .ref (ad 164)), (6, .ref (ad 165)), (7, .ref (ad 166)), (8, .ref (ad 167)), (9, .ref (ad 168)), (10, .ref (ad 169)), (11, .ref (ad 170)), (12, .ref (ad 171)), (13, .ref (ad 172)), (14, .ref (ad 173)), (15, .ref (ad 174)), (16, .ref (ad 175)), (17, .ref (ad 176)), (18, .ref (ad 177)), (19, .ref (ad 178)), (20, .int x20n9), (21, .int x21n9)] → rec221 (σ9, x20n9, x21n9) = some res → W p l e room_1 s m args below meth c H locs kc ns (lw_Z below args s) (F0 m 221 ls [])) (hkc : kc ≤ 183 + 643 * x21.toInt.toNat + 0) (hns : ns ≤ 3391 + 81814 * x21.toInt.toNat + 0) (hi0 : 0 ≤ x21.toInt) (hi8 : x21.toInt < 80) {H : Heap} {locs : List Loc} {ls : Array Slot} (hY : gY D y A s L ad σ H locs) (hl : lv_has ls 37 [(0, .ref b), (1, .ref (ad 0)), (2, .ref (ad 161)), (3, .ref (ad 162)), (4, .ref (ad 163)), (5, .ref (ad 164)), (6, .ref (ad 165)), (7, .ref (ad 166)), (8, .ref (ad 167)), (9, .ref (ad 168)), (10, .ref (ad 169)), (11, .ref (ad 170)), (12, .ref (ad 171)), (13, .ref (ad 172)), (14, .ref (ad 173)), (15, .ref (ad 174)), (16, .ref (ad 175)), (17, .ref (ad 176)), (18, .ref (ad 177)), (19, .ref (ad 178)), (21, .int x21), (24, .int x24), (28, .int x28), (29, .int x29)]) (h : fL_law_1505 N xs Lx rec221 σ x21 x24 x28 x29 xs0 = some res) : W p l e room_1 s m args below meth c H locs kc ns (lw_Z below args s) (F0 m 1505 ls [.int xs0]) := by
  unfold fL_law_1505 at h
  refine lv_istore (lv' := [(30, .int xs0), (0, .ref b), (1, .ref (ad 0)), (2, .ref (ad 161)), (3, .ref (ad 162)), (4, .ref (ad 163)), (5, .ref (ad 164)), (6, .ref (ad 165)), (7, .ref (ad 166)), (8, .ref (ad 167)), (9, .ref (ad 168)), (10, .ref (ad 169)), (11, .ref (ad 170)), (12, .ref (ad 171)), (13, .ref (ad 172)), (14, .ref (ad 173)), (15, .ref (ad 174)), (16, .ref (ad 175)), (17, .ref (ad 176)), (18, .ref (ad 177)), (19, .ref (ad 178)), (21, .int x21), (24, .int x24), (28, .int x28), (29, .int x29)]) hx hb dL_law_1505 hl (by decide) rfl ?_
  clear hl
  intro ls hl
  refine lv_aload hx hb dL_law_1507 (lv_at hl 15 rfl) ?_
  refine lv_aload_n hx hb dL_law_1509 rfl (lv_at hl 3 rfl) ?_
  refine lv_iconst (v := 3) hx hb dL_law_1510 (by decide) ?_
  refine G_iald (j := 3) hx hb hK hY (hL 161 (by decide)) gk_161 (by rw [gl_161]; decide +kernel) (by decide +kernel) dL_law_1511 ?_
  refine lv_iload hx hb dL_law_1512 (lv_at hl 23 rfl) ?_
  refine lv_iconst (v := 4) hx hb dL_law_1514 (by decide) ?_
  refine lv_iload hx hb dL_law_1515 (lv_at hl 24 rfl) ?_
  refine lv_imul hx hb dL_law_1517 ?_
  refine lv_iadd hx hb dL_law_1518 ?_
  refine lv_bipush (v := 16) hx hb dL_law_1519 (by decide +kernel) ?_
  refine lv_iload hx hb dL_law_1521 (lv_at hl 0 rfl) ?_
  refine lv_imul hx hb dL_law_1523 ?_
  refine lv_iadd hx hb dL_law_1524 ?_
  obtain ⟨z_1, h⟩ := g_guard h
  refine G_iast (j := (σ.1 161 3).toNatClampNeg) hx hb hK hY (hL 173 (by decide)) gk_173 (by rw [gl_173]; exact z_1) rfl dL_law_1525 ?_
  clear hY
  intro H locs hY
  refine lv_aload_n hx hb dL_law_1526 rfl (lv_at hl 3 rfl) ?_
  refine lv_iconst (v := 3) hx hb dL_law_1527 (by decide) ?_
  refine lv_dup2_11 hx hb dL_law_1528 rfl rfl ?_
  refine G_iald (j := 3) hx hb hK hY (hL 161 (by decide)) gk_161 (by rw [gl_161]; decide +kernel) (by decide +kernel) dL_law_1529 ?_
  refine lv_iconst (v := 1) hx hb dL_law_1530 (by decide) ?_
  refine lv_iadd hx hb dL_law_1531 ?_
  refine G_iast (j := 3) hx hb hK hY (hL 161 (by decide)) gk_161 (by rw [gl_161]; decide +kernel) (by decide +kernel) dL_law_1532 ?_
  clear hY
  intro H locs hY
  refine lv_aload_n hx hb dL_law_1533 rfl (lv_at hl 2 rfl) ?_
  refine lv_iload hx hb dL_law_1534 (lv_at hl 23 rfl) ?_
  refine lv_iload hx hb dL_law_1536 (lv_at hl 24 rfl) ?_
  refine lv_iload hx hb dL_law_1538 (lv_at hl 0 rfl) ?_
  obtain ⟨r_2, e_3, h⟩ := g_bind h
  refine G_ai hY hA (va_runV (As := [.int x28, .int x29, .int xs0]) (rest := []) ⟨hx, hb, hml, hown, hg⟩ (kX11_line l D y aS H.size L hL ad N (sI (sI σ 173 ((σ.1 161 3).toNatClampNeg) ((x28 + (4 * x29)) + (16 * xs0))) 161 3 (((sI σ 173 ((σ.1 161 3).toNatClampNeg) ((x28 + (4 * x29)) + (16 * xs0))).1 161 3) + 1)) x28 x29 xs0 _ e_3) (cwV 3 hg ggV_RL_225_X11_line rfl rfl rfl (by decide +kernel) ⟨Nat.le_of_ble_eq_true rfl, Nat.le_of_ble_eq_true rfl⟩) (G_pV (q := (RX11, TX11, 19)) hK hY (hL 0 (by decide)) gk_0 (by decide) rfl) rfl rfl hl.1 rfl (lv_room (Nat.le_of_ble_eq_true rfl)) dL_law_1540 ⟨(by first | omega | (show _ ≤ (600086 : Nat); omega) | (show _ ≤ (7301442 : Nat); omega)), (by first | omega | (show _ ≤ (600086 : Nat); omega) | (show _ ≤ (7301442 : Nat); omega))⟩) ?_
  clear hY
  rintro _ H locs rfl hY
  refine lv_aload_n hx hb dL_law_1543 rfl (lv_at hl 3 rfl) ?_
  refine lv_iconst (v := 3) hx hb dL_law_1544 (by decide) ?_
  refine G_iald (j := 3) hx hb hK hY (hL 161 (by decide)) gk_161 (by rw [gl_161]; decide +kernel) (by decide +kernel) dL_law_1545 ?_
  refine lv_icmp_ne (tgt := 1553) hx hb dL_law_1546 (by decide) (fun z_4 => ?_) (fun z_4 => ?_)
  ·
    rw [if_neg z_4] at h
    refine lv_iconst (v := 0) hx hb dL_law_1553 (by decide) ?_
    exact wL_law_1554 hx hb hr hml hown hg hlocks hK hA hL hfl hZ hX hbl hA2 hres hL2 hrec221 (by first | omega | (simp only [g_l0]; omega)) (by first | omega | (simp only [g_l0]; omega)) (by first | omega | (simp only [g_l0]; omega)) (by first | omega | (simp only [g_l0]; omega)) hY (lv_sub hl [1, 2, 3, 4, 5, 6, 7, 8, 9, 10, 11, 12, 13, 14, 15, 16, 17, 18, 19, 20, 21, 22] rfl) h
  ·
    rw [if_pos z_4] at h
    refine lv_iconst (v := 1) hx hb dL_law_1549 (by decide) ?_
    refine lv_goto (tgt := 1554) hx hb dL_law_1550 (by decide) ?_
    exact wL_law_1554 hx hb hr hml hown hg hlocks hK hA hL hfl hZ hX hbl hA2 hres hL2 hrec221 (by first | omega | (simp only [g_l0]; omega)) (by first | omega | (simp only [g_l0]; omega)) (by first | omega | (simp only [g_l0]; omega)) (by first | omega | (simp only [g_l0]; omega)) hY (lv_sub hl [1, 2, 3, 4, 5, 6, 7, 8, 9, 10, 11, 12, 13, 14, 15, 16, 17, 18, 19, 20, 21, 22] rfl) h
def fL_law_1435 (N : Nat) (xs : Nat → Int32) (Lx : Nat) (rec221 : (gS × Int32 × Int32) → Option Int32) (σ : gS) (x21 : Int32) (x23 : Int32) (x24 : Int32) (x25 : Int64) (x27 : Int32) : Option Int32 := if x23 = 14 then (if (σ.1 161 2) ≤ 0 then (fL_law_1559 N xs Lx rec221 σ x21 x23 x24 x25 x27) else (if 12 ≤ (σ.1 161 3) then (fL_law_1559 N xs Lx rec221 σ x21 x23 x24 x25 x27) else (if (σ.1 161 2) = 0 then none else (if ((x24 / 4) - (x24 / 4) / 3 * 3) = 0 then (fL_law_1505 N xs Lx rec221 σ x21 x24 (x24 - x24 / (σ.1 161 2) * (σ.1 161 2)) ((x24 / 4) - (x24 / 4) / 3 * 3) 0) else (if ((x24 / 4) - (x24 / 4) / 3 * 3) = 1 then (fL_law_1505 N xs Lx rec221 σ x21 x24 (x24 - x24 / (σ.1 161 2) * (σ.1 161 2)) ((x24 / 4) - (x24 / 4) / 3 * 3) ((x24 / 12) - (x24 / 12) / 12 * 12)) else (fL_law_1505 N xs Lx rec221 σ x21 x24 (x24 - x24 / (σ.1 161 2) * (σ.1 161 2)) ((x24 / 4) - (x24 / 4) / 3 * 3) ((x24 / 12) - (x24 / 12) / 3 * 3))))))) else (fL_law_1559 N xs Lx rec221 σ x21 x23 x24 x25 x27)
set_option maxRecDepth 100000 in
set_option maxHeartbeats 1000000 in
theorem wL_law_1435 {rec221 : (gS × Int32 × Int32) → Option Int32} {σ : gS} {x21 : Int32} {x23 : Int32} {x24 : Int32} {x25 : Int64} {x27 : Int32} {ad : Nat → Nat} {kc ns : Nat} (hx : p.tables.exec = Jvm.exec) (hb : c.code = cL_law) (hr : meth.sig.returnType = (some .boolean)) (hml : c.maxLocals = 37) (hown : s.vm.findClass RL = some m.cls) (hg : ∀ w ∈ wsL_law, w.before args s = true) (hlocks : meth.locks = false) (hK : gK D y aS s) (hA : ∀ q, s.heap.size ≤ q → A q) (hL : ∀ k, k < 179 → k ∈ L) (hfl : l.stackTraces = false) (hZ : gZ A s s.heap) (hX : va_X b Lx xs s s.heap) (hbl : b < s.heap.size) (hA2 : ∀ q, A q → s.heap.size ≤ q) (hres : res = 1) (hL2 : ∀ k ∈ L, k < 179) (hrec221 : ∀ {ad : Nat → Nat} {kc ns : Nat} {σ9 : gS} {x20n9 : Int32} {x21n9 : Int32} (hkc : kc ≤ 183 + 643 * x21n9.toInt.toNat + 0) (hns : ns ≤ 3391 + 81814 * x21n9.toInt.toNat + 0) (hi0 : 0 ≤ x21n9.toInt) (hi8 : x21n9.toInt ≤ 80) (H : Heap) (locs : List Loc) (ls : Array Slot), gY D y A s L ad σ9 H locs → lv_has ls 37 [(0, .ref b), (1, .ref (ad 0)), (2, .ref (ad 161)), (3, .ref (ad 162)), (4, .ref (ad 163)), (5, .ref (ad 164)), (6, .ref (ad 165)), (7, .ref (ad 166)), (8, .ref (ad 167)), (9, .ref (ad 168)), (10, .ref (ad 169)), (11, .ref (ad 170)), (12, .ref (ad 171)), (13, .ref (ad 172)), (14, .ref (ad 173)), (15, .ref (ad 174)), (16, .ref (ad 175)), (17, .ref (ad 176)), (18, .ref (ad 177)), (19, .ref (ad 178)), (20, .int x20n9), (21, .int x21n9)] → rec221 (σ9, x20n9, x21n9) = some res → W p l e room_1 s m args below meth c H locs kc ns (lw_Z below args s) (F0 m 221 ls [])) (hkc : kc ≤ 183 + 643 * x21.toInt.toNat + 0) (hns : ns ≤ 3391 + 81814 * x21.toInt.toNat + 0) (hi0 : 0 ≤ x21.toInt) (hi8 : x21.toInt < 80) {H : Heap} {locs : List Loc} {ls : Array Slot} (hY : gY D y A s L ad σ H locs) (hl : lv_has ls 37 [(0, .ref b), (1, .ref (ad 0)), (2, .ref (ad 161)), (3, .ref (ad 162)), (4, .ref (ad 163)), (5, .ref (ad 164)), (6, .ref (ad 165)), (7, .ref (ad 166)), (8, .ref (ad 167)), (9, .ref (ad 168)), (10, .ref (ad 169)), (11, .ref (ad 170)), (12, .ref (ad 171)), (13, .ref (ad 172)), (14, .ref (ad 173)), (15, .ref (ad 174)), (16, .ref (ad 175)), (17, .ref (ad 176)), (18, .ref (ad 177)), (19, .ref (ad 178)), (21, .int x21), (23, .int x23), (24, .int x24), (25, .long x25), (27, .int x27)]) (h : fL_law_1435 N xs Lx rec221 σ x21 x23 x24 x25 x27 = some res) : W p l e room_1 s m args below meth c H locs kc ns (lw_Z below args s) (F0 m 1435 ls []) := by
  unfold fL_law_1435 at h
  refine lv_iload hx hb dL_law_1435 (lv_at hl 21 rfl) ?_
  refine lv_bipush (v := 14) hx hb dL_law_1437 (by decide +kernel) ?_
  refine lv_icmp_ne (tgt := 1559) hx hb dL_law_1439 (by decide) (fun z_1 => ?_) (fun z_1 => ?_)
  ·
    rw [if_neg z_1] at h
    exact wL_law_1559 hx hb hr hml hown hg hlocks hK hA hL hfl hZ hX hbl hA2 hres hL2 hrec221 (by first | omega | (simp only [g_l0]; omega)) (by first | omega | (simp only [g_l0]; omega)) (by first | omega | (simp only [g_l0]; omega)) (by first | omega | (simp only [g_l0]; omega)) hY (lv_sub hl [0, 1, 2, 3, 4, 5, 6, 7, 8, 9, 10, 11, 12, 13, 14, 15, 16, 17, 18, 19, 20, 21, 22, 23, 24] rfl) h
  ·
    rw [if_pos z_1] at h
    refine lv_aload_n hx hb dL_law_1442 rfl (lv_at hl 2 rfl) ?_
    refine lv_iconst (v := 2) hx hb dL_law_1443 (by decide) ?_
    refine G_iald (j := 2) hx hb hK hY (hL 161 (by decide)) gk_161 (by rw [gl_161]; decide +kernel) (by decide +kernel) dL_law_1444 ?_
    refine lv_if_le (tgt := 1559) hx hb dL_law_1445 (by decide) (fun z_2 => ?_) (fun z_2 => ?_)
    ·
      rw [if_pos z_2] at h
      have qz_2 := g_let z_2; (try simp only [g_l0, g_l3, g_l6, g_l80] at qz_2)
      exact wL_law_1559 hx hb hr hml hown hg hlocks hK hA hL hfl hZ hX hbl hA2 hres hL2 hrec221 (by first | omega | (simp only [g_l0]; omega)) (by first | omega | (simp only [g_l0]; omega)) (by first | omega | (simp only [g_l0]; omega)) (by first | omega | (simp only [g_l0]; omega)) hY (lv_sub hl [0, 1, 2, 3, 4, 5, 6, 7, 8, 9, 10, 11, 12, 13, 14, 15, 16, 17, 18, 19, 20, 21, 22, 23, 24] rfl) h
    ·
      rw [if_neg z_2] at h
      have qz_2 := g_lef z_2; (try simp only [g_l0, g_l3, g_l6, g_l80] at qz_2)
      refine lv_aload_n hx hb dL_law_1448 rfl (lv_at hl 2 rfl) ?_
      refine lv_iconst (v := 3) hx hb dL_law_1449 (by decide) ?_
      refine G_iald (j := 3) hx hb hK hY (hL 161 (by decide)) gk_161 (by rw [gl_161]; decide +kernel) (by decide +kernel) dL_law_1450 ?_
      refine lv_bipush (v := 12) hx hb dL_law_1451 (by decide +kernel) ?_
      refine lv_icmp_ge (tgt := 1559) hx hb dL_law_1453 (by decide) (fun z_3 => ?_) (fun z_3 => ?_)
      ·
        rw [if_pos z_3] at h
        have qz_3 := g_get z_3; (try simp only [g_l0, g_l3, g_l6, g_l80] at qz_3)
        exact wL_law_1559 hx hb hr hml hown hg hlocks hK hA hL hfl hZ hX hbl hA2 hres hL2 hrec221 (by first | omega | (simp only [g_l0]; omega)) (by first | omega | (simp only [g_l0]; omega)) (by first | omega | (simp only [g_l0]; omega)) (by first | omega | (simp only [g_l0]; omega)) hY (lv_sub hl [0, 1, 2, 3, 4, 5, 6, 7, 8, 9, 10, 11, 12, 13, 14, 15, 16, 17, 18, 19, 20, 21, 22, 23, 24] rfl) h
      ·
        rw [if_neg z_3] at h
        have qz_3 := g_gef z_3; (try simp only [g_l0, g_l3, g_l6, g_l80] at qz_3)
        refine lv_iload hx hb dL_law_1456 (lv_at hl 22 rfl) ?_
        refine lv_aload_n hx hb dL_law_1458 rfl (lv_at hl 2 rfl) ?_
        refine lv_iconst (v := 2) hx hb dL_law_1459 (by decide) ?_
        refine G_iald (j := 2) hx hb hK hY (hL 161 (by decide)) gk_161 (by rw [gl_161]; decide +kernel) (by decide +kernel) dL_law_1460 ?_
        obtain ⟨z_4, h⟩ := g_guard h
        refine lv_irem hx hb dL_law_1461 z_4 ?_
        refine lv_istore (lv' := [(28, .int (x24 - x24 / (σ.1 161 2) * (σ.1 161 2))), (0, .ref b), (1, .ref (ad 0)), (2, .ref (ad 161)), (3, .ref (ad 162)), (4, .ref (ad 163)), (5, .ref (ad 164)), (6, .ref (ad 165)), (7, .ref (ad 166)), (8, .ref (ad 167)), (9, .ref (ad 168)), (10, .ref (ad 169)), (11, .ref (ad 170)), (12, .ref (ad 171)), (13, .ref (ad 172)), (14, .ref (ad 173)), (15, .ref (ad 174)), (16, .ref (ad 175)), (17, .ref (ad 176)), (18, .ref (ad 177)), (19, .ref (ad 178)), (21, .int x21), (23, .int x23), (24, .int x24), (25, .long x25), (27, .int x27)]) hx hb dL_law_1462 hl (by decide) rfl ?_
        clear hl
        intro ls hl
        refine lv_iload hx hb dL_law_1464 (lv_at hl 23 rfl) ?_
        refine lv_iconst (v := 4) hx hb dL_law_1466 (by decide) ?_
        refine lv_idiv hx hb dL_law_1467 (by decide +kernel) ?_
        refine lv_iconst (v := 3) hx hb dL_law_1468 (by decide) ?_
        refine lv_irem hx hb dL_law_1469 (by decide +kernel) ?_
        refine lv_istore (lv' := [(29, .int ((x24 / 4) - (x24 / 4) / 3 * 3)), (28, .int (x24 - x24 / (σ.1 161 2) * (σ.1 161 2))), (0, .ref b), (1, .ref (ad 0)), (2, .ref (ad 161)), (3, .ref (ad 162)), (4, .ref (ad 163)), (5, .ref (ad 164)), (6, .ref (ad 165)), (7, .ref (ad 166)), (8, .ref (ad 167)), (9, .ref (ad 168)), (10, .ref (ad 169)), (11, .ref (ad 170)), (12, .ref (ad 171)), (13, .ref (ad 172)), (14, .ref (ad 173)), (15, .ref (ad 174)), (16, .ref (ad 175)), (17, .ref (ad 176)), (18, .ref (ad 177)), (19, .ref (ad 178)), (21, .int x21), (23, .int x23), (24, .int x24), (25, .long x25), (27, .int x27)]) hx hb dL_law_1470 hl (by decide) rfl ?_
        clear hl
        intro ls hl
        refine lv_iload hx hb dL_law_1472 (lv_at hl 0 rfl) ?_
        refine lv_if_ne (tgt := 1481) hx hb dL_law_1474 (by decide) (fun z_5 => ?_) (fun z_5 => ?_)
        ·
          rw [if_neg z_5] at h
          refine lv_iload hx hb dL_law_1481 (lv_at hl 0 rfl) ?_
          refine lv_iconst (v := 1) hx hb dL_law_1483 (by decide) ?_
          refine lv_icmp_ne (tgt := 1498) hx hb dL_law_1484 (by decide) (fun z_6 => ?_) (fun z_6 => ?_)
          ·
            rw [if_neg z_6] at h
            refine lv_iload hx hb dL_law_1498 (lv_at hl 24 rfl) ?_
            refine lv_bipush (v := 12) hx hb dL_law_1500 (by decide +kernel) ?_
            refine lv_idiv hx hb dL_law_1502 (by decide +kernel) ?_
            refine lv_iconst (v := 3) hx hb dL_law_1503 (by decide) ?_
            refine lv_irem hx hb dL_law_1504 (by decide +kernel) ?_
            exact wL_law_1505 hx hb hr hml hown hg hlocks hK hA hL hfl hZ hX hbl hA2 hres hL2 hrec221 (by first | omega | (simp only [g_l0]; omega)) (by first | omega | (simp only [g_l0]; omega)) (by first | omega | (simp only [g_l0]; omega)) (by first | omega | (simp only [g_l0]; omega)) hY (lv_sub hl [2, 3, 4, 5, 6, 7, 8, 9, 10, 11, 12, 13, 14, 15, 16, 17, 18, 19, 20, 21, 22, 24, 1, 0] rfl) h
          ·
            rw [if_pos z_6] at h
            refine lv_iload hx hb dL_law_1487 (lv_at hl 24 rfl) ?_
            refine lv_bipush (v := 12) hx hb dL_law_1489 (by decide +kernel) ?_
            refine lv_idiv hx hb dL_law_1491 (by decide +kernel) ?_
            refine lv_bipush (v := 12) hx hb dL_law_1492 (by decide +kernel) ?_
            refine lv_irem hx hb dL_law_1494 (by decide +kernel) ?_
            refine lv_goto (tgt := 1505) hx hb dL_law_1495 (by decide) ?_
            exact wL_law_1505 hx hb hr hml hown hg hlocks hK hA hL hfl hZ hX hbl hA2 hres hL2 hrec221 (by first | omega | (simp only [g_l0]; omega)) (by first | omega | (simp only [g_l0]; omega)) (by first | omega | (simp only [g_l0]; omega)) (by first | omega | (simp only [g_l0]; omega)) hY (lv_sub hl [2, 3, 4, 5, 6, 7, 8, 9, 10, 11, 12, 13, 14, 15, 16, 17, 18, 19, 20, 21, 22, 24, 1, 0] rfl) h
        ·
          rw [if_pos z_5] at h
          refine lv_iconst (v := 0) hx hb dL_law_1477 (by decide) ?_
          refine lv_goto (tgt := 1505) hx hb dL_law_1478 (by decide) ?_
          exact wL_law_1505 hx hb hr hml hown hg hlocks hK hA hL hfl hZ hX hbl hA2 hres hL2 hrec221 (by first | omega | (simp only [g_l0]; omega)) (by first | omega | (simp only [g_l0]; omega)) (by first | omega | (simp only [g_l0]; omega)) (by first | omega | (simp only [g_l0]; omega)) hY (lv_sub hl [2, 3, 4, 5, 6, 7, 8, 9, 10, 11, 12, 13, 14, 15, 16, 17, 18, 19, 20, 21, 22, 24, 1, 0] rfl) h
def fL_law_1431 (N : Nat) (xs : Nat → Int32) (Lx : Nat) (rec221 : (gS × Int32 × Int32) → Option Int32) (σ : gS) (x20 : Int32) (x21 : Int32) (x24 : Int32) (xs0 : Int32) (xs1 : Int32) : Option Int32 := if xs1 < 0 ∨ 48 ≤ xs1.toNatClampNeg then none else (fL_law_2698 N xs Lx rec221 (sI σ 172 xs1.toNatClampNeg xs0) x20 x21 x24)
set_option maxRecDepth 100000 in
set_option maxHeartbeats 1000000 in
theorem wL_law_1431 {rec221 : (gS × Int32 × Int32) → Option Int32} {σ : gS} {x20 : Int32} {x21 : Int32} {x24 : Int32} {xs0 : Int32} {xs1 : Int32} {ad : Nat → Nat} {kc ns : Nat} (hx : p.tables.exec = Jvm.exec) (hb : c.code = cL_law) (hr : meth.sig.returnType = (some .boolean)) (hml : c.maxLocals = 37) (hown : s.vm.findClass RL = some m.cls) (hg : ∀ w ∈ wsL_law, w.before args s = true) (hlocks : meth.locks = false) (hK : gK D y aS s) (hA : ∀ q, s.heap.size ≤ q → A q) (hL : ∀ k, k < 179 → k ∈ L) (hfl : l.stackTraces = false) (hZ : gZ A s s.heap) (hX : va_X b Lx xs s s.heap) (hbl : b < s.heap.size) (hA2 : ∀ q, A q → s.heap.size ≤ q) (hres : res = 1) (hL2 : ∀ k ∈ L, k < 179) (hrec221 : ∀ {ad : Nat → Nat} {kc ns : Nat} {σ9 : gS} {x20n9 : Int32} {x21n9 : Int32} (hkc : kc ≤ 183 + 643 * x21n9.toInt.toNat + 0) (hns : ns ≤ 3391 + 81814 * x21n9.toInt.toNat + 0) (hi0 : 0 ≤ x21n9.toInt) (hi8 : x21n9.toInt ≤ 80) (H : Heap) (locs : List Loc) (ls : Array Slot), gY D y A s L ad σ9 H locs → lv_has ls 37 [(0, .ref b), (1, .ref (ad 0)), (2, .ref (ad 161)), (3, .ref (ad 162)), (4, .ref (ad 163)), (5, .ref (ad 164)), (6, .ref (ad 165)), (7, .ref (ad 166)), (8, .ref (ad 167)), (9, .ref (ad 168)), (10, .ref (ad 169)), (11, .ref (ad 170)), (12, .ref (ad 171)), (13, .ref (ad 172)), (14, .ref (ad 173)), (15, .ref (ad 174)), (16, .ref (ad 175)), (17, .ref (ad 176)), (18, .ref (ad 177)), (19, .ref (ad 178)), (20, .int x20n9), (21, .int x21n9)] → rec221 (σ9, x20n9, x21n9) = some res → W p l e room_1 s m args below meth c H locs kc ns (lw_Z below args s) (F0 m 221 ls [])) (hkc : kc ≤ 183 + 643 * x21.toInt.toNat + 0) (hns : ns ≤ 3391 + 81814 * x21.toInt.toNat + 0) (hi0 : 0 ≤ x21.toInt) (hi8 : x21.toInt < 80) {H : Heap} {locs : List Loc} {ls : Array Slot} (hY : gY D y A s L ad σ H locs) (hl : lv_has ls 37 [(0, .ref b), (1, .ref (ad 0)), (2, .ref (ad 161)), (3, .ref (ad 162)), (4, .ref (ad 163)), (5, .ref (ad 164)), (6, .ref (ad 165)), (7, .ref (ad 166)), (8, .ref (ad 167)), (9, .ref (ad 168)), (10, .ref (ad 169)), (11, .ref (ad 170)), (12, .ref (ad 171)), (13, .ref (ad 172)), (14, .ref (ad 173)), (15, .ref (ad 174)), (16, .ref (ad 175)), (17, .ref (ad 176)), (18, .ref (ad 177)), (19, .ref (ad 178)), (20, .int x20), (21, .int x21), (24, .int x24)]) (h : fL_law_1431 N xs Lx rec221 σ x20 x21 x24 xs0 xs1 = some res) : W p l e room_1 s m args below meth c H locs kc ns (lw_Z below args s) (F0 m 1431 ls [.int xs0, .int xs1, .ref (ad 172)]) := by
  unfold fL_law_1431 at h
  obtain ⟨z_1, h⟩ := g_guard h
  refine G_iast (j := xs1.toNatClampNeg) hx hb hK hY (hL 172 (by decide)) gk_172 (by rw [gl_172]; exact z_1) rfl dL_law_1431 ?_
  clear hY
  intro H locs hY
  refine lv_goto (tgt := 2698) hx hb dL_law_1432 (by decide) ?_
  exact wL_law_2698 hx hb hr hml hown hg hlocks hK hA hL hfl hZ hX hbl hA2 hres hL2 hrec221 (by first | omega | (simp only [g_l0]; omega)) (by first | omega | (simp only [g_l0]; omega)) (by first | omega | (simp only [g_l0]; omega)) (by first | omega | (simp only [g_l0]; omega)) hY (lv_sub hl [0, 1, 2, 3, 4, 5, 6, 7, 8, 9, 10, 11, 12, 13, 14, 15, 16, 17, 18, 19, 20, 21, 22] rfl) h
def fL_law_1412 (N : Nat) (xs : Nat → Int32) (Lx : Nat) (rec221 : (gS × Int32 × Int32) → Option Int32) (σ : gS) (x20 : Int32) (x21 : Int32) (x24 : Int32) (x28 : Int32) (x29 : Int32) : Option Int32 := if x29 = 0 then (fL_law_1431 N xs Lx rec221 σ x20 x21 x24 0 ((12 * x28) + 3)) else (fL_law_1431 N xs Lx rec221 σ x20 x21 x24 1 ((12 * x28) + 3))
set_option maxRecDepth 100000 in
set_option maxHeartbeats 1000000 in
theorem wL_law_1412 {rec221 : (gS × Int32 × Int32) → Option Int32} {σ : gS} {x20 : Int32} {x21 : Int32} {x24 : Int32} {x28 : Int32} {x29 : Int32} {ad : Nat → Nat} {kc ns : Nat} (hx : p.tables.exec = Jvm.exec) (hb : c.code = cL_law) (hr : meth.sig.returnType = (some .boolean)) (hml : c.maxLocals = 37) (hown : s.vm.findClass RL = some m.cls) (hg : ∀ w ∈ wsL_law, w.before args s = true) (hlocks : meth.locks = false) (hK : gK D y aS s) (hA : ∀ q, s.heap.size ≤ q → A q) (hL : ∀ k, k < 179 → k ∈ L) (hfl : l.stackTraces = false) (hZ : gZ A s s.heap) (hX : va_X b Lx xs s s.heap) (hbl : b < s.heap.size) (hA2 : ∀ q, A q → s.heap.size ≤ q) (hres : res = 1) (hL2 : ∀ k ∈ L, k < 179) (hrec221 : ∀ {ad : Nat → Nat} {kc ns : Nat} {σ9 : gS} {x20n9 : Int32} {x21n9 : Int32} (hkc : kc ≤ 183 + 643 * x21n9.toInt.toNat + 0) (hns : ns ≤ 3391 + 81814 * x21n9.toInt.toNat + 0) (hi0 : 0 ≤ x21n9.toInt) (hi8 : x21n9.toInt ≤ 80) (H : Heap) (locs : List Loc) (ls : Array Slot), gY D y A s L ad σ9 H locs → lv_has ls 37 [(0, .ref b), (1, .ref (ad 0)), (2, .ref (ad 161)), (3, .ref (ad 162)), (4, .ref (ad 163)), (5, .ref (ad 164)), (6, .ref (ad 165)), (7, .ref (ad 166)), (8, .ref (ad 167)), (9, .ref (ad 168)), (10, .ref (ad 169)), (11, .ref (ad 170)), (12, .ref (ad 171)), (13, .ref (ad 172)), (14, .ref (ad 173)), (15, .ref (ad 174)), (16, .ref (ad 175)), (17, .ref (ad 176)), (18, .ref (ad 177)), (19, .ref (ad 178)), (20, .int x20n9), (21, .int x21n9)] → rec221 (σ9, x20n9, x21n9) = some res → W p l e room_1 s m args below meth c H locs kc ns (lw_Z below args s) (F0 m 221 ls [])) (hkc : kc ≤ 183 + 643 * x21.toInt.toNat + 0) (hns : ns ≤ 3391 + 81814 * x21.toInt.toNat + 0) (hi0 : 0 ≤ x21.toInt) (hi8 : x21.toInt < 80) {H : Heap} {locs : List Loc} {ls : Array Slot} (hY : gY D y A s L ad σ H locs) (hl : lv_has ls 37 [(0, .ref b), (1, .ref (ad 0)), (2, .ref (ad 161)), (3, .ref (ad 162)), (4, .ref (ad 163)), (5, .ref (ad 164)), (6, .ref (ad 165)), (7, .ref (ad 166)), (8, .ref (ad 167)), (9, .ref (ad 168)), (10, .ref (ad 169)), (11, .ref (ad 170)), (12, .ref (ad 171)), (13, .ref (ad 172)), (14, .ref (ad 173)), (15, .ref (ad 174)), (16, .ref (ad 175)), (17, .ref (ad 176)), (18, .ref (ad 177)), (19, .ref (ad 178)), (20, .int x20), (21, .int x21), (24, .int x24), (28, .int x28), (29, .int x29)]) (h : fL_law_1412 N xs Lx rec221 σ x20 x21 x24 x28 x29 = some res) : W p l e room_1 s m args below meth c H locs kc ns (lw_Z below args s) (F0 m 1412 ls []) := by
  unfold fL_law_1412 at h
  refine lv_aload hx hb dL_law_1412 (lv_at hl 13 rfl) ?_
  refine lv_bipush (v := 12) hx hb dL_law_1414 (by decide +kernel) ?_
  refine lv_iload hx hb dL_law_1416 (lv_at hl 23 rfl) ?_
  refine lv_imul hx hb dL_law_1418 ?_
  refine lv_iconst (v := 3) hx hb dL_law_1419 (by decide) ?_
  refine lv_iadd hx hb dL_law_1420 ?_
  refine lv_iload hx hb dL_law_1421 (lv_at hl 24 rfl) ?_
  refine lv_if_eq (tgt := 1430) hx hb dL_law_1423 (by decide) (fun z_1 => ?_) (fun z_1 => ?_)
  ·
    rw [if_pos z_1] at h
    refine lv_iconst (v := 0) hx hb dL_law_1430 (by decide) ?_
    exact wL_law_1431 hx hb hr hml hown hg hlocks hK hA hL hfl hZ hX hbl hA2 hres hL2 hrec221 (by first | omega | (simp only [g_l0]; omega)) (by first | omega | (simp only [g_l0]; omega)) (by first | omega | (simp only [g_l0]; omega)) (by first | omega | (simp only [g_l0]; omega)) hY (lv_sub hl [0, 1, 2, 3, 4, 5, 6, 7, 8, 9, 10, 11, 12, 13, 14, 15, 16, 17, 18, 19, 20, 21, 22] rfl) h
  ·
    rw [if_neg z_1] at h
    refine lv_iconst (v := 1) hx hb dL_law_1426 (by decide) ?_
    refine lv_goto (tgt := 1431) hx hb dL_law_1427 (by decide) ?_
    exact wL_law_1431 hx hb hr hml hown hg hlocks hK hA hL hfl hZ hX hbl hA2 hres hL2 hrec221 (by first | omega | (simp only [g_l0]; omega)) (by first | omega | (simp only [g_l0]; omega)) (by first | omega | (simp only [g_l0]; omega)) (by first | omega | (simp only [g_l0]; omega)) hY (lv_sub hl [0, 1, 2, 3, 4, 5, 6, 7, 8, 9, 10, 11, 12, 13, 14, 15, 16, 17, 18, 19, 20, 21, 22] rfl) h
def fL_law_1397 (N : Nat) (xs : Nat → Int32) (Lx : Nat) (rec221 : (gS × Int32 × Int32) → Option Int32) (σ : gS) (x20 : Int32) (x21 : Int32) (x24 : Int32) (x28 : Int32) (x29 : Int32) (xs0 : Int32) (xs1 : Int32) : Option Int32 := if xs1 = xs0 then (fL_law_1412 N xs Lx rec221 σ x20 x21 x24 x28 x29) else ((fL_reopens N σ x28).bind fun r_2 => fL_law_1412 N xs Lx rec221 r_2 x20 x21 x24 x28 x29)
set_option maxRecDepth 100000 in
set_option maxHeartbeats 1000000 in
theorem wL_law_1397 {rec221 : (gS × Int32 × Int32) → Option Int32} {σ : gS} {x20 : Int32} {x21 : Int32} {x24 : Int32} {x28 : Int32} {x29 : Int32} {xs0 : Int32} {xs1 : Int32} {ad : Nat → Nat} {kc ns : Nat} (hx : p.tables.exec = Jvm.exec) (hb : c.code = cL_law) (hr : meth.sig.returnType = (some .boolean)) (hml : c.maxLocals = 37) (hown : s.vm.findClass RL = some m.cls) (hg : ∀ w ∈ wsL_law, w.before args s = true) (hlocks : meth.locks = false) (hK : gK D y aS s) (hA : ∀ q, s.heap.size ≤ q → A q) (hL : ∀ k, k < 179 → k ∈ L) (hfl : l.stackTraces = false) (hZ : gZ A s s.heap) (hX : va_X b Lx xs s s.heap) (hbl : b < s.heap.size) (hA2 : ∀ q, A q → s.heap.size ≤ q) (hres : res = 1) (hL2 : ∀ k ∈ L, k < 179) (hrec221 : ∀ {ad : Nat → Nat} {kc ns : Nat} {σ9 : gS} {x20n9 : Int32} {x21n9 : Int32} (hkc : kc ≤ 183 + 643 * x21n9.toInt.toNat + 0) (hns : ns ≤ 3391 + 81814 * x21n9.toInt.toNat + 0) (hi0 : 0 ≤ x21n9.toInt) (hi8 : x21n9.toInt ≤ 80) (H : Heap) (locs : List Loc) (ls : Array Slot), gY D y A s L ad σ9 H locs → lv_has ls 37 [(0, .ref b), (1, .ref (ad 0)), (2, .ref (ad 161)), (3, .ref (ad 162)), (4, .ref (ad 163)), (5, .ref (ad 164)), (6, .ref (ad 165)), (7, .ref (ad 166)), (8, .ref (ad 167)), (9, .ref (ad 168)), (10, .ref (ad 169)), (11, .ref (ad 170)), (12, .ref (ad 171)), (13, .ref (ad 172)), (14, .ref (ad 173)), (15, .ref (ad 174)), (16, .ref (ad 175)), (17, .ref (ad 176)), (18, .ref (ad 177)), (19, .ref (ad 178)), (20, .int x20n9), (21, .int x21n9)] → rec221 (σ9, x20n9, x21n9) = some res → W p l e room_1 s m args below meth c H locs kc ns (lw_Z below args s) (F0 m 221 ls [])) (hkc : kc ≤ 183 + 643 * x21.toInt.toNat + 0) (hns : ns ≤ 3391 + 81814 * x21.toInt.toNat + 0) (hi0 : 0 ≤ x21.toInt) (hi8 : x21.toInt < 80) {H : Heap} {locs : List Loc} {ls : Array Slot} (hY : gY D y A s L ad σ H locs) (hl : lv_has ls 37 [(0, .ref b), (1, .ref (ad 0)), (2, .ref (ad 161)), (3, .ref (ad 162)), (4, .ref (ad 163)), (5, .ref (ad 164)), (6, .ref (ad 165)), (7, .ref (ad 166)), (8, .ref (ad 167)), (9, .ref (ad 168)), (10, .ref (ad 169)), (11, .ref (ad 170)), (12, .ref (ad 171)), (13, .ref (ad 172)), (14, .ref (ad 173)), (15, .ref (ad 174)), (16, .ref (ad 175)), (17, .ref (ad 176)), (18, .ref (ad 177)), (19, .ref (ad 178)), (20, .int x20), (21, .int x21), (24, .int x24), (28, .int x28), (29, .int x29)]) (h : fL_law_1397 N xs Lx rec221 σ x20 x21 x24 x28 x29 xs0 xs1 = some res) : W p l e room_1 s m args below meth c H locs kc ns (lw_Z below args s) (F0 m 1397 ls [.int xs0, .int xs1]) := by
  unfold fL_law_1397 at h
  refine lv_icmp_eq (tgt := 1412) hx hb dL_law_1397 (by decide) (fun z_1 => ?_) (fun z_1 => ?_)
  ·
    rw [if_pos z_1] at h
    exact wL_law_1412 hx hb hr hml hown hg hlocks hK hA hL hfl hZ hX hbl hA2 hres hL2 hrec221 (by first | omega | (simp only [g_l0]; omega)) (by first | omega | (simp only [g_l0]; omega)) (by first | omega | (simp only [g_l0]; omega)) (by first | omega | (simp only [g_l0]; omega)) hY (lv_sub hl [0, 1, 2, 3, 4, 5, 6, 7, 8, 9, 10, 11, 12, 13, 14, 15, 16, 17, 18, 19, 20, 21, 22, 23, 24] rfl) h
  ·
    rw [if_neg z_1] at h
    refine lv_aload_n hx hb dL_law_1400 rfl (lv_at hl 2 rfl) ?_
    refine lv_aload hx hb dL_law_1401 (lv_at hl 15 rfl) ?_
    refine lv_aload hx hb dL_law_1403 (lv_at hl 16 rfl) ?_
    refine lv_aload hx hb dL_law_1405 (lv_at hl 17 rfl) ?_
    refine lv_iload hx hb dL_law_1407 (lv_at hl 23 rfl) ?_
    obtain ⟨r_2, e_3, h⟩ := g_bind h
    refine G_av hY hA (va_runS (As := [.ref (ad 161), .ref (ad 174), .ref (ad 175), .ref (ad 176), .int x28]) (rest := []) ⟨hx, hb, hml, hown, hg⟩ (kL_reopens l D y aS H.size L hL ad N σ x28 _ e_3) (va_cwS 5 hg ggS_RL_217_L_reopens rfl rfl rfl (by decide +kernel) ⟨Nat.le_of_ble_eq_true rfl, Nat.le_of_ble_eq_true rfl⟩) (G_pS hK hY) rfl rfl hl.1 rfl (lv_room (Nat.le_of_ble_eq_true rfl)) dL_law_1409 ⟨(by first | omega | (show _ ≤ (600086 : Nat); omega) | (show _ ≤ (7301442 : Nat); omega)), (by first | omega | (show _ ≤ (600086 : Nat); omega) | (show _ ≤ (7301442 : Nat); omega))⟩) ?_
    clear hY
    rintro H locs hY
    exact wL_law_1412 hx hb hr hml hown hg hlocks hK hA hL hfl hZ hX hbl hA2 hres hL2 hrec221 (by first | omega | (simp only [g_l0]; omega)) (by first | omega | (simp only [g_l0]; omega)) (by first | omega | (simp only [g_l0]; omega)) (by first | omega | (simp only [g_l0]; omega)) hY (lv_sub hl [0, 1, 2, 3, 4, 5, 6, 7, 8, 9, 10, 11, 12, 13, 14, 15, 16, 17, 18, 19, 20, 21, 22, 23, 24] rfl) h
def fL_law_1374 (N : Nat) (xs : Nat → Int32) (Lx : Nat) (rec221 : (gS × Int32 × Int32) → Option Int32) (σ : gS) (x21 : Int32) (x24 : Int32) (x28 : Int32) (x29 : Int32) (xs0 : Int32) : Option Int32 := if ((12 * x28) + 3) < 0 ∨ 48 ≤ ((12 * x28) + 3).toNatClampNeg then none else (if (σ.1 172 (((12 * x28) + 3).toNatClampNeg)) = 1 then (fL_law_1397 N xs Lx rec221 σ xs0 x21 x24 x28 x29 1 x29) else (fL_law_1397 N xs Lx rec221 σ xs0 x21 x24 x28 x29 0 x29))
set_option maxRecDepth 100000 in
set_option maxHeartbeats 1000000 in
theorem wL_law_1374 {rec221 : (gS × Int32 × Int32) → Option Int32} {σ : gS} {x21 : Int32} {x24 : Int32} {x28 : Int32} {x29 : Int32} {xs0 : Int32} {ad : Nat → Nat} {kc ns : Nat} (hx : p.tables.exec = Jvm.exec) (hb : c.code = cL_law) (hr : meth.sig.returnType = (some .boolean)) (hml : c.maxLocals = 37) (hown : s.vm.findClass RL = some m.cls) (hg : ∀ w ∈ wsL_law, w.before args s = true) (hlocks : meth.locks = false) (hK : gK D y aS s) (hA : ∀ q, s.heap.size ≤ q → A q) (hL : ∀ k, k < 179 → k ∈ L) (hfl : l.stackTraces = false) (hZ : gZ A s s.heap) (hX : va_X b Lx xs s s.heap) (hbl : b < s.heap.size) (hA2 : ∀ q, A q → s.heap.size ≤ q) (hres : res = 1) (hL2 : ∀ k ∈ L, k < 179) (hrec221 : ∀ {ad : Nat → Nat} {kc ns : Nat} {σ9 : gS} {x20n9 : Int32} {x21n9 : Int32} (hkc : kc ≤ 183 + 643 * x21n9.toInt.toNat + 0) (hns : ns ≤ 3391 + 81814 * x21n9.toInt.toNat + 0) (hi0 : 0 ≤ x21n9.toInt) (hi8 : x21n9.toInt ≤ 80) (H : Heap) (locs : List Loc) (ls : Array Slot), gY D y A s L ad σ9 H locs → lv_has ls 37 [(0, .ref b), (1, .ref (ad 0)), (2, .ref (ad 161)), (3, .ref (ad 162)), (4, .ref (ad 163)), (5, .ref (ad 164)), (6, .ref (ad 165)), (7, .ref (ad 166)), (8, .ref (ad 167)), (9, .ref (ad 168)), (10, .ref (ad 169)), (11, .ref (ad 170)), (12, .ref (ad 171)), (13, .ref (ad 172)), (14, .ref (ad 173)), (15, .ref (ad 174)), (16, .ref (ad 175)), (17, .ref (ad 176)), (18, .ref (ad 177)), (19, .ref (ad 178)), (20, .int x20n9), (21, .int x21n9)] → rec221 (σ9, x20n9, x21n9) = some res → W p l e room_1 s m args below meth c H locs kc ns (lw_Z below args s) (F0 m 221 ls [])) (hkc : kc ≤ 183 + 643 * x21.toInt.toNat + 0) (hns : ns ≤ 3391 + 81814 * x21.toInt.toNat + 0) (hi0 : 0 ≤ x21.toInt) (hi8 : x21.toInt < 80) {H : Heap} {locs : List Loc} {ls : Array Slot} (hY : gY D y A s L ad σ H locs) (hl : lv_has ls 37 [(0, .ref b), (1, .ref (ad 0)), (2, .ref (ad 161)), (3, .ref (ad 162)), (4, .ref (ad 163)), (5, .ref (ad 164)), (6, .ref (ad 165)), (7, .ref (ad 166)), (8, .ref (ad 167)), (9, .ref (ad 168)), (10, .ref (ad 169)), (11, .ref (ad 170)), (12, .ref (ad 171)), (13, .ref (ad 172)), (14, .ref (ad 173)), (15, .ref (ad 174)), (16, .ref (ad 175)), (17, .ref (ad 176)), (18, .ref (ad 177)), (19, .ref (ad 178)), (21, .int x21), (24, .int x24), (28, .int x28), (29, .int x29)]) (h : fL_law_1374 N xs Lx rec221 σ x21 x24 x28 x29 xs0 = some res) : W p l e room_1 s m args below meth c H locs kc ns (lw_Z below args s) (F0 m 1374 ls [.int xs0]) := by
  unfold fL_law_1374 at h
  refine lv_istore (lv' := [(20, .int xs0), (0, .ref b), (1, .ref (ad 0)), (2, .ref (ad 161)), (3, .ref (ad 162)), (4, .ref (ad 163)), (5, .ref (ad 164)), (6, .ref (ad 165)), (7, .ref (ad 166)), (8, .ref (ad 167)), (9, .ref (ad 168)), (10, .ref (ad 169)), (11, .ref (ad 170)), (12, .ref (ad 171)), (13, .ref (ad 172)), (14, .ref (ad 173)), (15, .ref (ad 174)), (16, .ref (ad 175)), (17, .ref (ad 176)), (18, .ref (ad 177)), (19, .ref (ad 178)), (21, .int x21), (24, .int x24), (28, .int x28), (29, .int x29)]) hx hb dL_law_1374 hl (by decide) rfl ?_
  clear hl
  intro ls hl
  refine lv_iload hx hb dL_law_1376 (lv_at hl 24 rfl) ?_
  refine lv_aload hx hb dL_law_1378 (lv_at hl 14 rfl) ?_
  refine lv_bipush (v := 12) hx hb dL_law_1380 (by decide +kernel) ?_
  refine lv_iload hx hb dL_law_1382 (lv_at hl 23 rfl) ?_
  refine lv_imul hx hb dL_law_1384 ?_
  refine lv_iconst (v := 3) hx hb dL_law_1385 (by decide) ?_
  refine lv_iadd hx hb dL_law_1386 ?_
  obtain ⟨z_1, h⟩ := g_guard h
  refine G_iald (j := ((12 * x28) + 3).toNatClampNeg) hx hb hK hY (hL 172 (by decide)) gk_172 (by rw [gl_172]; exact z_1) rfl dL_law_1387 ?_
  refine lv_iconst (v := 1) hx hb dL_law_1388 (by decide) ?_
  refine lv_icmp_ne (tgt := 1396) hx hb dL_law_1389 (by decide) (fun z_2 => ?_) (fun z_2 => ?_)
  ·
    rw [if_neg z_2] at h
    refine lv_iconst (v := 0) hx hb dL_law_1396 (by decide) ?_
    exact wL_law_1397 hx hb hr hml hown hg hlocks hK hA hL hfl hZ hX hbl hA2 hres hL2 hrec221 (by first | omega | (simp only [g_l0]; omega)) (by first | omega | (simp only [g_l0]; omega)) (by first | omega | (simp only [g_l0]; omega)) (by first | omega | (simp only [g_l0]; omega)) hY (lv_sub hl [1, 2, 3, 4, 5, 6, 7, 8, 9, 10, 11, 12, 13, 14, 15, 16, 17, 18, 19, 20, 0, 21, 22, 23, 24] rfl) h
  ·
    rw [if_pos z_2] at h
    refine lv_iconst (v := 1) hx hb dL_law_1392 (by decide) ?_
    refine lv_goto (tgt := 1397) hx hb dL_law_1393 (by decide) ?_
    exact wL_law_1397 hx hb hr hml hown hg hlocks hK hA hL hfl hZ hX hbl hA2 hres hL2 hrec221 (by first | omega | (simp only [g_l0]; omega)) (by first | omega | (simp only [g_l0]; omega)) (by first | omega | (simp only [g_l0]; omega)) (by first | omega | (simp only [g_l0]; omega)) hY (lv_sub hl [1, 2, 3, 4, 5, 6, 7, 8, 9, 10, 11, 12, 13, 14, 15, 16, 17, 18, 19, 20, 0, 21, 22, 23, 24] rfl) h
end
