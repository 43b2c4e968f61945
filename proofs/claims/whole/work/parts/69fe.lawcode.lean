/-! ===== 69f: the law's code, a table for each case (gen69f.py) ===== -/
def t_W_32 : MC := [(1822, .aload_n 1, 1), (1823, .aload_n 0, 1), (1824, .iload 4, 2), (1826, .iconst 1, 1), (1827, .iadd, 1), (1828, .iaload, 1), (1829, .aload_n 3, 1), (1830, .invokestatic 263, 3), (1833, .istore 5, 2), (1835, .aload_n 2, 1), (1836, .aload_n 0, 1), (1837, .iload 4, 2), (1839, .iconst 1, 1), (1840, .iadd, 1), (1841, .iaload, 1), (1842, .invokevirtual 265, 3), (1845, .istore 6, 2), (1847, .aload_n 2, 1), (1848, .invokevirtual 193, 3), (1851, .iload 5, 2), (1853, .if_icmp .eq 5, 3), (1858, .iload 5, 2), (1860, .ifCond .ne 15, 3), (1863, .aload_n 3, 1), (1864, .iconst 0, 1), (1865, .laload, 1), (1866, .iload 6, 2), (1868, .i2l, 1), (1869, .lcmp, 1), (1870, .ifCond .eq 5, 3), (1875, .goto 1255, 3)]
set_option maxRecDepth 20000 in
theorem d_W_32 : ∀ q ∈ t_W_32, decode cL_law q.1 = .ok q.2 := by decide +kernel
def z_W_32 (nm : String) : MZ := (⟨RL, nm, "([I)Z"⟩, cL_law, 9, (some .boolean), t_W_32, [])
theorem zo_W_32 (nm : String) : ZOK (z_W_32 nm) := ⟨d_W_32, by intro q hq; cases hq⟩
def t_W_33 : MC := [(1878, .aload_n 1, 1), (1879, .aload_n 0, 1), (1880, .iload 4, 2), (1882, .iconst 1, 1), (1883, .iadd, 1), (1884, .iaload, 1), (1885, .aload_n 3, 1), (1886, .invokestatic 266, 3), (1889, .istore 5, 2), (1891, .aload_n 2, 1), (1892, .aload_n 0, 1), (1893, .iload 4, 2), (1895, .iconst 1, 1), (1896, .iadd, 1), (1897, .iaload, 1), (1898, .invokevirtual 268, 3), (1901, .istore 6, 2), (1903, .aload_n 2, 1), (1904, .invokevirtual 193, 3), (1907, .iload 5, 2), (1909, .if_icmp .eq 5, 3), (1914, .iload 5, 2), (1916, .ifCond .ne 22, 3), (1919, .aload_n 3, 1), (1920, .iconst 0, 1), (1921, .laload, 1), (1922, .iload 6, 2), (1924, .ifCond .eq 7, 3), (1927, .lconst 1, 1), (1928, .goto 4, 3), (1931, .lconst 0, 1), (1932, .lcmp, 1), (1933, .ifCond .eq 5, 3), (1938, .goto 1192, 3)]
set_option maxRecDepth 20000 in
theorem d_W_33 : ∀ q ∈ t_W_33, decode cL_law q.1 = .ok q.2 := by decide +kernel
def z_W_33 (nm : String) : MZ := (⟨RL, nm, "([I)Z"⟩, cL_law, 9, (some .boolean), t_W_33, [])
theorem zo_W_33 (nm : String) : ZOK (z_W_33 nm) := ⟨d_W_33, by intro q hq; cases hq⟩
def t_W_34 : MC := [(1941, .aload_n 1, 1), (1942, .invokevirtual 269, 3), (1945, .aload_n 2, 1), (1946, .invokevirtual 272, 3), (1949, .if_icmp .eq 1181, 3)]
set_option maxRecDepth 20000 in
theorem d_W_34 : ∀ q ∈ t_W_34, decode cL_law q.1 = .ok q.2 := by decide +kernel
def z_W_34 (nm : String) : MZ := (⟨RL, nm, "([I)Z"⟩, cL_law, 9, (some .boolean), t_W_34, [])
theorem zo_W_34 (nm : String) : ZOK (z_W_34 nm) := ⟨d_W_34, by intro q hq; cases hq⟩
def t_W_35 : MC := [(1954, .aload_n 1, 1), (1955, .aload_n 0, 1), (1956, .iload 4, 2), (1958, .iconst 1, 1), (1959, .iadd, 1), (1960, .iaload, 1), (1961, .aload_n 3, 1), (1962, .invokestatic 273, 3), (1965, .istore 5, 2), (1967, .aload_n 2, 1), (1968, .aload_n 0, 1), (1969, .iload 4, 2), (1971, .iconst 1, 1), (1972, .iadd, 1), (1973, .iaload, 1), (1974, .invokevirtual 275, 3), (1977, .istore 6, 2), (1979, .aload_n 2, 1), (1980, .invokevirtual 193, 3), (1983, .iload 5, 2), (1985, .if_icmp .eq 5, 3), (1990, .iload 5, 2), (1992, .ifCond .ne 15, 3), (1995, .aload_n 3, 1), (1996, .iconst 0, 1), (1997, .laload, 1), (1998, .iload 6, 2), (2000, .i2l, 1), (2001, .lcmp, 1), (2002, .ifCond .eq 5, 3), (2007, .goto 1123, 3)]
set_option maxRecDepth 20000 in
theorem d_W_35 : ∀ q ∈ t_W_35, decode cL_law q.1 = .ok q.2 := by decide +kernel
def z_W_35 (nm : String) : MZ := (⟨RL, nm, "([I)Z"⟩, cL_law, 9, (some .boolean), t_W_35, [])
theorem zo_W_35 (nm : String) : ZOK (z_W_35 nm) := ⟨d_W_35, by intro q hq; cases hq⟩
def t_W_36 : MC := [(2010, .aload_n 1, 1), (2011, .aload_n 0, 1), (2012, .iload 4, 2), (2014, .iconst 1, 1), (2015, .iadd, 1), (2016, .iaload, 1), (2017, .aload_n 3, 1), (2018, .invokestatic 276, 3), (2021, .istore 5, 2), (2023, .aload_n 2, 1), (2024, .aload_n 0, 1), (2025, .iload 4, 2), (2027, .iconst 1, 1), (2028, .iadd, 1), (2029, .iaload, 1), (2030, .invokevirtual 278, 3), (2033, .istore 6, 2), (2035, .aload_n 2, 1), (2036, .invokevirtual 193, 3), (2039, .iload 5, 2), (2041, .if_icmp .eq 5, 3), (2046, .iload 5, 2), (2048, .ifCond .ne 15, 3), (2051, .aload_n 3, 1), (2052, .iconst 0, 1), (2053, .laload, 1), (2054, .iload 6, 2), (2056, .i2l, 1), (2057, .lcmp, 1), (2058, .ifCond .eq 5, 3), (2063, .goto 1067, 3)]
set_option maxRecDepth 20000 in
theorem d_W_36 : ∀ q ∈ t_W_36, decode cL_law q.1 = .ok q.2 := by decide +kernel
def z_W_36 (nm : String) : MZ := (⟨RL, nm, "([I)Z"⟩, cL_law, 9, (some .boolean), t_W_36, [])
theorem zo_W_36 (nm : String) : ZOK (z_W_36 nm) := ⟨d_W_36, by intro q hq; cases hq⟩
def t_W_37 : MC := [(2066, .aload_n 1, 1), (2067, .aload_n 0, 1), (2068, .iload 4, 2), (2070, .iconst 1, 1), (2071, .iadd, 1), (2072, .iaload, 1), (2073, .aload_n 3, 1), (2074, .invokestatic 279, 3), (2077, .istore 5, 2), (2079, .aload_n 2, 1), (2080, .aload_n 0, 1), (2081, .iload 4, 2), (2083, .iconst 1, 1), (2084, .iadd, 1), (2085, .iaload, 1), (2086, .invokevirtual 281, 3), (2089, .istore 6, 2), (2091, .aload_n 2, 1), (2092, .invokevirtual 193, 3), (2095, .iload 5, 2), (2097, .if_icmp .eq 5, 3), (2102, .iload 5, 2), (2104, .ifCond .ne 15, 3), (2107, .aload_n 3, 1), (2108, .iconst 0, 1), (2109, .laload, 1), (2110, .iload 6, 2), (2112, .i2l, 1), (2113, .lcmp, 1), (2114, .ifCond .eq 5, 3), (2119, .goto 1011, 3)]
set_option maxRecDepth 20000 in
theorem d_W_37 : ∀ q ∈ t_W_37, decode cL_law q.1 = .ok q.2 := by decide +kernel
def z_W_37 (nm : String) : MZ := (⟨RL, nm, "([I)Z"⟩, cL_law, 9, (some .boolean), t_W_37, [])
theorem zo_W_37 (nm : String) : ZOK (z_W_37 nm) := ⟨d_W_37, by intro q hq; cases hq⟩
def t_W_38 : MC := [(2122, .aload_n 1, 1), (2123, .invokevirtual 282, 3), (2126, .aload_n 2, 1), (2127, .invokevirtual 285, 3), (2130, .if_icmp .eq 1000, 3)]
set_option maxRecDepth 20000 in
theorem d_W_38 : ∀ q ∈ t_W_38, decode cL_law q.1 = .ok q.2 := by decide +kernel
def z_W_38 (nm : String) : MZ := (⟨RL, nm, "([I)Z"⟩, cL_law, 9, (some .boolean), t_W_38, [])
theorem zo_W_38 (nm : String) : ZOK (z_W_38 nm) := ⟨d_W_38, by intro q hq; cases hq⟩
def t_W_39 : MC := [(2135, .aload_n 1, 1), (2136, .invokevirtual 286, 3), (2139, .aload_n 2, 1), (2140, .invokevirtual 289, 3), (2143, .if_icmp .eq 987, 3)]
set_option maxRecDepth 20000 in
theorem d_W_39 : ∀ q ∈ t_W_39, decode cL_law q.1 = .ok q.2 := by decide +kernel
def z_W_39 (nm : String) : MZ := (⟨RL, nm, "([I)Z"⟩, cL_law, 9, (some .boolean), t_W_39, [])
theorem zo_W_39 (nm : String) : ZOK (z_W_39 nm) := ⟨d_W_39, by intro q hq; cases hq⟩
def t_W_40 : MC := [(2148, .aload_n 1, 1), (2149, .aload_n 0, 1), (2150, .iload 4, 2), (2152, .iconst 1, 1), (2153, .iadd, 1), (2154, .iaload, 1), (2155, .aload_n 0, 1), (2156, .iload 4, 2), (2158, .iconst 2, 1), (2159, .iadd, 1), (2160, .iaload, 1), (2161, .aload_n 3, 1), (2162, .invokestatic 290, 3), (2165, .istore 5, 2), (2167, .aload_n 2, 1), (2168, .aload_n 0, 1), (2169, .iload 4, 2), (2171, .iconst 1, 1), (2172, .iadd, 1), (2173, .iaload, 1), (2174, .aload_n 0, 1), (2175, .iload 4, 2), (2177, .iconst 2, 1), (2178, .iadd, 1), (2179, .iaload, 1), (2180, .invokevirtual 292, 3), (2183, .istore 6, 2), (2185, .aload_n 2, 1), (2186, .invokevirtual 193, 3), (2189, .iload 5, 2), (2191, .if_icmp .eq 5, 3), (2196, .iload 5, 2), (2198, .ifCond .ne 15, 3), (2201, .aload_n 3, 1), (2202, .iconst 0, 1), (2203, .laload, 1), (2204, .iload 6, 2), (2206, .i2l, 1), (2207, .lcmp, 1), (2208, .ifCond .eq 5, 3), (2213, .goto 917, 3)]
set_option maxRecDepth 20000 in
theorem d_W_40 : ∀ q ∈ t_W_40, decode cL_law q.1 = .ok q.2 := by decide +kernel
def z_W_40 (nm : String) : MZ := (⟨RL, nm, "([I)Z"⟩, cL_law, 9, (some .boolean), t_W_40, [])
theorem zo_W_40 (nm : String) : ZOK (z_W_40 nm) := ⟨d_W_40, by intro q hq; cases hq⟩
