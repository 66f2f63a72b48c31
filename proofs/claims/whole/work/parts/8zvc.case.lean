/-! The law's turn. -/
section QC
variable {L : Nat} {xs : Nat → Int32} {d : Nat}
theorem k32 {M : qxM} {B i : Nat} {a b : Option Value} (hR : qREL M) (hT : qTab B M) (hB : B < 90000) (h6 : i + 6 ≤ L) (hL : L ≤ 3072) : qTurn L xs d 1985 i a b B M := by
  obtain ⟨b1, c1, b2, c2, b3, c3, b4, c4, b5, c5⟩ := qJ_of h6 hL
  have k1 := qx_m400.1
  have hq : qPairG Value.int B L xs (d + 40) 127 [some (.ref 10), none, none, none, none, none, none, none] 292 [some (.ref 400), none, none, none] ke0 M := j127 (L := L) (xs := xs) (d := d) (M := M) hR hT hB 
  obtain ⟨k, x1, M1, M2, v, g0, g1, g2, g3, g4, g5, g6, g7⟩ := h363 hq
  refine ⟨M2, some (.int (nI k)), some (.int v), x1, g1, g6, g7, fun x => ?_⟩
  by_cases hk : k = 0
  · subst hk
    have g8 := g5 rfl
    unfold qoI at g8
    simp only [s394_1985, s394_1986, s394_1987, s394_1990i, s394_1992, s394_1993, s394_1996i, s394_1998, s394_1999, s394_2002, s394_2004, s394_2009, s394_2011, s394_2014, s394_2015, s394_2016, s394_2017, s394_2019, s394_2020, s394_2021, s394_2026, s394_3746r, s394_3749, g2, g3, g4, g8, lgz, nI_add, b1, c1, b2, c2, b3, c3, b4, c4, b5, c5, qx_m10, qx_m2, k1, s177_0, s177_1, s177_4, qi_z0, eq_self, List.length_cons, List.length_nil, Nat.zero_le, Nat.reduceAdd, Nat.reduceLeDiff, Option.bind_some, qx_kn_v, qx_kn_n, Nat.add_zero, Bool.false_eq_true, ↓reduceIte]
  · have hk2 : (nI k = 0) = False := eq_false (nI_ne0 (by omega) (by omega))
    simp only [s394_1985, s394_1986, s394_1987, s394_1990i, s394_1992, s394_1993, s394_1996i, s394_1998, s394_1999, s394_2002, s394_2004, s394_2009, s394_2011, s394_2014, s394_2015, s394_2016, s394_2017, s394_2019, s394_2020, s394_2021, s394_2026, s394_3746r, s394_3749, g2, g3, g4, hk2, nI_add, b1, c1, b2, c2, b3, c3, b4, c4, b5, c5, qx_m10, qx_m2, k1, s177_0, s177_1, s177_4, qi_z0, eq_self, List.length_cons, List.length_nil, Nat.zero_le, Nat.reduceAdd, Nat.reduceLeDiff, Option.bind_some, qx_kn_v, qx_kn_n, Nat.add_zero, Bool.false_eq_true, ↓reduceIte]
theorem k33 {M : qxM} {B i : Nat} {a b : Option Value} (hR : qREL M) (hT : qTab B M) (hB : B < 90000) (h6 : i + 6 ≤ L) (hL : L ≤ 3072) : qTurn L xs d 2029 i a b B M := by
  obtain ⟨b1, c1, b2, c2, b3, c3, b4, c4, b5, c5⟩ := qJ_of h6 hL
  have k1 := qx_m400.1
  have hq : qPairG Value.int B L xs (d + 40) 128 [some (.ref 10), some (.int (xs (i + 1))), some (.int (xs (i + 2)))] 294 [some (.ref 400), some (.int (xs (i + 1))), some (.int (xs (i + 2))), none] ke02 M := j128 (L := L) (xs := xs) (d := d) (M := M) hR hT hB (xs (i + 1)) (xs (i + 2))
  obtain ⟨k, x1, M1, M2, v, g0, g1, g2, g3, g4, g5, g6, g7⟩ := h364 hq
  refine ⟨M2, some (.int (nI k)), some (.int v), x1, g1, g6, g7, fun x => ?_⟩
  by_cases hk : k = 0
  · subst hk
    have g8 := g5 rfl
    unfold qoB at g8
    by_cases hv : v = 0
    · have hz : (v = 0) = True := eq_true hv
      rw [if_pos hv] at g8
      simp only [s394_2029, s394_2030, s394_2031, s394_2033, s394_2034, s394_2035s, s394_2036, s394_2037, s394_2039, s394_2040, s394_2041s, s394_2042, s394_2043, s394_2046i, s394_2048, s394_2049, s394_2050, s394_2052, s394_2053, s394_2054s, s394_2055, s394_2056, s394_2058, s394_2059, s394_2060s, s394_2061, s394_2064i, s394_2066, s394_2067, s394_2070, s394_2072, s394_2077, s394_2079, s394_2082, s394_2083, s394_2084, s394_2085, s394_2087, s394_2090, s394_2091, s394_2094, s394_2095, s394_2096, s394_2101, s394_3746r, s394_3749, g2, g3, g4, g8, hz, lgz, nI_add, b1, c1, b2, c2, b3, c3, b4, c4, b5, c5, qx_m10, qx_m2, k1, s177_0, s177_1, s177_4, qi_z0, eq_self, List.length_cons, List.length_nil, Nat.zero_le, Nat.reduceAdd, Nat.reduceLeDiff, Option.bind_some, qx_kn_v, qx_kn_n, Nat.add_zero, Bool.false_eq_true, ↓reduceIte]
    · have hz : (v = 0) = False := eq_false hv
      rw [if_neg hv] at g8
      simp only [s394_2029, s394_2030, s394_2031, s394_2033, s394_2034, s394_2035s, s394_2036, s394_2037, s394_2039, s394_2040, s394_2041s, s394_2042, s394_2043, s394_2046i, s394_2048, s394_2049, s394_2050, s394_2052, s394_2053, s394_2054s, s394_2055, s394_2056, s394_2058, s394_2059, s394_2060s, s394_2061, s394_2064i, s394_2066, s394_2067, s394_2070, s394_2072, s394_2077, s394_2079, s394_2082, s394_2083, s394_2084, s394_2085, s394_2087, s394_2090, s394_2091, s394_2094, s394_2095, s394_2096, s394_2101, s394_3746r, s394_3749, g2, g3, g4, g8, hz, lgz, nI_add, b1, c1, b2, c2, b3, c3, b4, c4, b5, c5, qx_m10, qx_m2, k1, s177_0, s177_1, s177_4, qi_z0, eq_self, List.length_cons, List.length_nil, Nat.zero_le, Nat.reduceAdd, Nat.reduceLeDiff, Option.bind_some, qx_kn_v, qx_kn_n, Nat.add_zero, Bool.false_eq_true, ↓reduceIte]
  · have hk2 : (nI k = 0) = False := eq_false (nI_ne0 (by omega) (by omega))
    simp only [s394_2029, s394_2030, s394_2031, s394_2033, s394_2034, s394_2035s, s394_2036, s394_2037, s394_2039, s394_2040, s394_2041s, s394_2042, s394_2043, s394_2046i, s394_2048, s394_2049, s394_2050, s394_2052, s394_2053, s394_2054s, s394_2055, s394_2056, s394_2058, s394_2059, s394_2060s, s394_2061, s394_2064i, s394_2066, s394_2067, s394_2070, s394_2072, s394_2077, s394_2079, s394_2082, s394_2083, s394_2084, s394_2085, s394_2087, s394_2090, s394_2091, s394_2094, s394_2095, s394_2096, s394_2101, s394_3746r, s394_3749, g2, g3, g4, hk2, nI_add, b1, c1, b2, c2, b3, c3, b4, c4, b5, c5, qx_m10, qx_m2, k1, s177_0, s177_1, s177_4, qi_z0, eq_self, List.length_cons, List.length_nil, Nat.zero_le, Nat.reduceAdd, Nat.reduceLeDiff, Option.bind_some, qx_kn_v, qx_kn_n, Nat.add_zero, Bool.false_eq_true, ↓reduceIte]
theorem k34 {M : qxM} {B i : Nat} {a b : Option Value} (hR : qREL M) (hT : qTab B M) (hB : B < 90000) (h6 : i + 6 ≤ L) (hL : L ≤ 3072) : qTurn L xs d 2104 i a b B M := by
  obtain ⟨b1, c1, b2, c2, b3, c3, b4, c4, b5, c5⟩ := qJ_of h6 hL
  have k1 := qx_m400.1
  have hq : qPairG Value.int B L xs (d + 40) 129 [some (.ref 10), some (.int (xs (i + 1))), some (.int (xs (i + 2)))] 296 [some (.ref 400), some (.int (xs (i + 1))), some (.int (xs (i + 2)))] ke02 M := j129 (L := L) (xs := xs) (d := d) (M := M) hR hT hB (xs (i + 1)) (xs (i + 2))
  obtain ⟨k, x1, M1, M2, v, g0, g1, g2, g3, g4, g5, g6, g7⟩ := h365 hq
  refine ⟨M2, some (.int (nI k)), some (.int v), x1, g1, g6, g7, fun x => ?_⟩
  by_cases hk : k = 0
  · subst hk
    have g8 := g5 rfl
    unfold qoB at g8
    by_cases hv : v = 0
    · have hz : (v = 0) = True := eq_true hv
      rw [if_pos hv] at g8
      simp only [s394_2104, s394_2105, s394_2106, s394_2108, s394_2109, s394_2110s, s394_2111, s394_2112, s394_2114, s394_2115, s394_2116s, s394_2117, s394_2118, s394_2121i, s394_2123, s394_2124, s394_2125, s394_2127, s394_2128, s394_2129s, s394_2130, s394_2131, s394_2133, s394_2134, s394_2135s, s394_2136, s394_2139i, s394_2141, s394_2142, s394_2145, s394_2147, s394_2152, s394_2154, s394_2157, s394_2158, s394_2159, s394_2160, s394_2162, s394_2165, s394_2166, s394_2169, s394_2170, s394_2171, s394_2176, s394_3746r, s394_3749, g2, g3, g4, g8, hz, lgz, nI_add, b1, c1, b2, c2, b3, c3, b4, c4, b5, c5, qx_m10, qx_m2, k1, s177_0, s177_1, s177_4, qi_z0, eq_self, List.length_cons, List.length_nil, Nat.zero_le, Nat.reduceAdd, Nat.reduceLeDiff, Option.bind_some, qx_kn_v, qx_kn_n, Nat.add_zero, Bool.false_eq_true, ↓reduceIte]
    · have hz : (v = 0) = False := eq_false hv
      rw [if_neg hv] at g8
      simp only [s394_2104, s394_2105, s394_2106, s394_2108, s394_2109, s394_2110s, s394_2111, s394_2112, s394_2114, s394_2115, s394_2116s, s394_2117, s394_2118, s394_2121i, s394_2123, s394_2124, s394_2125, s394_2127, s394_2128, s394_2129s, s394_2130, s394_2131, s394_2133, s394_2134, s394_2135s, s394_2136, s394_2139i, s394_2141, s394_2142, s394_2145, s394_2147, s394_2152, s394_2154, s394_2157, s394_2158, s394_2159, s394_2160, s394_2162, s394_2165, s394_2166, s394_2169, s394_2170, s394_2171, s394_2176, s394_3746r, s394_3749, g2, g3, g4, g8, hz, lgz, nI_add, b1, c1, b2, c2, b3, c3, b4, c4, b5, c5, qx_m10, qx_m2, k1, s177_0, s177_1, s177_4, qi_z0, eq_self, List.length_cons, List.length_nil, Nat.zero_le, Nat.reduceAdd, Nat.reduceLeDiff, Option.bind_some, qx_kn_v, qx_kn_n, Nat.add_zero, Bool.false_eq_true, ↓reduceIte]
  · have hk2 : (nI k = 0) = False := eq_false (nI_ne0 (by omega) (by omega))
    simp only [s394_2104, s394_2105, s394_2106, s394_2108, s394_2109, s394_2110s, s394_2111, s394_2112, s394_2114, s394_2115, s394_2116s, s394_2117, s394_2118, s394_2121i, s394_2123, s394_2124, s394_2125, s394_2127, s394_2128, s394_2129s, s394_2130, s394_2131, s394_2133, s394_2134, s394_2135s, s394_2136, s394_2139i, s394_2141, s394_2142, s394_2145, s394_2147, s394_2152, s394_2154, s394_2157, s394_2158, s394_2159, s394_2160, s394_2162, s394_2165, s394_2166, s394_2169, s394_2170, s394_2171, s394_2176, s394_3746r, s394_3749, g2, g3, g4, hk2, nI_add, b1, c1, b2, c2, b3, c3, b4, c4, b5, c5, qx_m10, qx_m2, k1, s177_0, s177_1, s177_4, qi_z0, eq_self, List.length_cons, List.length_nil, Nat.zero_le, Nat.reduceAdd, Nat.reduceLeDiff, Option.bind_some, qx_kn_v, qx_kn_n, Nat.add_zero, Bool.false_eq_true, ↓reduceIte]
theorem k35 {M : qxM} {B i : Nat} {a b : Option Value} (hR : qREL M) (hT : qTab B M) (hB : B < 90000) (h6 : i + 6 ≤ L) (hL : L ≤ 3072) : qTurn L xs d 2179 i a b B M := by
  obtain ⟨b1, c1, b2, c2, b3, c3, b4, c4, b5, c5⟩ := qJ_of h6 hL
  have k1 := qx_m400.1
  have hq : qPairG Value.long B L xs (d + 40) 130 [some (.ref 10)] 297 [some (.ref 400), none] ke0 M := j130 (L := L) (xs := xs) (d := d) (M := M) hR hT hB 
  obtain ⟨k, x1, M1, M2, v, g0, g1, g2, g3, g4, g5, g6, g7⟩ := h366 hq
  refine ⟨M2, some (.int (nI k)), some (.long v), x1, g1, g6, g7, fun x => ?_⟩
  by_cases hk : k = 0
  · subst hk
    have g8 := g5 rfl
    unfold qoL at g8
    simp only [s394_2179, s394_2180, s394_2181, s394_2184i, s394_2186, s394_2187, s394_2190, s394_2192, s394_2193, s394_2196, s394_2198, s394_2203, s394_2205, s394_2208, s394_2209, s394_2210, s394_2211, s394_2213, s394_2214, s394_2219, s394_3746r, s394_3749, g2, g3, g4, g8, lgz, nI_add, b1, c1, b2, c2, b3, c3, b4, c4, b5, c5, qx_m10, qx_m2, k1, s177_0, s177_1, s177_4, qi_z0, eq_self, List.length_cons, List.length_nil, Nat.zero_le, Nat.reduceAdd, Nat.reduceLeDiff, Option.bind_some, qx_kn_v, qx_kn_n, Nat.add_zero, Bool.false_eq_true, ↓reduceIte]
  · have hk2 : (nI k = 0) = False := eq_false (nI_ne0 (by omega) (by omega))
    simp only [s394_2179, s394_2180, s394_2181, s394_2184i, s394_2186, s394_2187, s394_2190, s394_2192, s394_2193, s394_2196, s394_2198, s394_2203, s394_2205, s394_2208, s394_2209, s394_2210, s394_2211, s394_2213, s394_2214, s394_2219, s394_3746r, s394_3749, g2, g3, g4, hk2, nI_add, b1, c1, b2, c2, b3, c3, b4, c4, b5, c5, qx_m10, qx_m2, k1, s177_0, s177_1, s177_4, qi_z0, eq_self, List.length_cons, List.length_nil, Nat.zero_le, Nat.reduceAdd, Nat.reduceLeDiff, Option.bind_some, qx_kn_v, qx_kn_n, Nat.add_zero, Bool.false_eq_true, ↓reduceIte]
theorem k36 {M : qxM} {B i : Nat} {a b : Option Value} (hR : qREL M) (hT : qTab B M) (hB : B < 90000) (h6 : i + 6 ≤ L) (hL : L ≤ 3072) : qTurn L xs d 2222 i a b B M := by
  obtain ⟨b1, c1, b2, c2, b3, c3, b4, c4, b5, c5⟩ := qJ_of h6 hL
  have k1 := qx_m400.1
  have hq : qPairG Value.int B L xs (d + 40) 131 [some (.ref 10), some (.int (xs (i + 1))), none, none, none, none] 299 [some (.ref 400), some (.int (xs (i + 1))), none, none, none, none] ke02 M := j131 (L := L) (xs := xs) (d := d) (M := M) hR hT hB (xs (i + 1))
  obtain ⟨k, x1, M1, M2, v, g0, g1, g2, g3, g4, g5, g6, g7⟩ := h367 hq
  refine ⟨M2, some (.int (nI k)), some (.int v), x1, g1, g6, g7, fun x => ?_⟩
  by_cases hk : k = 0
  · subst hk
    have g8 := g5 rfl
    unfold qoI at g8
    simp only [s394_2222, s394_2223, s394_2224, s394_2226, s394_2227, s394_2228s, s394_2229, s394_2230, s394_2233i, s394_2235, s394_2236, s394_2237, s394_2239, s394_2240, s394_2241s, s394_2242, s394_2245i, s394_2247, s394_2248, s394_2251, s394_2253, s394_2258, s394_2260, s394_2263, s394_2264, s394_2265, s394_2266, s394_2268, s394_2269, s394_2270, s394_2275, s394_3746r, s394_3749, g2, g3, g4, g8, lgz, nI_add, b1, c1, b2, c2, b3, c3, b4, c4, b5, c5, qx_m10, qx_m2, k1, s177_0, s177_1, s177_4, qi_z0, eq_self, List.length_cons, List.length_nil, Nat.zero_le, Nat.reduceAdd, Nat.reduceLeDiff, Option.bind_some, qx_kn_v, qx_kn_n, Nat.add_zero, Bool.false_eq_true, ↓reduceIte]
  · have hk2 : (nI k = 0) = False := eq_false (nI_ne0 (by omega) (by omega))
    simp only [s394_2222, s394_2223, s394_2224, s394_2226, s394_2227, s394_2228s, s394_2229, s394_2230, s394_2233i, s394_2235, s394_2236, s394_2237, s394_2239, s394_2240, s394_2241s, s394_2242, s394_2245i, s394_2247, s394_2248, s394_2251, s394_2253, s394_2258, s394_2260, s394_2263, s394_2264, s394_2265, s394_2266, s394_2268, s394_2269, s394_2270, s394_2275, s394_3746r, s394_3749, g2, g3, g4, hk2, nI_add, b1, c1, b2, c2, b3, c3, b4, c4, b5, c5, qx_m10, qx_m2, k1, s177_0, s177_1, s177_4, qi_z0, eq_self, List.length_cons, List.length_nil, Nat.zero_le, Nat.reduceAdd, Nat.reduceLeDiff, Option.bind_some, qx_kn_v, qx_kn_n, Nat.add_zero, Bool.false_eq_true, ↓reduceIte]
theorem k37 {M : qxM} {B i : Nat} {a b : Option Value} (hR : qREL M) (hT : qTab B M) (hB : B < 90000) (h6 : i + 6 ≤ L) (hL : L ≤ 3072) : qTurn L xs d 2278 i a b B M := by
  obtain ⟨b1, c1, b2, c2, b3, c3, b4, c4, b5, c5⟩ := qJ_of h6 hL
  have k1 := qx_m400.1
  have hq : qPairG Value.int B L xs (d + 40) 132 [some (.ref 10), some (.int (xs (i + 1)))] 300 [some (.ref 400), some (.int (xs (i + 1))), none] ke02 M := j132 (L := L) (xs := xs) (d := d) (M := M) hR hT hB (xs (i + 1))
  obtain ⟨k, x1, M1, M2, v, g0, g1, g2, g3, g4, g5, g6, g7⟩ := h368 hq
  refine ⟨M2, some (.int (nI k)), some (.int v), x1, g1, g6, g7, fun x => ?_⟩
  by_cases hk : k = 0
  · subst hk
    have g8 := g5 rfl
    unfold qoI at g8
    simp only [s394_2278, s394_2279, s394_2280, s394_2282, s394_2283, s394_2284s, s394_2285, s394_2286, s394_2289i, s394_2291, s394_2292, s394_2293, s394_2295, s394_2296, s394_2297s, s394_2298, s394_2301i, s394_2303, s394_2304, s394_2307, s394_2309, s394_2314, s394_2316, s394_2319, s394_2320, s394_2321, s394_2322, s394_2324, s394_2325, s394_2326, s394_2331, s394_3746r, s394_3749, g2, g3, g4, g8, lgz, nI_add, b1, c1, b2, c2, b3, c3, b4, c4, b5, c5, qx_m10, qx_m2, k1, s177_0, s177_1, s177_4, qi_z0, eq_self, List.length_cons, List.length_nil, Nat.zero_le, Nat.reduceAdd, Nat.reduceLeDiff, Option.bind_some, qx_kn_v, qx_kn_n, Nat.add_zero, Bool.false_eq_true, ↓reduceIte]
  · have hk2 : (nI k = 0) = False := eq_false (nI_ne0 (by omega) (by omega))
    simp only [s394_2278, s394_2279, s394_2280, s394_2282, s394_2283, s394_2284s, s394_2285, s394_2286, s394_2289i, s394_2291, s394_2292, s394_2293, s394_2295, s394_2296, s394_2297s, s394_2298, s394_2301i, s394_2303, s394_2304, s394_2307, s394_2309, s394_2314, s394_2316, s394_2319, s394_2320, s394_2321, s394_2322, s394_2324, s394_2325, s394_2326, s394_2331, s394_3746r, s394_3749, g2, g3, g4, hk2, nI_add, b1, c1, b2, c2, b3, c3, b4, c4, b5, c5, qx_m10, qx_m2, k1, s177_0, s177_1, s177_4, qi_z0, eq_self, List.length_cons, List.length_nil, Nat.zero_le, Nat.reduceAdd, Nat.reduceLeDiff, Option.bind_some, qx_kn_v, qx_kn_n, Nat.add_zero, Bool.false_eq_true, ↓reduceIte]
theorem k38 {M : qxM} {B i : Nat} {a b : Option Value} (hR : qREL M) (hT : qTab B M) (hB : B < 90000) (h6 : i + 6 ≤ L) (hL : L ≤ 3072) : qTurn L xs d 2334 i a b B M := by
  obtain ⟨b1, c1, b2, c2, b3, c3, b4, c4, b5, c5⟩ := qJ_of h6 hL
  have k1 := qx_m400.1
  have hq : qPairG Value.int B L xs (d + 40) 133 [some (.ref 10), some (.int (xs (i + 1))), some (.int (xs (i + 2))), none, none] 301 [some (.ref 400), some (.int (xs (i + 1))), some (.int (xs (i + 2)))] ke02 M := j133 (L := L) (xs := xs) (d := d) (M := M) hR hT hB (xs (i + 1)) (xs (i + 2))
  obtain ⟨k, x1, M1, M2, v, g0, g1, g2, g3, g4, g5, g6, g7⟩ := h369 hq
  refine ⟨M2, some (.int (nI k)), some (.int v), x1, g1, g6, g7, fun x => ?_⟩
  by_cases hk : k = 0
  · subst hk
    have g8 := g5 rfl
    unfold qoI at g8
    simp only [s394_2334, s394_2335, s394_2336, s394_2338, s394_2339, s394_2340s, s394_2341, s394_2342, s394_2344, s394_2345, s394_2346s, s394_2347, s394_2348, s394_2351i, s394_2353, s394_2354, s394_2355, s394_2357, s394_2358, s394_2359s, s394_2360, s394_2361, s394_2363, s394_2364, s394_2365s, s394_2366, s394_2369i, s394_2371, s394_2372, s394_2375, s394_2377, s394_2382, s394_2384, s394_2387, s394_2388, s394_2389, s394_2390, s394_2392, s394_2393, s394_2394, s394_2399, s394_3746r, s394_3749, g2, g3, g4, g8, lgz, nI_add, b1, c1, b2, c2, b3, c3, b4, c4, b5, c5, qx_m10, qx_m2, k1, s177_0, s177_1, s177_4, qi_z0, eq_self, List.length_cons, List.length_nil, Nat.zero_le, Nat.reduceAdd, Nat.reduceLeDiff, Option.bind_some, qx_kn_v, qx_kn_n, Nat.add_zero, Bool.false_eq_true, ↓reduceIte]
  · have hk2 : (nI k = 0) = False := eq_false (nI_ne0 (by omega) (by omega))
    simp only [s394_2334, s394_2335, s394_2336, s394_2338, s394_2339, s394_2340s, s394_2341, s394_2342, s394_2344, s394_2345, s394_2346s, s394_2347, s394_2348, s394_2351i, s394_2353, s394_2354, s394_2355, s394_2357, s394_2358, s394_2359s, s394_2360, s394_2361, s394_2363, s394_2364, s394_2365s, s394_2366, s394_2369i, s394_2371, s394_2372, s394_2375, s394_2377, s394_2382, s394_2384, s394_2387, s394_2388, s394_2389, s394_2390, s394_2392, s394_2393, s394_2394, s394_2399, s394_3746r, s394_3749, g2, g3, g4, hk2, nI_add, b1, c1, b2, c2, b3, c3, b4, c4, b5, c5, qx_m10, qx_m2, k1, s177_0, s177_1, s177_4, qi_z0, eq_self, List.length_cons, List.length_nil, Nat.zero_le, Nat.reduceAdd, Nat.reduceLeDiff, Option.bind_some, qx_kn_v, qx_kn_n, Nat.add_zero, Bool.false_eq_true, ↓reduceIte]
theorem k39 {M : qxM} {B i : Nat} {a b : Option Value} (hR : qREL M) (hT : qTab B M) (hB : B < 90000) (h6 : i + 6 ≤ L) (hL : L ≤ 3072) : qTurn L xs d 2402 i a b B M := by
  obtain ⟨b1, c1, b2, c2, b3, c3, b4, c4, b5, c5⟩ := qJ_of h6 hL
  have k1 := qx_m400.1
  have hq : qPairG Value.int B L xs (d + 40) 134 [some (.ref 10), some (.int (xs (i + 1)))] 304 [some (.ref 400), some (.int (xs (i + 1)))] ke01 M := j134 (L := L) (xs := xs) (d := d) (M := M) hR hT hB (xs (i + 1))
  obtain ⟨k, x1, M1, M2, v, g0, g1, g2, g3, g4, g5, g6, g7⟩ := h370 hq
  refine ⟨M2, some (.int (nI k)), some (.int v), x1, g1, g6, g7, fun x => ?_⟩
  by_cases hk : k = 0
  · subst hk
    have g8 := g5 rfl
    unfold qoI at g8
    simp only [s394_2402, s394_2403, s394_2404, s394_2406, s394_2407, s394_2408s, s394_2409, s394_2410, s394_2413i, s394_2415, s394_2416, s394_2417, s394_2419, s394_2420, s394_2421s, s394_2422, s394_2425i, s394_2427, s394_2428, s394_2431, s394_2433, s394_2438, s394_2440, s394_2443, s394_2444, s394_2445, s394_2446, s394_2448, s394_2449, s394_2450, s394_2455, s394_3746r, s394_3749, g2, g3, g4, g8, lgz, nI_add, b1, c1, b2, c2, b3, c3, b4, c4, b5, c5, qx_m10, qx_m2, k1, s177_0, s177_1, s177_4, qi_z0, eq_self, List.length_cons, List.length_nil, Nat.zero_le, Nat.reduceAdd, Nat.reduceLeDiff, Option.bind_some, qx_kn_v, qx_kn_n, Nat.add_zero, Bool.false_eq_true, ↓reduceIte]
  · have hk2 : (nI k = 0) = False := eq_false (nI_ne0 (by omega) (by omega))
    simp only [s394_2402, s394_2403, s394_2404, s394_2406, s394_2407, s394_2408s, s394_2409, s394_2410, s394_2413i, s394_2415, s394_2416, s394_2417, s394_2419, s394_2420, s394_2421s, s394_2422, s394_2425i, s394_2427, s394_2428, s394_2431, s394_2433, s394_2438, s394_2440, s394_2443, s394_2444, s394_2445, s394_2446, s394_2448, s394_2449, s394_2450, s394_2455, s394_3746r, s394_3749, g2, g3, g4, hk2, nI_add, b1, c1, b2, c2, b3, c3, b4, c4, b5, c5, qx_m10, qx_m2, k1, s177_0, s177_1, s177_4, qi_z0, eq_self, List.length_cons, List.length_nil, Nat.zero_le, Nat.reduceAdd, Nat.reduceLeDiff, Option.bind_some, qx_kn_v, qx_kn_n, Nat.add_zero, Bool.false_eq_true, ↓reduceIte]
theorem k40 {M : qxM} {B i : Nat} {a b : Option Value} (hR : qREL M) (hT : qTab B M) (hB : B < 90000) (h6 : i + 6 ≤ L) (hL : L ≤ 3072) : qTurn L xs d 2458 i a b B M := by
  obtain ⟨b1, c1, b2, c2, b3, c3, b4, c4, b5, c5⟩ := qJ_of h6 hL
  have k1 := qx_m400.1
  have hq : qPairG Value.int B L xs (d + 40) 135 [some (.ref 10)] 305 [some (.ref 400), none, none, none, none] ke0 M := j135 (L := L) (xs := xs) (d := d) (M := M) hR hT hB 
  obtain ⟨k, x1, M1, M2, v, g0, g1, g2, g3, g4, g5, g6, g7⟩ := h371 hq
  refine ⟨M2, some (.int (nI k)), some (.int v), x1, g1, g6, g7, fun x => ?_⟩
  by_cases hk : k = 0
  · subst hk
    have g8 := g5 rfl
    unfold qoI at g8
    simp only [s394_2458, s394_2459, s394_2460, s394_2463i, s394_2465, s394_2466, s394_2469i, s394_2471, s394_2472, s394_2475, s394_2477, s394_2482, s394_2484, s394_2487, s394_2488, s394_2489, s394_2490, s394_2492, s394_2493, s394_2494, s394_2499, s394_3746r, s394_3749, g2, g3, g4, g8, lgz, nI_add, b1, c1, b2, c2, b3, c3, b4, c4, b5, c5, qx_m10, qx_m2, k1, s177_0, s177_1, s177_4, qi_z0, eq_self, List.length_cons, List.length_nil, Nat.zero_le, Nat.reduceAdd, Nat.reduceLeDiff, Option.bind_some, qx_kn_v, qx_kn_n, Nat.add_zero, Bool.false_eq_true, ↓reduceIte]
  · have hk2 : (nI k = 0) = False := eq_false (nI_ne0 (by omega) (by omega))
    simp only [s394_2458, s394_2459, s394_2460, s394_2463i, s394_2465, s394_2466, s394_2469i, s394_2471, s394_2472, s394_2475, s394_2477, s394_2482, s394_2484, s394_2487, s394_2488, s394_2489, s394_2490, s394_2492, s394_2493, s394_2494, s394_2499, s394_3746r, s394_3749, g2, g3, g4, hk2, nI_add, b1, c1, b2, c2, b3, c3, b4, c4, b5, c5, qx_m10, qx_m2, k1, s177_0, s177_1, s177_4, qi_z0, eq_self, List.length_cons, List.length_nil, Nat.zero_le, Nat.reduceAdd, Nat.reduceLeDiff, Option.bind_some, qx_kn_v, qx_kn_n, Nat.add_zero, Bool.false_eq_true, ↓reduceIte]
theorem k41 {M : qxM} {B i : Nat} {a b : Option Value} (hR : qREL M) (hT : qTab B M) (hB : B < 90000) (h6 : i + 6 ≤ L) (hL : L ≤ 3072) : qTurn L xs d 2502 i a b B M := by
  obtain ⟨b1, c1, b2, c2, b3, c3, b4, c4, b5, c5⟩ := qJ_of h6 hL
  have k1 := qx_m400.1
  have hq : qPairG Value.int B L xs (d + 40) 136 [some (.ref 10), none, none, none, none, none, none] 306 [some (.ref 400), none, none, none, none] ke0 M := j136 (L := L) (xs := xs) (d := d) (M := M) hR hT hB 
  obtain ⟨k, x1, M1, M2, v, g0, g1, g2, g3, g4, g5, g6, g7⟩ := h372 hq
  refine ⟨M2, some (.int (nI k)), some (.int v), x1, g1, g6, g7, fun x => ?_⟩
  by_cases hk : k = 0
  · subst hk
    have g8 := g5 rfl
    unfold qoI at g8
    simp only [s394_2502, s394_2503, s394_2504, s394_2507i, s394_2509, s394_2510, s394_2513i, s394_2515, s394_2516, s394_2519, s394_2521, s394_2526, s394_2528, s394_2531, s394_2532, s394_2533, s394_2534, s394_2536, s394_2537, s394_2538, s394_2543, s394_3746r, s394_3749, g2, g3, g4, g8, lgz, nI_add, b1, c1, b2, c2, b3, c3, b4, c4, b5, c5, qx_m10, qx_m2, k1, s177_0, s177_1, s177_4, qi_z0, eq_self, List.length_cons, List.length_nil, Nat.zero_le, Nat.reduceAdd, Nat.reduceLeDiff, Option.bind_some, qx_kn_v, qx_kn_n, Nat.add_zero, Bool.false_eq_true, ↓reduceIte]
  · have hk2 : (nI k = 0) = False := eq_false (nI_ne0 (by omega) (by omega))
    simp only [s394_2502, s394_2503, s394_2504, s394_2507i, s394_2509, s394_2510, s394_2513i, s394_2515, s394_2516, s394_2519, s394_2521, s394_2526, s394_2528, s394_2531, s394_2532, s394_2533, s394_2534, s394_2536, s394_2537, s394_2538, s394_2543, s394_3746r, s394_3749, g2, g3, g4, hk2, nI_add, b1, c1, b2, c2, b3, c3, b4, c4, b5, c5, qx_m10, qx_m2, k1, s177_0, s177_1, s177_4, qi_z0, eq_self, List.length_cons, List.length_nil, Nat.zero_le, Nat.reduceAdd, Nat.reduceLeDiff, Option.bind_some, qx_kn_v, qx_kn_n, Nat.add_zero, Bool.false_eq_true, ↓reduceIte]
theorem k42 {M : qxM} {B i : Nat} {a b : Option Value} (hR : qREL M) (hT : qTab B M) (hB : B < 90000) (h6 : i + 6 ≤ L) (hL : L ≤ 3072) : qTurn L xs d 2546 i a b B M := by
  obtain ⟨b1, c1, b2, c2, b3, c3, b4, c4, b5, c5⟩ := qJ_of h6 hL
  have k1 := qx_m400.1
  have hq : qPair L xs (d + 40) 137 [some (.ref 10), some (.int (xs (i + 1)))] 307 [some (.ref 400), some (.int (xs (i + 1))), none] ke02 M := j137 (L := L) (xs := xs) (d := d) (M := M) hR (xs (i + 1))
  obtain ⟨k, x1, M1, M2, v, g0, g1, g2, g3, g4, g5, g6, g7⟩ := h373 (qPairG_ok hT hq)
  refine ⟨M2, some (.int (nI k)), some (.int v), x1, g1, g6, g7, fun x => ?_⟩
  by_cases hk : k = 0
  · subst hk
    have g8 := g5 rfl
    unfold qoI at g8
    simp only [s394_2546, s394_2547, s394_2548, s394_2550, s394_2551, s394_2552s, s394_2553, s394_2554, s394_2557i, s394_2559, s394_2560, s394_2561, s394_2563, s394_2564, s394_2565s, s394_2566, s394_2569i, s394_2571, s394_2572, s394_2575, s394_2577, s394_2582, s394_2584, s394_2587, s394_2588, s394_2589, s394_2590, s394_2592, s394_2593, s394_2594, s394_2599, s394_3746r, s394_3749, g2, g3, g4, g8, lgz, nI_add, b1, c1, b2, c2, b3, c3, b4, c4, b5, c5, qx_m10, qx_m2, k1, s177_0, s177_1, s177_4, qi_z0, eq_self, List.length_cons, List.length_nil, Nat.zero_le, Nat.reduceAdd, Nat.reduceLeDiff, Option.bind_some, qx_kn_v, qx_kn_n, Nat.add_zero, Bool.false_eq_true, ↓reduceIte]
  · have hk2 : (nI k = 0) = False := eq_false (nI_ne0 (by omega) (by omega))
    simp only [s394_2546, s394_2547, s394_2548, s394_2550, s394_2551, s394_2552s, s394_2553, s394_2554, s394_2557i, s394_2559, s394_2560, s394_2561, s394_2563, s394_2564, s394_2565s, s394_2566, s394_2569i, s394_2571, s394_2572, s394_2575, s394_2577, s394_2582, s394_2584, s394_2587, s394_2588, s394_2589, s394_2590, s394_2592, s394_2593, s394_2594, s394_2599, s394_3746r, s394_3749, g2, g3, g4, hk2, nI_add, b1, c1, b2, c2, b3, c3, b4, c4, b5, c5, qx_m10, qx_m2, k1, s177_0, s177_1, s177_4, qi_z0, eq_self, List.length_cons, List.length_nil, Nat.zero_le, Nat.reduceAdd, Nat.reduceLeDiff, Option.bind_some, qx_kn_v, qx_kn_n, Nat.add_zero, Bool.false_eq_true, ↓reduceIte]
theorem k43 {M : qxM} {B i : Nat} {a b : Option Value} (hR : qREL M) (hT : qTab B M) (hB : B < 90000) (h6 : i + 6 ≤ L) (hL : L ≤ 3072) : qTurn L xs d 2602 i a b B M := by
  obtain ⟨b1, c1, b2, c2, b3, c3, b4, c4, b5, c5⟩ := qJ_of h6 hL
  have k1 := qx_m400.1
  have hq : qPair L xs (d + 40) 138 [some (.ref 10), some (.int (xs (i + 1)))] 308 [some (.ref 400), some (.int (xs (i + 1)))] ke02 M := j138 (L := L) (xs := xs) (d := d) (M := M) hR (xs (i + 1))
  obtain ⟨k, x1, M1, M2, v, g0, g1, g2, g3, g4, g5, g6, g7⟩ := h374 (qPairG_ok hT hq)
  refine ⟨M2, some (.int (nI k)), some (.int v), x1, g1, g6, g7, fun x => ?_⟩
  by_cases hk : k = 0
  · subst hk
    have g8 := g5 rfl
    unfold qoI at g8
    simp only [s394_2602, s394_2603, s394_2604, s394_2606, s394_2607, s394_2608s, s394_2609, s394_2610, s394_2613i, s394_2615, s394_2616, s394_2617, s394_2619, s394_2620, s394_2621s, s394_2622, s394_2625i, s394_2627, s394_2628, s394_2631, s394_2633, s394_2638, s394_2640, s394_2643, s394_2644, s394_2645, s394_2646, s394_2648, s394_2649, s394_2650, s394_2655, s394_3746r, s394_3749, g2, g3, g4, g8, lgz, nI_add, b1, c1, b2, c2, b3, c3, b4, c4, b5, c5, qx_m10, qx_m2, k1, s177_0, s177_1, s177_4, qi_z0, eq_self, List.length_cons, List.length_nil, Nat.zero_le, Nat.reduceAdd, Nat.reduceLeDiff, Option.bind_some, qx_kn_v, qx_kn_n, Nat.add_zero, Bool.false_eq_true, ↓reduceIte]
  · have hk2 : (nI k = 0) = False := eq_false (nI_ne0 (by omega) (by omega))
    simp only [s394_2602, s394_2603, s394_2604, s394_2606, s394_2607, s394_2608s, s394_2609, s394_2610, s394_2613i, s394_2615, s394_2616, s394_2617, s394_2619, s394_2620, s394_2621s, s394_2622, s394_2625i, s394_2627, s394_2628, s394_2631, s394_2633, s394_2638, s394_2640, s394_2643, s394_2644, s394_2645, s394_2646, s394_2648, s394_2649, s394_2650, s394_2655, s394_3746r, s394_3749, g2, g3, g4, hk2, nI_add, b1, c1, b2, c2, b3, c3, b4, c4, b5, c5, qx_m10, qx_m2, k1, s177_0, s177_1, s177_4, qi_z0, eq_self, List.length_cons, List.length_nil, Nat.zero_le, Nat.reduceAdd, Nat.reduceLeDiff, Option.bind_some, qx_kn_v, qx_kn_n, Nat.add_zero, Bool.false_eq_true, ↓reduceIte]
theorem k44 {M : qxM} {B i : Nat} {a b : Option Value} (hR : qREL M) (hT : qTab B M) (hB : B < 90000) (h6 : i + 6 ≤ L) (hL : L ≤ 3072) : qTurn L xs d 2658 i a b B M := by
  obtain ⟨b1, c1, b2, c2, b3, c3, b4, c4, b5, c5⟩ := qJ_of h6 hL
  have k1 := qx_m400.1
  have hq : qPairG (fun v : qYd => Value.double v.1) B L xs (d + 40) 139 [some (.ref 10), none] 309 [some (.ref 400)] ke0 M := j139 (L := L) (xs := xs) (d := d) (M := M) hR hT hB 
  obtain ⟨k, x1, M1, M2, v, g0, g1, g2, g3, g4, g5, g6, g7⟩ := h375 hq
  refine ⟨M2, some (.int (nI k)), some (.double v.1), x1, g1, g6, g7, fun x => ?_⟩
  have g3 : Rs L xs (d + 41) 309 0 [some (.ref 400)] [] M1 0 = some (.inl (some (.double v.1)), M2, 0) := g3
  by_cases hk : k = 0
  · subst hk
    have g8 := g5 rfl
    unfold qoD at g8
    have hz : Op.cmpValue (FP.dcmp v.1 v.1) .l = 0 := v.2
    simp only [s394_2658, s394_2659, s394_2661, s394_2664i, s394_2666, s394_2667, s394_2670, s394_2672, s394_2673, s394_2676, s394_2678, s394_2683, s394_2685, s394_2688, s394_2690, s394_2691, s394_2692, s394_2694, s394_2695, s394_2720, s394_3746r, s394_3749, g2, g3, g4, g8, hz, nI_add, b1, c1, b2, c2, b3, c3, b4, c4, b5, c5, qx_m10, qx_m2, k1, s177_0, s177_1, s177_4, qi_z0, eq_self, List.length_cons, List.length_nil, Nat.zero_le, Nat.reduceAdd, Nat.reduceLeDiff, Option.bind_some, qx_kn_v, qx_kn_n, Nat.add_zero, Bool.false_eq_true, ↓reduceIte]
  · have hk2 : (nI k = 0) = False := eq_false (nI_ne0 (by omega) (by omega))
    simp only [s394_2658, s394_2659, s394_2661, s394_2664i, s394_2666, s394_2667, s394_2670, s394_2672, s394_2673, s394_2676, s394_2678, s394_2683, s394_2685, s394_2688, s394_2690, s394_2691, s394_2692, s394_2694, s394_2695, s394_2720, s394_3746r, s394_3749, g2, g3, g4, hk2, nI_add, b1, c1, b2, c2, b3, c3, b4, c4, b5, c5, qx_m10, qx_m2, k1, s177_0, s177_1, s177_4, qi_z0, eq_self, List.length_cons, List.length_nil, Nat.zero_le, Nat.reduceAdd, Nat.reduceLeDiff, Option.bind_some, qx_kn_v, qx_kn_n, Nat.add_zero, Bool.false_eq_true, ↓reduceIte]
theorem k45 {M : qxM} {B i : Nat} {a b : Option Value} (hR : qREL M) (hT : qTab B M) (hB : B < 90000) (h6 : i + 6 ≤ L) (hL : L ≤ 3072) : qTurn L xs d 2723 i a b B M := by
  obtain ⟨b1, c1, b2, c2, b3, c3, b4, c4, b5, c5⟩ := qJ_of h6 hL
  have k1 := qx_m400.1
  have hq : qPairG (fun v : qYf => Value.float v.1) B L xs (d + 40) 140 [some (.ref 10), none] 310 [some (.ref 400)] ke0 M := j140 (L := L) (xs := xs) (d := d) (M := M) hR hT hB 
  obtain ⟨k, x1, M1, M2, v, g0, g1, g2, g3, g4, g5, g6, g7⟩ := h376 hq
  refine ⟨M2, some (.int (nI k)), some (.float v.1), x1, g1, g6, g7, fun x => ?_⟩
  have g3 : Rs L xs (d + 41) 310 0 [some (.ref 400)] [] M1 0 = some (.inl (some (.float v.1)), M2, 0) := g3
  by_cases hk : k = 0
  · subst hk
    have g8 := g5 rfl
    unfold qoF at g8
    obtain ⟨hf, hz⟩ := v.2
    simp only [s394_2723, s394_2724, s394_2726, s394_2729i, s394_2731, s394_2732, s394_2735i, s394_2737, s394_2738, s394_2741, s394_2743, s394_2748, s394_2750, s394_2753, s394_2755, s394_2756, s394_2757, s394_2759, s394_2760, s394_2761, s394_2786, s394_3746r, s394_3749, g2, g3, g4, g8, hf, hz, nI_add, b1, c1, b2, c2, b3, c3, b4, c4, b5, c5, qx_m10, qx_m2, k1, s177_0, s177_1, s177_4, qi_z0, eq_self, List.length_cons, List.length_nil, Nat.zero_le, Nat.reduceAdd, Nat.reduceLeDiff, Option.bind_some, qx_kn_v, qx_kn_n, Nat.add_zero, Bool.false_eq_true, ↓reduceIte]
  · have hk2 : (nI k = 0) = False := eq_false (nI_ne0 (by omega) (by omega))
    simp only [s394_2723, s394_2724, s394_2726, s394_2729i, s394_2731, s394_2732, s394_2735i, s394_2737, s394_2738, s394_2741, s394_2743, s394_2748, s394_2750, s394_2753, s394_2755, s394_2756, s394_2757, s394_2759, s394_2760, s394_2761, s394_2786, s394_3746r, s394_3749, g2, g3, g4, hk2, nI_add, b1, c1, b2, c2, b3, c3, b4, c4, b5, c5, qx_m10, qx_m2, k1, s177_0, s177_1, s177_4, qi_z0, eq_self, List.length_cons, List.length_nil, Nat.zero_le, Nat.reduceAdd, Nat.reduceLeDiff, Option.bind_some, qx_kn_v, qx_kn_n, Nat.add_zero, Bool.false_eq_true, ↓reduceIte]
theorem k46 {M : qxM} {B i : Nat} {a b : Option Value} (hR : qREL M) (hT : qTab B M) (hB : B < 90000) (h6 : i + 6 ≤ L) (hL : L ≤ 3072) : qTurn L xs d 2789 i a b B M := by
  obtain ⟨b1, c1, b2, c2, b3, c3, b4, c4, b5, c5⟩ := qJ_of h6 hL
  have k1 := qx_m400.1
  have hq : qPair L xs (d + 40) 141 [some (.ref 10), none, none] 313 [some (.ref 400), none] ke0 M := j141 (L := L) (xs := xs) (d := d) (M := M) hR 
  obtain ⟨k, x1, M1, M2, v, g0, g1, g2, g3, g4, g5, g6, g7⟩ := h377 (qPairG_ok hT hq)
  refine ⟨M2, some (.int (nI k)), some (.int v), x1, g1, g6, g7, fun x => ?_⟩
  by_cases hk : k = 0
  · subst hk
    have g8 := g5 rfl
    unfold qoI at g8
    simp only [s394_2789, s394_2790, s394_2791, s394_2794i, s394_2796, s394_2797, s394_2800i, s394_2802, s394_2803, s394_2806, s394_2808, s394_2813, s394_2815, s394_2818, s394_2819, s394_2820, s394_2821, s394_2823, s394_2824, s394_2825, s394_2830, s394_3746r, s394_3749, g2, g3, g4, g8, lgz, nI_add, b1, c1, b2, c2, b3, c3, b4, c4, b5, c5, qx_m10, qx_m2, k1, s177_0, s177_1, s177_4, qi_z0, eq_self, List.length_cons, List.length_nil, Nat.zero_le, Nat.reduceAdd, Nat.reduceLeDiff, Option.bind_some, qx_kn_v, qx_kn_n, Nat.add_zero, Bool.false_eq_true, ↓reduceIte]
  · have hk2 : (nI k = 0) = False := eq_false (nI_ne0 (by omega) (by omega))
    simp only [s394_2789, s394_2790, s394_2791, s394_2794i, s394_2796, s394_2797, s394_2800i, s394_2802, s394_2803, s394_2806, s394_2808, s394_2813, s394_2815, s394_2818, s394_2819, s394_2820, s394_2821, s394_2823, s394_2824, s394_2825, s394_2830, s394_3746r, s394_3749, g2, g3, g4, hk2, nI_add, b1, c1, b2, c2, b3, c3, b4, c4, b5, c5, qx_m10, qx_m2, k1, s177_0, s177_1, s177_4, qi_z0, eq_self, List.length_cons, List.length_nil, Nat.zero_le, Nat.reduceAdd, Nat.reduceLeDiff, Option.bind_some, qx_kn_v, qx_kn_n, Nat.add_zero, Bool.false_eq_true, ↓reduceIte]
theorem k47 {M : qxM} {B i : Nat} {a b : Option Value} (hR : qREL M) (hT : qTab B M) (hB : B < 90000) (h6 : i + 6 ≤ L) (hL : L ≤ 3072) : qTurn L xs d 2833 i a b B M := by
  obtain ⟨b1, c1, b2, c2, b3, c3, b4, c4, b5, c5⟩ := qJ_of h6 hL
  have k1 := qx_m400.1
  have hq : qPair L xs (d + 40) 142 [some (.ref 10), none, none, none] 315 [some (.ref 400), none, none] ke0 M := j142 (L := L) (xs := xs) (d := d) (M := M) hR 
  obtain ⟨k, x1, M1, M2, v, g0, g1, g2, g3, g4, g5, g6, g7⟩ := h378 (qPairG_ok hT hq)
  refine ⟨M2, some (.int (nI k)), some (.int v), x1, g1, g6, g7, fun x => ?_⟩
  by_cases hk : k = 0
  · subst hk
    have g8 := g5 rfl
    unfold qoI at g8
    simp only [s394_2833, s394_2834, s394_2835, s394_2838i, s394_2840, s394_2841, s394_2844i, s394_2846, s394_2847, s394_2850, s394_2852, s394_2857, s394_2859, s394_2862, s394_2863, s394_2864, s394_2865, s394_2867, s394_2868, s394_2869, s394_2874, s394_3746r, s394_3749, g2, g3, g4, g8, lgz, nI_add, b1, c1, b2, c2, b3, c3, b4, c4, b5, c5, qx_m10, qx_m2, k1, s177_0, s177_1, s177_4, qi_z0, eq_self, List.length_cons, List.length_nil, Nat.zero_le, Nat.reduceAdd, Nat.reduceLeDiff, Option.bind_some, qx_kn_v, qx_kn_n, Nat.add_zero, Bool.false_eq_true, ↓reduceIte]
  · have hk2 : (nI k = 0) = False := eq_false (nI_ne0 (by omega) (by omega))
    simp only [s394_2833, s394_2834, s394_2835, s394_2838i, s394_2840, s394_2841, s394_2844i, s394_2846, s394_2847, s394_2850, s394_2852, s394_2857, s394_2859, s394_2862, s394_2863, s394_2864, s394_2865, s394_2867, s394_2868, s394_2869, s394_2874, s394_3746r, s394_3749, g2, g3, g4, hk2, nI_add, b1, c1, b2, c2, b3, c3, b4, c4, b5, c5, qx_m10, qx_m2, k1, s177_0, s177_1, s177_4, qi_z0, eq_self, List.length_cons, List.length_nil, Nat.zero_le, Nat.reduceAdd, Nat.reduceLeDiff, Option.bind_some, qx_kn_v, qx_kn_n, Nat.add_zero, Bool.false_eq_true, ↓reduceIte]
end QC
