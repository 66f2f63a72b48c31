/-! The law's turn. -/
section QC
variable {L : Nat} {xs : Nat → Int32} {d : Nat}
theorem k48 {M : qxM} {B i : Nat} {a b : Option Value} (hR : qREL M) (hT : qTab B M) (hB : B < 90000) (h6 : i + 6 ≤ L) (hL : L ≤ 3072) : qTurn L xs d 2877 i a b B M := by
  obtain ⟨b1, c1, b2, c2, b3, c3, b4, c4, b5, c5⟩ := qJ_of h6 hL
  have k1 := qx_m400.1
  have hq : qPair L xs (d + 40) 143 [some (.ref 10), some (.int (xs (i + 1))), none, none] 316 [some (.ref 400), some (.int (xs (i + 1))), none] ke02 M := j143 (L := L) (xs := xs) (d := d) (M := M) hR (xs (i + 1))
  obtain ⟨k, x1, M1, M2, v, g0, g1, g2, g3, g4, g5, g6, g7⟩ := h379 (qPairG_ok hT hq)
  refine ⟨M2, some (.int (nI k)), some (.int v), x1, g1, g6, g7, fun x => ?_⟩
  by_cases hk : k = 0
  · subst hk
    have g8 := g5 rfl
    unfold qoI at g8
    simp only [s394_2877, s394_2878, s394_2879, s394_2881, s394_2882, s394_2883s, s394_2884, s394_2885, s394_2888i, s394_2890, s394_2891, s394_2892, s394_2894, s394_2895, s394_2896s, s394_2897, s394_2900i, s394_2902, s394_2903, s394_2906, s394_2908, s394_2913, s394_2915, s394_2918, s394_2919, s394_2920, s394_2921, s394_2923, s394_2924, s394_2925, s394_2930, s394_3746r, s394_3749, g2, g3, g4, g8, lgz, nI_add, b1, c1, b2, c2, b3, c3, b4, c4, b5, c5, qx_m10, qx_m2, k1, s177_0, s177_1, s177_4, qi_z0, eq_self, List.length_cons, List.length_nil, Nat.zero_le, Nat.reduceAdd, Nat.reduceLeDiff, Option.bind_some, qx_kn_v, qx_kn_n, Nat.add_zero, Bool.false_eq_true, ↓reduceIte]
  · have hk2 : (nI k = 0) = False := eq_false (nI_ne0 (by omega) (by omega))
    simp only [s394_2877, s394_2878, s394_2879, s394_2881, s394_2882, s394_2883s, s394_2884, s394_2885, s394_2888i, s394_2890, s394_2891, s394_2892, s394_2894, s394_2895, s394_2896s, s394_2897, s394_2900i, s394_2902, s394_2903, s394_2906, s394_2908, s394_2913, s394_2915, s394_2918, s394_2919, s394_2920, s394_2921, s394_2923, s394_2924, s394_2925, s394_2930, s394_3746r, s394_3749, g2, g3, g4, hk2, nI_add, b1, c1, b2, c2, b3, c3, b4, c4, b5, c5, qx_m10, qx_m2, k1, s177_0, s177_1, s177_4, qi_z0, eq_self, List.length_cons, List.length_nil, Nat.zero_le, Nat.reduceAdd, Nat.reduceLeDiff, Option.bind_some, qx_kn_v, qx_kn_n, Nat.add_zero, Bool.false_eq_true, ↓reduceIte]
theorem k49 {M : qxM} {B i : Nat} {a b : Option Value} (hR : qREL M) (hT : qTab B M) (hB : B < 90000) (h6 : i + 6 ≤ L) (hL : L ≤ 3072) : qTurn L xs d 2933 i a b B M := by
  obtain ⟨b1, c1, b2, c2, b3, c3, b4, c4, b5, c5⟩ := qJ_of h6 hL
  have k1 := qx_m400.1
  have hq : qPair L xs (d + 40) 144 [some (.ref 10), some (.int (xs (i + 1)))] 317 [some (.ref 400), some (.int (xs (i + 1)))] ke2 M := j144 (L := L) (xs := xs) (d := d) (M := M) hR (xs (i + 1))
  obtain ⟨k, x1, M1, M2, v, g0, g1, g2, g3, g4, g5, g6, g7⟩ := h380 (qPairG_ok hT hq)
  refine ⟨M2, some (.int (nI k)), some (.int v), x1, g1, g6, g7, fun x => ?_⟩
  by_cases hk : k = 0
  · subst hk
    have g8 := g5 rfl
    unfold qoI at g8
    simp only [s394_2933, s394_2934, s394_2935, s394_2937, s394_2938, s394_2939s, s394_2940, s394_2941, s394_2944i, s394_2946, s394_2947, s394_2948, s394_2950, s394_2951, s394_2952s, s394_2953, s394_2956i, s394_2958, s394_2959, s394_2962, s394_2964, s394_2969, s394_2971, s394_2974, s394_2975, s394_2976, s394_2977, s394_2979, s394_2980, s394_2981, s394_2986, s394_3746r, s394_3749, g2, g3, g4, g8, lgz, nI_add, b1, c1, b2, c2, b3, c3, b4, c4, b5, c5, qx_m10, qx_m2, k1, s177_0, s177_1, s177_4, qi_z0, eq_self, List.length_cons, List.length_nil, Nat.zero_le, Nat.reduceAdd, Nat.reduceLeDiff, Option.bind_some, qx_kn_v, qx_kn_n, Nat.add_zero, Bool.false_eq_true, ↓reduceIte]
  · have hk2 : (nI k = 0) = False := eq_false (nI_ne0 (by omega) (by omega))
    simp only [s394_2933, s394_2934, s394_2935, s394_2937, s394_2938, s394_2939s, s394_2940, s394_2941, s394_2944i, s394_2946, s394_2947, s394_2948, s394_2950, s394_2951, s394_2952s, s394_2953, s394_2956i, s394_2958, s394_2959, s394_2962, s394_2964, s394_2969, s394_2971, s394_2974, s394_2975, s394_2976, s394_2977, s394_2979, s394_2980, s394_2981, s394_2986, s394_3746r, s394_3749, g2, g3, g4, hk2, nI_add, b1, c1, b2, c2, b3, c3, b4, c4, b5, c5, qx_m10, qx_m2, k1, s177_0, s177_1, s177_4, qi_z0, eq_self, List.length_cons, List.length_nil, Nat.zero_le, Nat.reduceAdd, Nat.reduceLeDiff, Option.bind_some, qx_kn_v, qx_kn_n, Nat.add_zero, Bool.false_eq_true, ↓reduceIte]
theorem k50 {M : qxM} {B i : Nat} {a b : Option Value} (hR : qREL M) (hT : qTab B M) (hB : B < 90000) (h6 : i + 6 ≤ L) (hL : L ≤ 3072) : qTurn L xs d 2989 i a b B M := by
  obtain ⟨b1, c1, b2, c2, b3, c3, b4, c4, b5, c5⟩ := qJ_of h6 hL
  have k1 := qx_m400.1
  have hq : qPair L xs (d + 40) 145 [some (.ref 10), some (.int (xs (i + 1)))] 320 [some (.ref 400), some (.int (xs (i + 1))), none] ke021 M := j145 (L := L) (xs := xs) (d := d) (M := M) hR (xs (i + 1))
  obtain ⟨k, x1, M1, M2, v, g0, g1, g2, g3, g4, g5, g6, g7⟩ := h381 (qPairG_ok hT hq)
  refine ⟨M2, some (.int (nI k)), some (.int v), x1, g1, g6, g7, fun x => ?_⟩
  by_cases hk : k = 0
  · subst hk
    have g8 := g5 rfl
    unfold qoI at g8
    simp only [s394_2989, s394_2990, s394_2991, s394_2993, s394_2994, s394_2995s, s394_2996, s394_2997, s394_3000i, s394_3002, s394_3003, s394_3004, s394_3006, s394_3007, s394_3008s, s394_3009, s394_3012i, s394_3014, s394_3015, s394_3018, s394_3020, s394_3025, s394_3027, s394_3030, s394_3031, s394_3032, s394_3033, s394_3035, s394_3036, s394_3037, s394_3042, s394_3746r, s394_3749, g2, g3, g4, g8, lgz, nI_add, b1, c1, b2, c2, b3, c3, b4, c4, b5, c5, qx_m10, qx_m2, k1, s177_0, s177_1, s177_4, qi_z0, eq_self, List.length_cons, List.length_nil, Nat.zero_le, Nat.reduceAdd, Nat.reduceLeDiff, Option.bind_some, qx_kn_v, qx_kn_n, Nat.add_zero, Bool.false_eq_true, ↓reduceIte]
  · have hk2 : (nI k = 0) = False := eq_false (nI_ne0 (by omega) (by omega))
    simp only [s394_2989, s394_2990, s394_2991, s394_2993, s394_2994, s394_2995s, s394_2996, s394_2997, s394_3000i, s394_3002, s394_3003, s394_3004, s394_3006, s394_3007, s394_3008s, s394_3009, s394_3012i, s394_3014, s394_3015, s394_3018, s394_3020, s394_3025, s394_3027, s394_3030, s394_3031, s394_3032, s394_3033, s394_3035, s394_3036, s394_3037, s394_3042, s394_3746r, s394_3749, g2, g3, g4, hk2, nI_add, b1, c1, b2, c2, b3, c3, b4, c4, b5, c5, qx_m10, qx_m2, k1, s177_0, s177_1, s177_4, qi_z0, eq_self, List.length_cons, List.length_nil, Nat.zero_le, Nat.reduceAdd, Nat.reduceLeDiff, Option.bind_some, qx_kn_v, qx_kn_n, Nat.add_zero, Bool.false_eq_true, ↓reduceIte]
theorem k51 {M : qxM} {B i : Nat} {a b : Option Value} (hR : qREL M) (hT : qTab B M) (hB : B < 90000) (h6 : i + 6 ≤ L) (hL : L ≤ 3072) : qTurn L xs d 3045 i a b B M := by
  obtain ⟨b1, c1, b2, c2, b3, c3, b4, c4, b5, c5⟩ := qJ_of h6 hL
  have k1 := qx_m400.1
  have hq : qPair L xs (d + 40) 146 [some (.ref 10)] 321 [some (.ref 400)] ke01 M := j146 (L := L) (xs := xs) (d := d) (M := M) hR 
  obtain ⟨k, x1, M1, M2, v, g0, g1, g2, g3, g4, g5, g6, g7⟩ := h382 (qPairG_ok hT hq)
  refine ⟨M2, some (.int (nI k)), some (.int v), x1, g1, g6, g7, fun x => ?_⟩
  by_cases hk : k = 0
  · subst hk
    have g8 := g5 rfl
    unfold qoI at g8
    simp only [s394_3045, s394_3046, s394_3047, s394_3050i, s394_3052, s394_3053, s394_3056i, s394_3058, s394_3059, s394_3062, s394_3064, s394_3069, s394_3071, s394_3074, s394_3075, s394_3076, s394_3077, s394_3079, s394_3080, s394_3081, s394_3086, s394_3746r, s394_3749, g2, g3, g4, g8, lgz, nI_add, b1, c1, b2, c2, b3, c3, b4, c4, b5, c5, qx_m10, qx_m2, k1, s177_0, s177_1, s177_4, qi_z0, eq_self, List.length_cons, List.length_nil, Nat.zero_le, Nat.reduceAdd, Nat.reduceLeDiff, Option.bind_some, qx_kn_v, qx_kn_n, Nat.add_zero, Bool.false_eq_true, ↓reduceIte]
  · have hk2 : (nI k = 0) = False := eq_false (nI_ne0 (by omega) (by omega))
    simp only [s394_3045, s394_3046, s394_3047, s394_3050i, s394_3052, s394_3053, s394_3056i, s394_3058, s394_3059, s394_3062, s394_3064, s394_3069, s394_3071, s394_3074, s394_3075, s394_3076, s394_3077, s394_3079, s394_3080, s394_3081, s394_3086, s394_3746r, s394_3749, g2, g3, g4, hk2, nI_add, b1, c1, b2, c2, b3, c3, b4, c4, b5, c5, qx_m10, qx_m2, k1, s177_0, s177_1, s177_4, qi_z0, eq_self, List.length_cons, List.length_nil, Nat.zero_le, Nat.reduceAdd, Nat.reduceLeDiff, Option.bind_some, qx_kn_v, qx_kn_n, Nat.add_zero, Bool.false_eq_true, ↓reduceIte]
theorem k52 {M : qxM} {B i : Nat} {a b : Option Value} (hR : qREL M) (hT : qTab B M) (hB : B < 90000) (h6 : i + 6 ≤ L) (hL : L ≤ 3072) : qTurn L xs d 3089 i a b B M := by
  obtain ⟨b1, c1, b2, c2, b3, c3, b4, c4, b5, c5⟩ := qJ_of h6 hL
  have k1 := qx_m400.1
  have hq : qPair L xs (d + 40) 147 [some (.ref 10)] 322 [some (.ref 400)] ke01 M := j147 (L := L) (xs := xs) (d := d) (M := M) hR 
  obtain ⟨k, x1, M1, M2, v, g0, g1, g2, g3, g4, g5, g6, g7⟩ := h383 (qPairG_ok hT hq)
  refine ⟨M2, some (.int (nI k)), some (.int v), x1, g1, g6, g7, fun x => ?_⟩
  by_cases hk : k = 0
  · subst hk
    have g8 := g5 rfl
    unfold qoI at g8
    simp only [s394_3089, s394_3090, s394_3091, s394_3094i, s394_3096, s394_3097, s394_3100i, s394_3102, s394_3103, s394_3106, s394_3108, s394_3113, s394_3115, s394_3118, s394_3119, s394_3120, s394_3121, s394_3123, s394_3124, s394_3125, s394_3130, s394_3746r, s394_3749, g2, g3, g4, g8, lgz, nI_add, b1, c1, b2, c2, b3, c3, b4, c4, b5, c5, qx_m10, qx_m2, k1, s177_0, s177_1, s177_4, qi_z0, eq_self, List.length_cons, List.length_nil, Nat.zero_le, Nat.reduceAdd, Nat.reduceLeDiff, Option.bind_some, qx_kn_v, qx_kn_n, Nat.add_zero, Bool.false_eq_true, ↓reduceIte]
  · have hk2 : (nI k = 0) = False := eq_false (nI_ne0 (by omega) (by omega))
    simp only [s394_3089, s394_3090, s394_3091, s394_3094i, s394_3096, s394_3097, s394_3100i, s394_3102, s394_3103, s394_3106, s394_3108, s394_3113, s394_3115, s394_3118, s394_3119, s394_3120, s394_3121, s394_3123, s394_3124, s394_3125, s394_3130, s394_3746r, s394_3749, g2, g3, g4, hk2, nI_add, b1, c1, b2, c2, b3, c3, b4, c4, b5, c5, qx_m10, qx_m2, k1, s177_0, s177_1, s177_4, qi_z0, eq_self, List.length_cons, List.length_nil, Nat.zero_le, Nat.reduceAdd, Nat.reduceLeDiff, Option.bind_some, qx_kn_v, qx_kn_n, Nat.add_zero, Bool.false_eq_true, ↓reduceIte]
theorem k53 {M : qxM} {B i : Nat} {a b : Option Value} (hR : qREL M) (hT : qTab B M) (hB : B < 90000) (h6 : i + 6 ≤ L) (hL : L ≤ 3072) : qTurn L xs d 3133 i a b B M := by
  obtain ⟨b1, c1, b2, c2, b3, c3, b4, c4, b5, c5⟩ := qJ_of h6 hL
  have k1 := qx_m400.1
  have hq : qPair L xs (d + 40) 148 [some (.ref 10), none] 323 [some (.ref 400), none, none, none] ke0 M := j148 (L := L) (xs := xs) (d := d) (M := M) hR 
  obtain ⟨k, x1, M1, M2, v, g0, g1, g2, g3, g4, g5, g6, g7⟩ := h384 (qPairG_ok hT hq)
  refine ⟨M2, some (.int (nI k)), some (.int v), x1, g1, g6, g7, fun x => ?_⟩
  by_cases hk : k = 0
  · subst hk
    have g8 := g5 rfl
    unfold qoI at g8
    simp only [s394_3133, s394_3134, s394_3135, s394_3138i, s394_3140, s394_3141, s394_3144i, s394_3146, s394_3147, s394_3150, s394_3152, s394_3157, s394_3159, s394_3162, s394_3163, s394_3164, s394_3165, s394_3167, s394_3168, s394_3169, s394_3174, s394_3746r, s394_3749, g2, g3, g4, g8, lgz, nI_add, b1, c1, b2, c2, b3, c3, b4, c4, b5, c5, qx_m10, qx_m2, k1, s177_0, s177_1, s177_4, qi_z0, eq_self, List.length_cons, List.length_nil, Nat.zero_le, Nat.reduceAdd, Nat.reduceLeDiff, Option.bind_some, qx_kn_v, qx_kn_n, Nat.add_zero, Bool.false_eq_true, ↓reduceIte]
  · have hk2 : (nI k = 0) = False := eq_false (nI_ne0 (by omega) (by omega))
    simp only [s394_3133, s394_3134, s394_3135, s394_3138i, s394_3140, s394_3141, s394_3144i, s394_3146, s394_3147, s394_3150, s394_3152, s394_3157, s394_3159, s394_3162, s394_3163, s394_3164, s394_3165, s394_3167, s394_3168, s394_3169, s394_3174, s394_3746r, s394_3749, g2, g3, g4, hk2, nI_add, b1, c1, b2, c2, b3, c3, b4, c4, b5, c5, qx_m10, qx_m2, k1, s177_0, s177_1, s177_4, qi_z0, eq_self, List.length_cons, List.length_nil, Nat.zero_le, Nat.reduceAdd, Nat.reduceLeDiff, Option.bind_some, qx_kn_v, qx_kn_n, Nat.add_zero, Bool.false_eq_true, ↓reduceIte]
theorem k54 {M : qxM} {B i : Nat} {a b : Option Value} (hR : qREL M) (hT : qTab B M) (hB : B < 90000) (h6 : i + 6 ≤ L) (hL : L ≤ 3072) : qTurn L xs d 3177 i a b B M := by
  obtain ⟨b1, c1, b2, c2, b3, c3, b4, c4, b5, c5⟩ := qJ_of h6 hL
  have k1 := qx_m400.1
  have hq : qPair L xs (d + 40) 149 [some (.ref 10), some (.int (xs (i + 1))), some (.int (xs (i + 2)))] 324 [some (.ref 400), some (.int (xs (i + 1))), some (.int (xs (i + 2))), none] ke021 M := j149 (L := L) (xs := xs) (d := d) (M := M) hR (xs (i + 1)) (xs (i + 2))
  obtain ⟨k, x1, M1, M2, v, g0, g1, g2, g3, g4, g5, g6, g7⟩ := h385 (qPairG_ok hT hq)
  refine ⟨M2, some (.int (nI k)), some (.int v), x1, g1, g6, g7, fun x => ?_⟩
  by_cases hk : k = 0
  · subst hk
    have g8 := g5 rfl
    unfold qoI at g8
    simp only [s394_3177, s394_3178, s394_3179, s394_3181, s394_3182, s394_3183s, s394_3184, s394_3185, s394_3187, s394_3188, s394_3189s, s394_3190, s394_3191, s394_3194i, s394_3196, s394_3197, s394_3198, s394_3200, s394_3201, s394_3202s, s394_3203, s394_3204, s394_3206, s394_3207, s394_3208s, s394_3209, s394_3212i, s394_3214, s394_3215, s394_3218, s394_3220, s394_3225, s394_3227, s394_3230, s394_3231, s394_3232, s394_3233, s394_3235, s394_3236, s394_3237, s394_3242, s394_3746r, s394_3749, g2, g3, g4, g8, lgz, nI_add, b1, c1, b2, c2, b3, c3, b4, c4, b5, c5, qx_m10, qx_m2, k1, s177_0, s177_1, s177_4, qi_z0, eq_self, List.length_cons, List.length_nil, Nat.zero_le, Nat.reduceAdd, Nat.reduceLeDiff, Option.bind_some, qx_kn_v, qx_kn_n, Nat.add_zero, Bool.false_eq_true, ↓reduceIte]
  · have hk2 : (nI k = 0) = False := eq_false (nI_ne0 (by omega) (by omega))
    simp only [s394_3177, s394_3178, s394_3179, s394_3181, s394_3182, s394_3183s, s394_3184, s394_3185, s394_3187, s394_3188, s394_3189s, s394_3190, s394_3191, s394_3194i, s394_3196, s394_3197, s394_3198, s394_3200, s394_3201, s394_3202s, s394_3203, s394_3204, s394_3206, s394_3207, s394_3208s, s394_3209, s394_3212i, s394_3214, s394_3215, s394_3218, s394_3220, s394_3225, s394_3227, s394_3230, s394_3231, s394_3232, s394_3233, s394_3235, s394_3236, s394_3237, s394_3242, s394_3746r, s394_3749, g2, g3, g4, hk2, nI_add, b1, c1, b2, c2, b3, c3, b4, c4, b5, c5, qx_m10, qx_m2, k1, s177_0, s177_1, s177_4, qi_z0, eq_self, List.length_cons, List.length_nil, Nat.zero_le, Nat.reduceAdd, Nat.reduceLeDiff, Option.bind_some, qx_kn_v, qx_kn_n, Nat.add_zero, Bool.false_eq_true, ↓reduceIte]
theorem k55 {M : qxM} {B i : Nat} {a b : Option Value} (hR : qREL M) (hT : qTab B M) (hB : B < 90000) (h6 : i + 6 ≤ L) (hL : L ≤ 3072) : qTurn L xs d 3245 i a b B M := by
  obtain ⟨b1, c1, b2, c2, b3, c3, b4, c4, b5, c5⟩ := qJ_of h6 hL
  have k1 := qx_m400.1
  have hq : qPair L xs (d + 40) 150 [some (.ref 10), some (.int (xs (i + 1))), none] 326 [some (.ref 400), some (.int (xs (i + 1))), none, none] ke021 M := j150 (L := L) (xs := xs) (d := d) (M := M) hR (xs (i + 1))
  obtain ⟨k, x1, M1, M2, v, g0, g1, g2, g3, g4, g5, g6, g7⟩ := h386 (qPairG_ok hT hq)
  refine ⟨M2, some (.int (nI k)), some (.int v), x1, g1, g6, g7, fun x => ?_⟩
  by_cases hk : k = 0
  · subst hk
    have g8 := g5 rfl
    unfold qoI at g8
    simp only [s394_3245, s394_3246, s394_3247, s394_3249, s394_3250, s394_3251s, s394_3252, s394_3253, s394_3256i, s394_3258, s394_3259, s394_3260, s394_3262, s394_3263, s394_3264s, s394_3265, s394_3268i, s394_3270, s394_3271, s394_3274, s394_3276, s394_3281, s394_3283, s394_3286, s394_3287, s394_3288, s394_3289, s394_3291, s394_3292, s394_3293, s394_3298, s394_3746r, s394_3749, g2, g3, g4, g8, lgz, nI_add, b1, c1, b2, c2, b3, c3, b4, c4, b5, c5, qx_m10, qx_m2, k1, s177_0, s177_1, s177_4, qi_z0, eq_self, List.length_cons, List.length_nil, Nat.zero_le, Nat.reduceAdd, Nat.reduceLeDiff, Option.bind_some, qx_kn_v, qx_kn_n, Nat.add_zero, Bool.false_eq_true, ↓reduceIte]
  · have hk2 : (nI k = 0) = False := eq_false (nI_ne0 (by omega) (by omega))
    simp only [s394_3245, s394_3246, s394_3247, s394_3249, s394_3250, s394_3251s, s394_3252, s394_3253, s394_3256i, s394_3258, s394_3259, s394_3260, s394_3262, s394_3263, s394_3264s, s394_3265, s394_3268i, s394_3270, s394_3271, s394_3274, s394_3276, s394_3281, s394_3283, s394_3286, s394_3287, s394_3288, s394_3289, s394_3291, s394_3292, s394_3293, s394_3298, s394_3746r, s394_3749, g2, g3, g4, hk2, nI_add, b1, c1, b2, c2, b3, c3, b4, c4, b5, c5, qx_m10, qx_m2, k1, s177_0, s177_1, s177_4, qi_z0, eq_self, List.length_cons, List.length_nil, Nat.zero_le, Nat.reduceAdd, Nat.reduceLeDiff, Option.bind_some, qx_kn_v, qx_kn_n, Nat.add_zero, Bool.false_eq_true, ↓reduceIte]
theorem k56 {M : qxM} {B i : Nat} {a b : Option Value} (hR : qREL M) (hT : qTab B M) (hB : B < 90000) (h6 : i + 6 ≤ L) (hL : L ≤ 3072) : qTurn L xs d 3301 i a b B M := by
  obtain ⟨b1, c1, b2, c2, b3, c3, b4, c4, b5, c5⟩ := qJ_of h6 hL
  have k1 := qx_m400.1
  have hq : qPair L xs (d + 40) 151 [some (.ref 10), some (.int (xs (i + 1)))] 325 [some (.ref 400), some (.int (xs (i + 1))), none, none, none] ke021 M := j151 (L := L) (xs := xs) (d := d) (M := M) hR (xs (i + 1))
  obtain ⟨k, x1, M1, M2, v, g0, g1, g2, g3, g4, g5, g6, g7⟩ := h387 (qPairG_ok hT hq)
  refine ⟨M2, some (.int (nI k)), some (.int v), x1, g1, g6, g7, fun x => ?_⟩
  by_cases hk : k = 0
  · subst hk
    have g8 := g5 rfl
    unfold qoI at g8
    simp only [s394_3301, s394_3302, s394_3303, s394_3305, s394_3306, s394_3307s, s394_3308, s394_3309, s394_3312i, s394_3314, s394_3315, s394_3316, s394_3318, s394_3319, s394_3320s, s394_3321, s394_3324i, s394_3326, s394_3327, s394_3330, s394_3332, s394_3337, s394_3339, s394_3342, s394_3343, s394_3344, s394_3345, s394_3347, s394_3348, s394_3349, s394_3354, s394_3746r, s394_3749, g2, g3, g4, g8, lgz, nI_add, b1, c1, b2, c2, b3, c3, b4, c4, b5, c5, qx_m10, qx_m2, k1, s177_0, s177_1, s177_4, qi_z0, eq_self, List.length_cons, List.length_nil, Nat.zero_le, Nat.reduceAdd, Nat.reduceLeDiff, Option.bind_some, qx_kn_v, qx_kn_n, Nat.add_zero, Bool.false_eq_true, ↓reduceIte]
  · have hk2 : (nI k = 0) = False := eq_false (nI_ne0 (by omega) (by omega))
    simp only [s394_3301, s394_3302, s394_3303, s394_3305, s394_3306, s394_3307s, s394_3308, s394_3309, s394_3312i, s394_3314, s394_3315, s394_3316, s394_3318, s394_3319, s394_3320s, s394_3321, s394_3324i, s394_3326, s394_3327, s394_3330, s394_3332, s394_3337, s394_3339, s394_3342, s394_3343, s394_3344, s394_3345, s394_3347, s394_3348, s394_3349, s394_3354, s394_3746r, s394_3749, g2, g3, g4, hk2, nI_add, b1, c1, b2, c2, b3, c3, b4, c4, b5, c5, qx_m10, qx_m2, k1, s177_0, s177_1, s177_4, qi_z0, eq_self, List.length_cons, List.length_nil, Nat.zero_le, Nat.reduceAdd, Nat.reduceLeDiff, Option.bind_some, qx_kn_v, qx_kn_n, Nat.add_zero, Bool.false_eq_true, ↓reduceIte]
theorem k57 {M : qxM} {B i : Nat} {a b : Option Value} (hR : qREL M) (hT : qTab B M) (hB : B < 90000) (h6 : i + 6 ≤ L) (hL : L ≤ 3072) : qTurn L xs d 3357 i a b B M := by
  obtain ⟨b1, c1, b2, c2, b3, c3, b4, c4, b5, c5⟩ := qJ_of h6 hL
  have k1 := qx_m400.1
  by_cases hb : xs (i + 3) = 0
  rotate_left
  · have hb2 : (xs (i + 3) = 0) = False := eq_false hb
    have hq : qPair L xs (d + 40) 152 [some (.ref 10), some (.int (xs (i + 1))), some (.int (xs (i + 2))), some (.int (nI 1))] 327 [some (.ref 400), some (.int (xs (i + 1))), some (.int (xs (i + 2))), some (.int (nI 1))] ke021 M := j152 (L := L) (xs := xs) (d := d) (M := M) hR (xs (i + 1)) (xs (i + 2)) true
    obtain ⟨k, x1, M1, M2, v, g0, g1, g2, g3, g4, g5, g6, g7⟩ := h388 (qPairG_ok hT hq)
    refine ⟨M2, some (.int (nI k)), some (.int v), x1, g1, g6, g7, fun x => ?_⟩
    by_cases hk : k = 0
    · subst hk
      have g8 := g5 rfl
      unfold qoI at g8
      simp only [s394_3357, s394_3358, s394_3359, s394_3361, s394_3362, s394_3363s, s394_3364, s394_3365, s394_3367, s394_3368, s394_3369s, s394_3370, s394_3371, s394_3373, s394_3374, s394_3375s, s394_3376, s394_3379, s394_3380, s394_3383, s394_3384, s394_3385, s394_3388i, s394_3390, s394_3391, s394_3392, s394_3394, s394_3395, s394_3396s, s394_3397, s394_3398, s394_3400, s394_3401, s394_3402s, s394_3403, s394_3404, s394_3406, s394_3407, s394_3408s, s394_3409, s394_3412, s394_3413, s394_3416, s394_3417, s394_3420i, s394_3422, s394_3423, s394_3426, s394_3428, s394_3433, s394_3435, s394_3438, s394_3439, s394_3440, s394_3441, s394_3443, s394_3444, s394_3445, s394_3450, s394_3746r, s394_3749, g2, g3, g4, g8, hb2, lgz, nI_add, b1, c1, b2, c2, b3, c3, b4, c4, b5, c5, qx_m10, qx_m2, k1, s177_0, s177_1, s177_4, qi_z0, eq_self, List.length_cons, List.length_nil, Nat.zero_le, Nat.reduceAdd, Nat.reduceLeDiff, Option.bind_some, qx_kn_v, qx_kn_n, Nat.add_zero, Bool.false_eq_true, ↓reduceIte]
    · have hk2 : (nI k = 0) = False := eq_false (nI_ne0 (by omega) (by omega))
      simp only [s394_3357, s394_3358, s394_3359, s394_3361, s394_3362, s394_3363s, s394_3364, s394_3365, s394_3367, s394_3368, s394_3369s, s394_3370, s394_3371, s394_3373, s394_3374, s394_3375s, s394_3376, s394_3379, s394_3380, s394_3383, s394_3384, s394_3385, s394_3388i, s394_3390, s394_3391, s394_3392, s394_3394, s394_3395, s394_3396s, s394_3397, s394_3398, s394_3400, s394_3401, s394_3402s, s394_3403, s394_3404, s394_3406, s394_3407, s394_3408s, s394_3409, s394_3412, s394_3413, s394_3416, s394_3417, s394_3420i, s394_3422, s394_3423, s394_3426, s394_3428, s394_3433, s394_3435, s394_3438, s394_3439, s394_3440, s394_3441, s394_3443, s394_3444, s394_3445, s394_3450, s394_3746r, s394_3749, g2, g3, g4, hk2, hb2, nI_add, b1, c1, b2, c2, b3, c3, b4, c4, b5, c5, qx_m10, qx_m2, k1, s177_0, s177_1, s177_4, qi_z0, eq_self, List.length_cons, List.length_nil, Nat.zero_le, Nat.reduceAdd, Nat.reduceLeDiff, Option.bind_some, qx_kn_v, qx_kn_n, Nat.add_zero, Bool.false_eq_true, ↓reduceIte]
  · have hb2 : (xs (i + 3) = 0) = True := eq_true hb
    have hq : qPair L xs (d + 40) 152 [some (.ref 10), some (.int (xs (i + 1))), some (.int (xs (i + 2))), some (.int (nI 0))] 327 [some (.ref 400), some (.int (xs (i + 1))), some (.int (xs (i + 2))), some (.int (nI 0))] ke021 M := j152 (L := L) (xs := xs) (d := d) (M := M) hR (xs (i + 1)) (xs (i + 2)) false
    obtain ⟨k, x1, M1, M2, v, g0, g1, g2, g3, g4, g5, g6, g7⟩ := h388 (qPairG_ok hT hq)
    refine ⟨M2, some (.int (nI k)), some (.int v), x1, g1, g6, g7, fun x => ?_⟩
    by_cases hk : k = 0
    · subst hk
      have g8 := g5 rfl
      unfold qoI at g8
      simp only [s394_3357, s394_3358, s394_3359, s394_3361, s394_3362, s394_3363s, s394_3364, s394_3365, s394_3367, s394_3368, s394_3369s, s394_3370, s394_3371, s394_3373, s394_3374, s394_3375s, s394_3376, s394_3379, s394_3380, s394_3383, s394_3384, s394_3385, s394_3388i, s394_3390, s394_3391, s394_3392, s394_3394, s394_3395, s394_3396s, s394_3397, s394_3398, s394_3400, s394_3401, s394_3402s, s394_3403, s394_3404, s394_3406, s394_3407, s394_3408s, s394_3409, s394_3412, s394_3413, s394_3416, s394_3417, s394_3420i, s394_3422, s394_3423, s394_3426, s394_3428, s394_3433, s394_3435, s394_3438, s394_3439, s394_3440, s394_3441, s394_3443, s394_3444, s394_3445, s394_3450, s394_3746r, s394_3749, g2, g3, g4, g8, hb2, lgz, nI_add, b1, c1, b2, c2, b3, c3, b4, c4, b5, c5, qx_m10, qx_m2, k1, s177_0, s177_1, s177_4, qi_z0, eq_self, List.length_cons, List.length_nil, Nat.zero_le, Nat.reduceAdd, Nat.reduceLeDiff, Option.bind_some, qx_kn_v, qx_kn_n, Nat.add_zero, Bool.false_eq_true, ↓reduceIte]
    · have hk2 : (nI k = 0) = False := eq_false (nI_ne0 (by omega) (by omega))
      simp only [s394_3357, s394_3358, s394_3359, s394_3361, s394_3362, s394_3363s, s394_3364, s394_3365, s394_3367, s394_3368, s394_3369s, s394_3370, s394_3371, s394_3373, s394_3374, s394_3375s, s394_3376, s394_3379, s394_3380, s394_3383, s394_3384, s394_3385, s394_3388i, s394_3390, s394_3391, s394_3392, s394_3394, s394_3395, s394_3396s, s394_3397, s394_3398, s394_3400, s394_3401, s394_3402s, s394_3403, s394_3404, s394_3406, s394_3407, s394_3408s, s394_3409, s394_3412, s394_3413, s394_3416, s394_3417, s394_3420i, s394_3422, s394_3423, s394_3426, s394_3428, s394_3433, s394_3435, s394_3438, s394_3439, s394_3440, s394_3441, s394_3443, s394_3444, s394_3445, s394_3450, s394_3746r, s394_3749, g2, g3, g4, hk2, hb2, nI_add, b1, c1, b2, c2, b3, c3, b4, c4, b5, c5, qx_m10, qx_m2, k1, s177_0, s177_1, s177_4, qi_z0, eq_self, List.length_cons, List.length_nil, Nat.zero_le, Nat.reduceAdd, Nat.reduceLeDiff, Option.bind_some, qx_kn_v, qx_kn_n, Nat.add_zero, Bool.false_eq_true, ↓reduceIte]
theorem k58 {M : qxM} {B i : Nat} {a b : Option Value} (hR : qREL M) (hT : qTab B M) (hB : B < 90000) (h6 : i + 6 ≤ L) (hL : L ≤ 3072) : qTurn L xs d 3453 i a b B M := by
  obtain ⟨b1, c1, b2, c2, b3, c3, b4, c4, b5, c5⟩ := qJ_of h6 hL
  have k1 := qx_m400.1
  have hq : qPair L xs (d + 40) 153 [some (.ref 10), some (.int (xs (i + 1))), some (.int (xs (i + 2))), none] 328 [some (.ref 400), some (.int (xs (i + 1))), some (.int (xs (i + 2))), none] ke021 M := j153 (L := L) (xs := xs) (d := d) (M := M) hR (xs (i + 1)) (xs (i + 2))
  obtain ⟨k, x1, M1, M2, v, g0, g1, g2, g3, g4, g5, g6, g7⟩ := h389 (qPairG_ok hT hq)
  refine ⟨M2, some (.int (nI k)), some (.int v), x1, g1, g6, g7, fun x => ?_⟩
  by_cases hk : k = 0
  · subst hk
    have g8 := g5 rfl
    unfold qoI at g8
    simp only [s394_3453, s394_3454, s394_3455, s394_3457, s394_3458, s394_3459s, s394_3460, s394_3461, s394_3463, s394_3464, s394_3465s, s394_3466, s394_3467, s394_3470i, s394_3472, s394_3473, s394_3474, s394_3476, s394_3477, s394_3478s, s394_3479, s394_3480, s394_3482, s394_3483, s394_3484s, s394_3485, s394_3488i, s394_3490, s394_3491, s394_3494, s394_3496, s394_3501, s394_3503, s394_3506, s394_3507, s394_3508, s394_3509, s394_3511, s394_3512, s394_3513, s394_3518, s394_3746r, s394_3749, g2, g3, g4, g8, lgz, nI_add, b1, c1, b2, c2, b3, c3, b4, c4, b5, c5, qx_m10, qx_m2, k1, s177_0, s177_1, s177_4, qi_z0, eq_self, List.length_cons, List.length_nil, Nat.zero_le, Nat.reduceAdd, Nat.reduceLeDiff, Option.bind_some, qx_kn_v, qx_kn_n, Nat.add_zero, Bool.false_eq_true, ↓reduceIte]
  · have hk2 : (nI k = 0) = False := eq_false (nI_ne0 (by omega) (by omega))
    simp only [s394_3453, s394_3454, s394_3455, s394_3457, s394_3458, s394_3459s, s394_3460, s394_3461, s394_3463, s394_3464, s394_3465s, s394_3466, s394_3467, s394_3470i, s394_3472, s394_3473, s394_3474, s394_3476, s394_3477, s394_3478s, s394_3479, s394_3480, s394_3482, s394_3483, s394_3484s, s394_3485, s394_3488i, s394_3490, s394_3491, s394_3494, s394_3496, s394_3501, s394_3503, s394_3506, s394_3507, s394_3508, s394_3509, s394_3511, s394_3512, s394_3513, s394_3518, s394_3746r, s394_3749, g2, g3, g4, hk2, nI_add, b1, c1, b2, c2, b3, c3, b4, c4, b5, c5, qx_m10, qx_m2, k1, s177_0, s177_1, s177_4, qi_z0, eq_self, List.length_cons, List.length_nil, Nat.zero_le, Nat.reduceAdd, Nat.reduceLeDiff, Option.bind_some, qx_kn_v, qx_kn_n, Nat.add_zero, Bool.false_eq_true, ↓reduceIte]
theorem k59 {M : qxM} {B i : Nat} {a b : Option Value} (hR : qREL M) (hT : qTab B M) (hB : B < 90000) (h6 : i + 6 ≤ L) (hL : L ≤ 3072) : qTurn L xs d 3521 i a b B M := by
  obtain ⟨b1, c1, b2, c2, b3, c3, b4, c4, b5, c5⟩ := qJ_of h6 hL
  have k1 := qx_m400.1
  have hq : qPair L xs (d + 40) 154 [some (.ref 10), some (.int (xs (i + 1))), none] 329 [some (.ref 400), some (.int (xs (i + 1))), none] ke01 M := j154 (L := L) (xs := xs) (d := d) (M := M) hR (xs (i + 1))
  obtain ⟨k, x1, M1, M2, v, g0, g1, g2, g3, g4, g5, g6, g7⟩ := h390 (qPairG_ok hT hq)
  refine ⟨M2, some (.int (nI k)), some (.int v), x1, g1, g6, g7, fun x => ?_⟩
  by_cases hk : k = 0
  · subst hk
    have g8 := g5 rfl
    unfold qoI at g8
    simp only [s394_3521, s394_3522, s394_3523, s394_3525, s394_3526, s394_3527s, s394_3528, s394_3529, s394_3532i, s394_3534, s394_3535, s394_3536, s394_3538, s394_3539, s394_3540s, s394_3541, s394_3544i, s394_3546, s394_3547, s394_3550, s394_3552, s394_3557, s394_3559, s394_3562, s394_3563, s394_3564, s394_3565, s394_3567, s394_3568, s394_3569, s394_3574, s394_3746r, s394_3749, g2, g3, g4, g8, lgz, nI_add, b1, c1, b2, c2, b3, c3, b4, c4, b5, c5, qx_m10, qx_m2, k1, s177_0, s177_1, s177_4, qi_z0, eq_self, List.length_cons, List.length_nil, Nat.zero_le, Nat.reduceAdd, Nat.reduceLeDiff, Option.bind_some, qx_kn_v, qx_kn_n, Nat.add_zero, Bool.false_eq_true, ↓reduceIte]
  · have hk2 : (nI k = 0) = False := eq_false (nI_ne0 (by omega) (by omega))
    simp only [s394_3521, s394_3522, s394_3523, s394_3525, s394_3526, s394_3527s, s394_3528, s394_3529, s394_3532i, s394_3534, s394_3535, s394_3536, s394_3538, s394_3539, s394_3540s, s394_3541, s394_3544i, s394_3546, s394_3547, s394_3550, s394_3552, s394_3557, s394_3559, s394_3562, s394_3563, s394_3564, s394_3565, s394_3567, s394_3568, s394_3569, s394_3574, s394_3746r, s394_3749, g2, g3, g4, hk2, nI_add, b1, c1, b2, c2, b3, c3, b4, c4, b5, c5, qx_m10, qx_m2, k1, s177_0, s177_1, s177_4, qi_z0, eq_self, List.length_cons, List.length_nil, Nat.zero_le, Nat.reduceAdd, Nat.reduceLeDiff, Option.bind_some, qx_kn_v, qx_kn_n, Nat.add_zero, Bool.false_eq_true, ↓reduceIte]
theorem k60 {M : qxM} {B i : Nat} {a b : Option Value} (hR : qREL M) (hT : qTab B M) (hB : B < 90000) (h6 : i + 6 ≤ L) (hL : L ≤ 3072) : qTurn L xs d 3577 i a b B M := by
  obtain ⟨b1, c1, b2, c2, b3, c3, b4, c4, b5, c5⟩ := qJ_of h6 hL
  have k1 := qx_m400.1
  have hq : qPair L xs (d + 40) 155 [some (.ref 10)] 330 [some (.ref 400)] ke0 M := j155 (L := L) (xs := xs) (d := d) (M := M) hR 
  obtain ⟨k, x1, M1, M2, v, g0, g1, g2, g3, g4, g5, g6, g7⟩ := h391 (qPairG_ok hT hq)
  refine ⟨M2, some (.int (nI k)), some (.int v), x1, g1, g6, g7, fun x => ?_⟩
  by_cases hk : k = 0
  · subst hk
    have g8 := g5 rfl
    unfold qoI at g8
    simp only [s394_3577, s394_3578, s394_3579, s394_3582i, s394_3584, s394_3585, s394_3588i, s394_3590, s394_3591, s394_3594, s394_3596, s394_3601, s394_3603, s394_3606, s394_3607, s394_3608, s394_3609, s394_3611, s394_3612, s394_3613, s394_3618, s394_3746r, s394_3749, g2, g3, g4, g8, lgz, nI_add, b1, c1, b2, c2, b3, c3, b4, c4, b5, c5, qx_m10, qx_m2, k1, s177_0, s177_1, s177_4, qi_z0, eq_self, List.length_cons, List.length_nil, Nat.zero_le, Nat.reduceAdd, Nat.reduceLeDiff, Option.bind_some, qx_kn_v, qx_kn_n, Nat.add_zero, Bool.false_eq_true, ↓reduceIte]
  · have hk2 : (nI k = 0) = False := eq_false (nI_ne0 (by omega) (by omega))
    simp only [s394_3577, s394_3578, s394_3579, s394_3582i, s394_3584, s394_3585, s394_3588i, s394_3590, s394_3591, s394_3594, s394_3596, s394_3601, s394_3603, s394_3606, s394_3607, s394_3608, s394_3609, s394_3611, s394_3612, s394_3613, s394_3618, s394_3746r, s394_3749, g2, g3, g4, hk2, nI_add, b1, c1, b2, c2, b3, c3, b4, c4, b5, c5, qx_m10, qx_m2, k1, s177_0, s177_1, s177_4, qi_z0, eq_self, List.length_cons, List.length_nil, Nat.zero_le, Nat.reduceAdd, Nat.reduceLeDiff, Option.bind_some, qx_kn_v, qx_kn_n, Nat.add_zero, Bool.false_eq_true, ↓reduceIte]
theorem k61 {M : qxM} {B i : Nat} {a b : Option Value} (hR : qREL M) (hT : qTab B M) (hB : B < 90000) (h6 : i + 6 ≤ L) (hL : L ≤ 3072) : qTurn L xs d 3621 i a b B M := by
  obtain ⟨b1, c1, b2, c2, b3, c3, b4, c4, b5, c5⟩ := qJ_of h6 hL
  have k1 := qx_m400.1
  obtain ⟨k, v, M1, h1, hk, h2⟩ := j156 (L := L) (xs := xs) (d := d) (M := M) hR (fun _ => "") 
  have hb := qk_bd (c := Value.int) 0 h1 hk (fun _ _ _ => rfl)
  obtain rfl : k = 0 := by omega
  rw [if_pos rfl] at h1
  obtain ⟨v1, M2, e1, e2, e3, e4, e5, e6⟩ := h2 M1.2
  have f1 : Rs L xs (d + 41) 156 0 [some (.ref 10)] [] M 0 = some (.inl (some (.int v)), M1, 0) := Rs_mono _ _ _ _ _ _ _ _ h1
  have f2 : Rs L xs (d + 41) 331 0 [some (.ref 400)] [] M1 0 = some (.inl (some (.int v)), M2, 0) := by
    rw [← e3 rfl]
    exact Rs_mono _ _ _ _ _ _ _ _ e1
  refine ⟨M2, a, b, 0, by decide, e5, qTab_fr hT e6, fun x => ?_⟩
  simp only [s394_3621, s394_3622, s394_3625, s394_3626, s394_3629, s394_3746r, s394_3749, f1, f2, nI_add, b1, c1, b2, c2, b3, c3, b4, c4, b5, c5, qx_m10, qx_m2, k1, s177_0, s177_1, s177_4, qi_z0, eq_self, List.length_cons, List.length_nil, Nat.zero_le, Nat.reduceAdd, Nat.reduceLeDiff, Option.bind_some, qx_kn_v, qx_kn_n, Nat.add_zero, Bool.false_eq_true, ↓reduceIte]
theorem k62 {M : qxM} {B i : Nat} {a b : Option Value} (hR : qREL M) (hT : qTab B M) (hB : B < 90000) (h6 : i + 6 ≤ L) (hL : L ≤ 3072) : qTurn L xs d 3634 i a b B M := by
  obtain ⟨b1, c1, b2, c2, b3, c3, b4, c4, b5, c5⟩ := qJ_of h6 hL
  have k1 := qx_m400.1
  have hq : qPair L xs (d + 40) 157 [some (.ref 10), some (.int (xs (i + 1)))] 332 [some (.ref 400), some (.int (xs (i + 1)))] ke02 M := j157 (L := L) (xs := xs) (d := d) (M := M) hR (xs (i + 1))
  obtain ⟨k, x1, M1, M2, v, g0, g1, g2, g3, g4, g5, g6, g7⟩ := h392 (qPairG_ok hT hq)
  refine ⟨M2, some (.int (nI k)), some (.int v), x1, g1, g6, g7, fun x => ?_⟩
  by_cases hk : k = 0
  · subst hk
    have g8 := g5 rfl
    unfold qoI at g8
    simp only [s394_3634, s394_3635, s394_3636, s394_3638, s394_3639, s394_3640s, s394_3641, s394_3642, s394_3645i, s394_3647, s394_3648, s394_3649, s394_3651, s394_3652, s394_3653s, s394_3654, s394_3657i, s394_3659, s394_3660, s394_3663, s394_3665, s394_3670, s394_3672, s394_3675, s394_3676, s394_3677, s394_3678, s394_3680, s394_3681, s394_3682, s394_3687, s394_3746r, s394_3749, g2, g3, g4, g8, lgz, nI_add, b1, c1, b2, c2, b3, c3, b4, c4, b5, c5, qx_m10, qx_m2, k1, s177_0, s177_1, s177_4, qi_z0, eq_self, List.length_cons, List.length_nil, Nat.zero_le, Nat.reduceAdd, Nat.reduceLeDiff, Option.bind_some, qx_kn_v, qx_kn_n, Nat.add_zero, Bool.false_eq_true, ↓reduceIte]
  · have hk2 : (nI k = 0) = False := eq_false (nI_ne0 (by omega) (by omega))
    simp only [s394_3634, s394_3635, s394_3636, s394_3638, s394_3639, s394_3640s, s394_3641, s394_3642, s394_3645i, s394_3647, s394_3648, s394_3649, s394_3651, s394_3652, s394_3653s, s394_3654, s394_3657i, s394_3659, s394_3660, s394_3663, s394_3665, s394_3670, s394_3672, s394_3675, s394_3676, s394_3677, s394_3678, s394_3680, s394_3681, s394_3682, s394_3687, s394_3746r, s394_3749, g2, g3, g4, hk2, nI_add, b1, c1, b2, c2, b3, c3, b4, c4, b5, c5, qx_m10, qx_m2, k1, s177_0, s177_1, s177_4, qi_z0, eq_self, List.length_cons, List.length_nil, Nat.zero_le, Nat.reduceAdd, Nat.reduceLeDiff, Option.bind_some, qx_kn_v, qx_kn_n, Nat.add_zero, Bool.false_eq_true, ↓reduceIte]
theorem k63 {M : qxM} {B i : Nat} {a b : Option Value} (hR : qREL M) (hT : qTab B M) (hB : B < 90000) (h6 : i + 6 ≤ L) (hL : L ≤ 3072) : qTurn L xs d 3690 i a b B M := by
  obtain ⟨b1, c1, b2, c2, b3, c3, b4, c4, b5, c5⟩ := qJ_of h6 hL
  have k1 := qx_m400.1
  have hq : qPair L xs (d + 40) 158 [some (.ref 10), some (.int (xs (i + 1)))] 333 [some (.ref 400), some (.int (xs (i + 1))), none] ke20 M := j158 (L := L) (xs := xs) (d := d) (M := M) hR (xs (i + 1))
  obtain ⟨k, x1, M1, M2, v, g0, g1, g2, g3, g4, g5, g6, g7⟩ := h393 (qPairG_ok hT hq)
  refine ⟨M2, some (.int (nI k)), some (.int v), x1, g1, g6, g7, fun x => ?_⟩
  by_cases hk : k = 0
  · subst hk
    have g8 := g5 rfl
    unfold qoI at g8
    simp only [s394_3690, s394_3691, s394_3692, s394_3694, s394_3695, s394_3696s, s394_3697, s394_3698, s394_3701i, s394_3703, s394_3704, s394_3705, s394_3707, s394_3708, s394_3709s, s394_3710, s394_3713i, s394_3715, s394_3716, s394_3719, s394_3721, s394_3726, s394_3728, s394_3731, s394_3732, s394_3733, s394_3734, s394_3736, s394_3737, s394_3738, s394_3743, s394_3746r, s394_3749, g2, g3, g4, g8, lgz, nI_add, b1, c1, b2, c2, b3, c3, b4, c4, b5, c5, qx_m10, qx_m2, k1, s177_0, s177_1, s177_4, qi_z0, eq_self, List.length_cons, List.length_nil, Nat.zero_le, Nat.reduceAdd, Nat.reduceLeDiff, Option.bind_some, qx_kn_v, qx_kn_n, Nat.add_zero, Bool.false_eq_true, ↓reduceIte]
  · have hk2 : (nI k = 0) = False := eq_false (nI_ne0 (by omega) (by omega))
    simp only [s394_3690, s394_3691, s394_3692, s394_3694, s394_3695, s394_3696s, s394_3697, s394_3698, s394_3701i, s394_3703, s394_3704, s394_3705, s394_3707, s394_3708, s394_3709s, s394_3710, s394_3713i, s394_3715, s394_3716, s394_3719, s394_3721, s394_3726, s394_3728, s394_3731, s394_3732, s394_3733, s394_3734, s394_3736, s394_3737, s394_3738, s394_3743, s394_3746r, s394_3749, g2, g3, g4, hk2, nI_add, b1, c1, b2, c2, b3, c3, b4, c4, b5, c5, qx_m10, qx_m2, k1, s177_0, s177_1, s177_4, qi_z0, eq_self, List.length_cons, List.length_nil, Nat.zero_le, Nat.reduceAdd, Nat.reduceLeDiff, Option.bind_some, qx_kn_v, qx_kn_n, Nat.add_zero, Bool.false_eq_true, ↓reduceIte]
end QC
