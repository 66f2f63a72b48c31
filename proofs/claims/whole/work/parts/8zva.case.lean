/-! The law's turn. -/
theorem lgz (z : Int64) : (lg_cmp z z = 0) = True := eq_true ((lg_cmp_eq z z).mpr rfl)
theorem qJ_of {L i : Nat} (h : i + 6 ≤ L) (hL : L ≤ 3072) : qx_ib (nI (i + 1)) L = true ∧ (nI (i + 1)).toNatClampNeg = i + 1 ∧ qx_ib (nI (i + 2)) L = true ∧ (nI (i + 2)).toNatClampNeg = i + 2 ∧ qx_ib (nI (i + 3)) L = true ∧ (nI (i + 3)).toNatClampNeg = i + 3 ∧ qx_ib (nI (i + 4)) L = true ∧ (nI (i + 4)).toNatClampNeg = i + 4 ∧ qx_ib (nI (i + 5)) L = true ∧ (nI (i + 5)).toNatClampNeg = i + 5 :=
  ⟨qx_ib_of (by omega) (by omega), nI_clamp (by omega), qx_ib_of (by omega) (by omega), nI_clamp (by omega), qx_ib_of (by omega) (by omega), nI_clamp (by omega), qx_ib_of (by omega) (by omega), nI_clamp (by omega), qx_ib_of (by omega) (by omega), nI_clamp (by omega)⟩
def qTurn (L : Nat) (xs : Nat → Int32) (d P i : Nat) (a b : Option Value) (B : Nat) (M : qxM) : Prop :=
  ∃ (M2 : qxM) (a2 b2 : Option Value) (x1 : Nat), x1 ≤ 1 ∧ qREL M2 ∧ qTab (B + 1) M2 ∧ ∀ x, Rs L xs (d + 42) 394 P [some (.ref 1), some (.ref 10), some (.ref 400), some (.ref 2), some (.ref 3), some (.int (nI i)), a, b, none] [] M x = Rs L xs (d + 42) 394 28 [some (.ref 1), some (.ref 10), some (.ref 400), some (.ref 2), some (.ref 3), some (.int (nI (i + 6))), a2, b2, none] [] M2 (x + x1)
section QC
variable {L : Nat} {xs : Nat → Int32} {d : Nat}
theorem k0 {M : qxM} {B i : Nat} {a b : Option Value} (hR : qREL M) (hT : qTab B M) (hB : B < 90000) (h6 : i + 6 ≤ L) (hL : L ≤ 3072) : qTurn L xs d 316 i a b B M := by
  obtain ⟨b1, c1, b2, c2, b3, c3, b4, c4, b5, c5⟩ := qJ_of h6 hL
  have k1 := qx_m400.1
  obtain ⟨k, v, M1, h1, hk, h2⟩ := j92 (L := L) (xs := xs) (d := d) (M := M) hR (fun _ => "") (xs (i + 1)) (xs (i + 2)) (xs (i + 3)) (xs (i + 4)) (xs (i + 5))
  have hb := qk_bd (c := Value.int) 0 h1 hk (fun _ _ _ => rfl)
  obtain rfl : k = 0 := by omega
  rw [if_pos rfl] at h1
  obtain ⟨v1, M2, e1, e2, e3, e4, e5, e6⟩ := h2 M1.2
  have f1 : Rs L xs (d + 41) 92 0 [some (.ref 10), some (.int (xs (i + 1))), some (.int (xs (i + 2))), some (.int (xs (i + 3))), some (.int (xs (i + 4))), some (.int (xs (i + 5)))] [] M 0 = some (.inl (some (.int v)), M1, 0) := Rs_mono _ _ _ _ _ _ _ _ h1
  have f2 : Rs L xs (d + 41) 185 0 [some (.ref 400), some (.int (xs (i + 1))), some (.int (xs (i + 2))), some (.int (xs (i + 3))), some (.int (xs (i + 4))), some (.int (xs (i + 5)))] [] M1 0 = some (.inl (some (.int v)), M2, 0) := by
    rw [← e3 rfl]
    exact Rs_mono _ _ _ _ _ _ _ _ e1
  refine ⟨M2, a, b, 0, by decide, e5, qTab_fr hT e6, fun x => ?_⟩
  simp only [s394_316, s394_317, s394_318, s394_320, s394_321, s394_322s, s394_323, s394_324, s394_326, s394_327, s394_328s, s394_329, s394_330, s394_332, s394_333, s394_334s, s394_335, s394_336, s394_338, s394_339, s394_340s, s394_341, s394_342, s394_344, s394_345, s394_346s, s394_347, s394_350, s394_351, s394_352, s394_354, s394_355, s394_356s, s394_357, s394_358, s394_360, s394_361, s394_362s, s394_363, s394_364, s394_366, s394_367, s394_368s, s394_369, s394_370, s394_372, s394_373, s394_374s, s394_375, s394_376, s394_378, s394_379, s394_380s, s394_381, s394_384, s394_3746r, s394_3749, f1, f2, nI_add, b1, c1, b2, c2, b3, c3, b4, c4, b5, c5, qx_m10, qx_m2, k1, s177_0, s177_1, s177_4, qi_z0, eq_self, List.length_cons, List.length_nil, Nat.zero_le, Nat.reduceAdd, Nat.reduceLeDiff, Option.bind_some, qx_kn_v, qx_kn_n, Nat.add_zero, Bool.false_eq_true, ↓reduceIte]
theorem k1 {M : qxM} {B i : Nat} {a b : Option Value} (hR : qREL M) (hT : qTab B M) (hB : B < 90000) (h6 : i + 6 ≤ L) (hL : L ≤ 3072) : qTurn L xs d 389 i a b B M := by
  obtain ⟨b1, c1, b2, c2, b3, c3, b4, c4, b5, c5⟩ := qJ_of h6 hL
  have k1 := qx_m400.1
  have hq : qPair L xs (d + 40) 93 [some (.ref 10), some (.int (xs (i + 1)))] 207 [some (.ref 400), some (.int (xs (i + 1))), none] ke21 M := j93 (L := L) (xs := xs) (d := d) (M := M) hR (xs (i + 1))
  obtain ⟨k, x1, M1, M2, v, g0, g1, g2, g3, g4, g5, g6, g7⟩ := h335 (qPairG_ok hT hq)
  refine ⟨M2, some (.int (nI k)), some (.int v), x1, g1, g6, g7, fun x => ?_⟩
  by_cases hk : k = 0
  · subst hk
    have g8 := g5 rfl
    unfold qoI at g8
    simp only [s394_389, s394_390, s394_391, s394_393, s394_394, s394_395s, s394_396, s394_397, s394_400i, s394_402, s394_403, s394_404, s394_406, s394_407, s394_408s, s394_409, s394_412i, s394_414, s394_415, s394_418, s394_420, s394_425, s394_427, s394_430, s394_431, s394_432, s394_433, s394_435, s394_436, s394_437, s394_442, s394_3746r, s394_3749, g2, g3, g4, g8, lgz, nI_add, b1, c1, b2, c2, b3, c3, b4, c4, b5, c5, qx_m10, qx_m2, k1, s177_0, s177_1, s177_4, qi_z0, eq_self, List.length_cons, List.length_nil, Nat.zero_le, Nat.reduceAdd, Nat.reduceLeDiff, Option.bind_some, qx_kn_v, qx_kn_n, Nat.add_zero, Bool.false_eq_true, ↓reduceIte]
  · have hk2 : (nI k = 0) = False := eq_false (nI_ne0 (by omega) (by omega))
    simp only [s394_389, s394_390, s394_391, s394_393, s394_394, s394_395s, s394_396, s394_397, s394_400i, s394_402, s394_403, s394_404, s394_406, s394_407, s394_408s, s394_409, s394_412i, s394_414, s394_415, s394_418, s394_420, s394_425, s394_427, s394_430, s394_431, s394_432, s394_433, s394_435, s394_436, s394_437, s394_442, s394_3746r, s394_3749, g2, g3, g4, hk2, nI_add, b1, c1, b2, c2, b3, c3, b4, c4, b5, c5, qx_m10, qx_m2, k1, s177_0, s177_1, s177_4, qi_z0, eq_self, List.length_cons, List.length_nil, Nat.zero_le, Nat.reduceAdd, Nat.reduceLeDiff, Option.bind_some, qx_kn_v, qx_kn_n, Nat.add_zero, Bool.false_eq_true, ↓reduceIte]
theorem k2 {M : qxM} {B i : Nat} {a b : Option Value} (hR : qREL M) (hT : qTab B M) (hB : B < 90000) (h6 : i + 6 ≤ L) (hL : L ≤ 3072) : qTurn L xs d 445 i a b B M := by
  obtain ⟨b1, c1, b2, c2, b3, c3, b4, c4, b5, c5⟩ := qJ_of h6 hL
  have k1 := qx_m400.1
  obtain ⟨k, v, M1, h1, hk, h2⟩ := j94 (L := L) (xs := xs) (d := d) (M := M) hR (fun _ => "") 
  have hb := qk_bd (c := Value.int) 0 h1 hk (fun _ _ _ => rfl)
  obtain rfl : k = 0 := by omega
  rw [if_pos rfl] at h1
  obtain ⟨v1, M2, e1, e2, e3, e4, e5, e6⟩ := h2 M1.2
  have f1 : Rs L xs (d + 41) 94 0 [some (.ref 10)] [] M 0 = some (.inl (some (.int v)), M1, 0) := Rs_mono _ _ _ _ _ _ _ _ h1
  have f2 : Rs L xs (d + 41) 187 0 [some (.ref 400)] [] M1 0 = some (.inl (some (.int v)), M2, 0) := by
    rw [← e3 rfl]
    exact Rs_mono _ _ _ _ _ _ _ _ e1
  refine ⟨M2, a, b, 0, by decide, e5, qTab_fr hT e6, fun x => ?_⟩
  simp only [s394_445, s394_446, s394_449, s394_450, s394_453, s394_3746r, s394_3749, f1, f2, nI_add, b1, c1, b2, c2, b3, c3, b4, c4, b5, c5, qx_m10, qx_m2, k1, s177_0, s177_1, s177_4, qi_z0, eq_self, List.length_cons, List.length_nil, Nat.zero_le, Nat.reduceAdd, Nat.reduceLeDiff, Option.bind_some, qx_kn_v, qx_kn_n, Nat.add_zero, Bool.false_eq_true, ↓reduceIte]
theorem k3 {M : qxM} {B i : Nat} {a b : Option Value} (hR : qREL M) (hT : qTab B M) (hB : B < 90000) (h6 : i + 6 ≤ L) (hL : L ≤ 3072) : qTurn L xs d 458 i a b B M := by
  obtain ⟨b1, c1, b2, c2, b3, c3, b4, c4, b5, c5⟩ := qJ_of h6 hL
  have k1 := qx_m400.1
  obtain ⟨k, v, M1, h1, hk, h2⟩ := j95 (L := L) (xs := xs) (d := d) (M := M) hR (fun _ => "") 
  have hb := qk_bd (c := Value.int) 0 h1 hk (fun _ _ _ => rfl)
  obtain rfl : k = 0 := by omega
  rw [if_pos rfl] at h1
  obtain ⟨v1, M2, e1, e2, e3, e4, e5, e6⟩ := h2 M1.2
  have f1 : Rs L xs (d + 41) 95 0 [some (.ref 10)] [] M 0 = some (.inl (some (.int v)), M1, 0) := Rs_mono _ _ _ _ _ _ _ _ h1
  have f2 : Rs L xs (d + 41) 188 0 [some (.ref 400)] [] M1 0 = some (.inl (some (.int v)), M2, 0) := by
    rw [← e3 rfl]
    exact Rs_mono _ _ _ _ _ _ _ _ e1
  refine ⟨M2, a, b, 0, by decide, e5, qTab_fr hT e6, fun x => ?_⟩
  simp only [s394_458, s394_459, s394_462, s394_463, s394_466, s394_3746r, s394_3749, f1, f2, nI_add, b1, c1, b2, c2, b3, c3, b4, c4, b5, c5, qx_m10, qx_m2, k1, s177_0, s177_1, s177_4, qi_z0, eq_self, List.length_cons, List.length_nil, Nat.zero_le, Nat.reduceAdd, Nat.reduceLeDiff, Option.bind_some, qx_kn_v, qx_kn_n, Nat.add_zero, Bool.false_eq_true, ↓reduceIte]
theorem k4 {M : qxM} {B i : Nat} {a b : Option Value} (hR : qREL M) (hT : qTab B M) (hB : B < 90000) (h6 : i + 6 ≤ L) (hL : L ≤ 3072) : qTurn L xs d 471 i a b B M := by
  obtain ⟨b1, c1, b2, c2, b3, c3, b4, c4, b5, c5⟩ := qJ_of h6 hL
  have k1 := qx_m400.1
  obtain ⟨k, v, M1, h1, hk, h2⟩ := j96 (L := L) (xs := xs) (d := d) (M := M) hR (fun _ => "") 
  have hb := qk_bd (c := Value.int) 0 h1 hk (fun _ _ _ => rfl)
  obtain rfl : k = 0 := by omega
  rw [if_pos rfl] at h1
  obtain ⟨v1, M2, e1, e2, e3, e4, e5, e6⟩ := h2 M1.2
  have f1 : Rs L xs (d + 41) 96 0 [some (.ref 10)] [] M 0 = some (.inl (some (.int v)), M1, 0) := Rs_mono _ _ _ _ _ _ _ _ h1
  have f2 : Rs L xs (d + 41) 189 0 [some (.ref 400)] [] M1 0 = some (.inl (some (.int v)), M2, 0) := by
    rw [← e3 rfl]
    exact Rs_mono _ _ _ _ _ _ _ _ e1
  refine ⟨M2, a, b, 0, by decide, e5, qTab_fr hT e6, fun x => ?_⟩
  simp only [s394_471, s394_472, s394_475, s394_476, s394_479, s394_3746r, s394_3749, f1, f2, nI_add, b1, c1, b2, c2, b3, c3, b4, c4, b5, c5, qx_m10, qx_m2, k1, s177_0, s177_1, s177_4, qi_z0, eq_self, List.length_cons, List.length_nil, Nat.zero_le, Nat.reduceAdd, Nat.reduceLeDiff, Option.bind_some, qx_kn_v, qx_kn_n, Nat.add_zero, Bool.false_eq_true, ↓reduceIte]
theorem k5 {M : qxM} {B i : Nat} {a b : Option Value} (hR : qREL M) (hT : qTab B M) (hB : B < 90000) (h6 : i + 6 ≤ L) (hL : L ≤ 3072) : qTurn L xs d 484 i a b B M := by
  obtain ⟨b1, c1, b2, c2, b3, c3, b4, c4, b5, c5⟩ := qJ_of h6 hL
  have k1 := qx_m400.1
  have hq : qPair L xs (d + 40) 97 [some (.ref 10), some (.int (xs (i + 1))), none] 225 [some (.ref 400), some (.int (xs (i + 1)))] ke01 M := j97 (L := L) (xs := xs) (d := d) (M := M) hR (xs (i + 1))
  obtain ⟨k, x1, M1, M2, v, g0, g1, g2, g3, g4, g5, g6, g7⟩ := h336 (qPairG_ok hT hq)
  refine ⟨M2, some (.int (nI k)), some (.int v), x1, g1, g6, g7, fun x => ?_⟩
  by_cases hk : k = 0
  · subst hk
    have g8 := g5 rfl
    unfold qoI at g8
    simp only [s394_484, s394_485, s394_486, s394_488, s394_489, s394_490s, s394_491, s394_492, s394_495i, s394_497, s394_498, s394_499, s394_501, s394_502, s394_503s, s394_504, s394_507i, s394_509, s394_510, s394_513, s394_515, s394_520, s394_522, s394_525, s394_526, s394_527, s394_528, s394_530, s394_531, s394_532, s394_537, s394_3746r, s394_3749, g2, g3, g4, g8, lgz, nI_add, b1, c1, b2, c2, b3, c3, b4, c4, b5, c5, qx_m10, qx_m2, k1, s177_0, s177_1, s177_4, qi_z0, eq_self, List.length_cons, List.length_nil, Nat.zero_le, Nat.reduceAdd, Nat.reduceLeDiff, Option.bind_some, qx_kn_v, qx_kn_n, Nat.add_zero, Bool.false_eq_true, ↓reduceIte]
  · have hk2 : (nI k = 0) = False := eq_false (nI_ne0 (by omega) (by omega))
    simp only [s394_484, s394_485, s394_486, s394_488, s394_489, s394_490s, s394_491, s394_492, s394_495i, s394_497, s394_498, s394_499, s394_501, s394_502, s394_503s, s394_504, s394_507i, s394_509, s394_510, s394_513, s394_515, s394_520, s394_522, s394_525, s394_526, s394_527, s394_528, s394_530, s394_531, s394_532, s394_537, s394_3746r, s394_3749, g2, g3, g4, hk2, nI_add, b1, c1, b2, c2, b3, c3, b4, c4, b5, c5, qx_m10, qx_m2, k1, s177_0, s177_1, s177_4, qi_z0, eq_self, List.length_cons, List.length_nil, Nat.zero_le, Nat.reduceAdd, Nat.reduceLeDiff, Option.bind_some, qx_kn_v, qx_kn_n, Nat.add_zero, Bool.false_eq_true, ↓reduceIte]
theorem k6 {M : qxM} {B i : Nat} {a b : Option Value} (hR : qREL M) (hT : qTab B M) (hB : B < 90000) (h6 : i + 6 ≤ L) (hL : L ≤ 3072) : qTurn L xs d 540 i a b B M := by
  obtain ⟨b1, c1, b2, c2, b3, c3, b4, c4, b5, c5⟩ := qJ_of h6 hL
  have k1 := qx_m400.1
  have hq : qPair L xs (d + 40) 98 [some (.ref 10), some (.int (xs (i + 1))), some (.int (xs (i + 2))), none] 228 [some (.ref 400), some (.int (xs (i + 1))), some (.int (xs (i + 2)))] ke021 M := j98 (L := L) (xs := xs) (d := d) (M := M) hR (xs (i + 1)) (xs (i + 2))
  obtain ⟨k, x1, M1, M2, v, g0, g1, g2, g3, g4, g5, g6, g7⟩ := h337 (qPairG_ok hT hq)
  refine ⟨M2, some (.int (nI k)), some (.int v), x1, g1, g6, g7, fun x => ?_⟩
  by_cases hk : k = 0
  · subst hk
    have g8 := g5 rfl
    unfold qoI at g8
    simp only [s394_540, s394_541, s394_542, s394_544, s394_545, s394_546s, s394_547, s394_548, s394_550, s394_551, s394_552s, s394_553, s394_554, s394_557i, s394_559, s394_560, s394_561, s394_563, s394_564, s394_565s, s394_566, s394_567, s394_569, s394_570, s394_571s, s394_572, s394_575i, s394_577, s394_578, s394_581, s394_583, s394_588, s394_590, s394_593, s394_594, s394_595, s394_596, s394_598, s394_599, s394_600, s394_605, s394_3746r, s394_3749, g2, g3, g4, g8, lgz, nI_add, b1, c1, b2, c2, b3, c3, b4, c4, b5, c5, qx_m10, qx_m2, k1, s177_0, s177_1, s177_4, qi_z0, eq_self, List.length_cons, List.length_nil, Nat.zero_le, Nat.reduceAdd, Nat.reduceLeDiff, Option.bind_some, qx_kn_v, qx_kn_n, Nat.add_zero, Bool.false_eq_true, ↓reduceIte]
  · have hk2 : (nI k = 0) = False := eq_false (nI_ne0 (by omega) (by omega))
    simp only [s394_540, s394_541, s394_542, s394_544, s394_545, s394_546s, s394_547, s394_548, s394_550, s394_551, s394_552s, s394_553, s394_554, s394_557i, s394_559, s394_560, s394_561, s394_563, s394_564, s394_565s, s394_566, s394_567, s394_569, s394_570, s394_571s, s394_572, s394_575i, s394_577, s394_578, s394_581, s394_583, s394_588, s394_590, s394_593, s394_594, s394_595, s394_596, s394_598, s394_599, s394_600, s394_605, s394_3746r, s394_3749, g2, g3, g4, hk2, nI_add, b1, c1, b2, c2, b3, c3, b4, c4, b5, c5, qx_m10, qx_m2, k1, s177_0, s177_1, s177_4, qi_z0, eq_self, List.length_cons, List.length_nil, Nat.zero_le, Nat.reduceAdd, Nat.reduceLeDiff, Option.bind_some, qx_kn_v, qx_kn_n, Nat.add_zero, Bool.false_eq_true, ↓reduceIte]
theorem k7 {M : qxM} {B i : Nat} {a b : Option Value} (hR : qREL M) (hT : qTab B M) (hB : B < 90000) (h6 : i + 6 ≤ L) (hL : L ≤ 3072) : qTurn L xs d 608 i a b B M := by
  obtain ⟨b1, c1, b2, c2, b3, c3, b4, c4, b5, c5⟩ := qJ_of h6 hL
  have k1 := qx_m400.1
  have hq : qPair L xs (d + 40) 99 [some (.ref 10), some (.int (xs (i + 1))), some (.int (xs (i + 2)))] 229 [some (.ref 400), some (.int (xs (i + 1))), some (.int (xs (i + 2)))] ke02 M := j99 (L := L) (xs := xs) (d := d) (M := M) hR (xs (i + 1)) (xs (i + 2))
  obtain ⟨k, x1, M1, M2, v, g0, g1, g2, g3, g4, g5, g6, g7⟩ := h338 (qPairG_ok hT hq)
  refine ⟨M2, some (.int (nI k)), some (.int v), x1, g1, g6, g7, fun x => ?_⟩
  by_cases hk : k = 0
  · subst hk
    have g8 := g5 rfl
    unfold qoB at g8
    by_cases hv : v = 0
    · have hz : (v = 0) = True := eq_true hv
      rw [if_pos hv] at g8
      simp only [s394_608, s394_609, s394_610, s394_612, s394_613, s394_614s, s394_615, s394_616, s394_618, s394_619, s394_620s, s394_621, s394_622, s394_625i, s394_627, s394_628, s394_629, s394_631, s394_632, s394_633s, s394_634, s394_635, s394_637, s394_638, s394_639s, s394_640, s394_643i, s394_645, s394_646, s394_649, s394_651, s394_656, s394_658, s394_661, s394_662, s394_663, s394_664, s394_666, s394_669, s394_670, s394_673, s394_674, s394_675, s394_680, s394_3746r, s394_3749, g2, g3, g4, g8, hz, lgz, nI_add, b1, c1, b2, c2, b3, c3, b4, c4, b5, c5, qx_m10, qx_m2, k1, s177_0, s177_1, s177_4, qi_z0, eq_self, List.length_cons, List.length_nil, Nat.zero_le, Nat.reduceAdd, Nat.reduceLeDiff, Option.bind_some, qx_kn_v, qx_kn_n, Nat.add_zero, Bool.false_eq_true, ↓reduceIte]
    · have hz : (v = 0) = False := eq_false hv
      rw [if_neg hv] at g8
      simp only [s394_608, s394_609, s394_610, s394_612, s394_613, s394_614s, s394_615, s394_616, s394_618, s394_619, s394_620s, s394_621, s394_622, s394_625i, s394_627, s394_628, s394_629, s394_631, s394_632, s394_633s, s394_634, s394_635, s394_637, s394_638, s394_639s, s394_640, s394_643i, s394_645, s394_646, s394_649, s394_651, s394_656, s394_658, s394_661, s394_662, s394_663, s394_664, s394_666, s394_669, s394_670, s394_673, s394_674, s394_675, s394_680, s394_3746r, s394_3749, g2, g3, g4, g8, hz, lgz, nI_add, b1, c1, b2, c2, b3, c3, b4, c4, b5, c5, qx_m10, qx_m2, k1, s177_0, s177_1, s177_4, qi_z0, eq_self, List.length_cons, List.length_nil, Nat.zero_le, Nat.reduceAdd, Nat.reduceLeDiff, Option.bind_some, qx_kn_v, qx_kn_n, Nat.add_zero, Bool.false_eq_true, ↓reduceIte]
  · have hk2 : (nI k = 0) = False := eq_false (nI_ne0 (by omega) (by omega))
    simp only [s394_608, s394_609, s394_610, s394_612, s394_613, s394_614s, s394_615, s394_616, s394_618, s394_619, s394_620s, s394_621, s394_622, s394_625i, s394_627, s394_628, s394_629, s394_631, s394_632, s394_633s, s394_634, s394_635, s394_637, s394_638, s394_639s, s394_640, s394_643i, s394_645, s394_646, s394_649, s394_651, s394_656, s394_658, s394_661, s394_662, s394_663, s394_664, s394_666, s394_669, s394_670, s394_673, s394_674, s394_675, s394_680, s394_3746r, s394_3749, g2, g3, g4, hk2, nI_add, b1, c1, b2, c2, b3, c3, b4, c4, b5, c5, qx_m10, qx_m2, k1, s177_0, s177_1, s177_4, qi_z0, eq_self, List.length_cons, List.length_nil, Nat.zero_le, Nat.reduceAdd, Nat.reduceLeDiff, Option.bind_some, qx_kn_v, qx_kn_n, Nat.add_zero, Bool.false_eq_true, ↓reduceIte]
theorem k8 {M : qxM} {B i : Nat} {a b : Option Value} (hR : qREL M) (hT : qTab B M) (hB : B < 90000) (h6 : i + 6 ≤ L) (hL : L ≤ 3072) : qTurn L xs d 683 i a b B M := by
  obtain ⟨b1, c1, b2, c2, b3, c3, b4, c4, b5, c5⟩ := qJ_of h6 hL
  have k1 := qx_m400.1
  have hq : qPair L xs (d + 40) 100 [some (.ref 10), some (.int (xs (i + 1))), some (.int (xs (i + 2))), none, none, none] 230 [some (.ref 400), some (.int (xs (i + 1))), some (.int (xs (i + 2))), none, none] ke02 M := j100 (L := L) (xs := xs) (d := d) (M := M) hR (xs (i + 1)) (xs (i + 2))
  obtain ⟨k, x1, M1, M2, v, g0, g1, g2, g3, g4, g5, g6, g7⟩ := h339 (qPairG_ok hT hq)
  refine ⟨M2, some (.int (nI k)), some (.int v), x1, g1, g6, g7, fun x => ?_⟩
  by_cases hk : k = 0
  · subst hk
    have g8 := g5 rfl
    unfold qoI at g8
    simp only [s394_683, s394_684, s394_685, s394_687, s394_688, s394_689s, s394_690, s394_691, s394_693, s394_694, s394_695s, s394_696, s394_697, s394_700i, s394_702, s394_703, s394_704, s394_706, s394_707, s394_708s, s394_709, s394_710, s394_712, s394_713, s394_714s, s394_715, s394_718i, s394_720, s394_721, s394_724, s394_726, s394_731, s394_733, s394_736, s394_737, s394_738, s394_739, s394_741, s394_742, s394_743, s394_748, s394_3746r, s394_3749, g2, g3, g4, g8, lgz, nI_add, b1, c1, b2, c2, b3, c3, b4, c4, b5, c5, qx_m10, qx_m2, k1, s177_0, s177_1, s177_4, qi_z0, eq_self, List.length_cons, List.length_nil, Nat.zero_le, Nat.reduceAdd, Nat.reduceLeDiff, Option.bind_some, qx_kn_v, qx_kn_n, Nat.add_zero, Bool.false_eq_true, ↓reduceIte]
  · have hk2 : (nI k = 0) = False := eq_false (nI_ne0 (by omega) (by omega))
    simp only [s394_683, s394_684, s394_685, s394_687, s394_688, s394_689s, s394_690, s394_691, s394_693, s394_694, s394_695s, s394_696, s394_697, s394_700i, s394_702, s394_703, s394_704, s394_706, s394_707, s394_708s, s394_709, s394_710, s394_712, s394_713, s394_714s, s394_715, s394_718i, s394_720, s394_721, s394_724, s394_726, s394_731, s394_733, s394_736, s394_737, s394_738, s394_739, s394_741, s394_742, s394_743, s394_748, s394_3746r, s394_3749, g2, g3, g4, hk2, nI_add, b1, c1, b2, c2, b3, c3, b4, c4, b5, c5, qx_m10, qx_m2, k1, s177_0, s177_1, s177_4, qi_z0, eq_self, List.length_cons, List.length_nil, Nat.zero_le, Nat.reduceAdd, Nat.reduceLeDiff, Option.bind_some, qx_kn_v, qx_kn_n, Nat.add_zero, Bool.false_eq_true, ↓reduceIte]
theorem k9 {M : qxM} {B i : Nat} {a b : Option Value} (hR : qREL M) (hT : qTab B M) (hB : B < 90000) (h6 : i + 6 ≤ L) (hL : L ≤ 3072) : qTurn L xs d 751 i a b B M := by
  obtain ⟨b1, c1, b2, c2, b3, c3, b4, c4, b5, c5⟩ := qJ_of h6 hL
  have k1 := qx_m400.1
  have hq : qPair L xs (d + 40) 101 [some (.ref 10), some (.int (xs (i + 1))), some (.int (xs (i + 2)))] 232 [some (.ref 400), some (.int (xs (i + 1))), some (.int (xs (i + 2)))] ke02 M := j101 (L := L) (xs := xs) (d := d) (M := M) hR (xs (i + 1)) (xs (i + 2))
  obtain ⟨k, x1, M1, M2, v, g0, g1, g2, g3, g4, g5, g6, g7⟩ := h340 (qPairG_ok hT hq)
  refine ⟨M2, some (.int (nI k)), some (.int v), x1, g1, g6, g7, fun x => ?_⟩
  by_cases hk : k = 0
  · subst hk
    have g8 := g5 rfl
    unfold qoI at g8
    simp only [s394_751, s394_752, s394_753, s394_755, s394_756, s394_757s, s394_758, s394_759, s394_761, s394_762, s394_763s, s394_764, s394_765, s394_768i, s394_770, s394_771, s394_772, s394_774, s394_775, s394_776s, s394_777, s394_778, s394_780, s394_781, s394_782s, s394_783, s394_786i, s394_788, s394_789, s394_792, s394_794, s394_799, s394_801, s394_804, s394_805, s394_806, s394_807, s394_809, s394_810, s394_811, s394_816, s394_3746r, s394_3749, g2, g3, g4, g8, lgz, nI_add, b1, c1, b2, c2, b3, c3, b4, c4, b5, c5, qx_m10, qx_m2, k1, s177_0, s177_1, s177_4, qi_z0, eq_self, List.length_cons, List.length_nil, Nat.zero_le, Nat.reduceAdd, Nat.reduceLeDiff, Option.bind_some, qx_kn_v, qx_kn_n, Nat.add_zero, Bool.false_eq_true, ↓reduceIte]
  · have hk2 : (nI k = 0) = False := eq_false (nI_ne0 (by omega) (by omega))
    simp only [s394_751, s394_752, s394_753, s394_755, s394_756, s394_757s, s394_758, s394_759, s394_761, s394_762, s394_763s, s394_764, s394_765, s394_768i, s394_770, s394_771, s394_772, s394_774, s394_775, s394_776s, s394_777, s394_778, s394_780, s394_781, s394_782s, s394_783, s394_786i, s394_788, s394_789, s394_792, s394_794, s394_799, s394_801, s394_804, s394_805, s394_806, s394_807, s394_809, s394_810, s394_811, s394_816, s394_3746r, s394_3749, g2, g3, g4, hk2, nI_add, b1, c1, b2, c2, b3, c3, b4, c4, b5, c5, qx_m10, qx_m2, k1, s177_0, s177_1, s177_4, qi_z0, eq_self, List.length_cons, List.length_nil, Nat.zero_le, Nat.reduceAdd, Nat.reduceLeDiff, Option.bind_some, qx_kn_v, qx_kn_n, Nat.add_zero, Bool.false_eq_true, ↓reduceIte]
theorem k10 {M : qxM} {B i : Nat} {a b : Option Value} (hR : qREL M) (hT : qTab B M) (hB : B < 90000) (h6 : i + 6 ≤ L) (hL : L ≤ 3072) : qTurn L xs d 819 i a b B M := by
  obtain ⟨b1, c1, b2, c2, b3, c3, b4, c4, b5, c5⟩ := qJ_of h6 hL
  have k1 := qx_m400.1
  have hq : qPair L xs (d + 40) 103 [some (.ref 10), some (.int (xs (i + 1))), none] 256 [some (.ref 400), some (.int (xs (i + 1)))] ke01 M := j103 (L := L) (xs := xs) (d := d) (M := M) hR (xs (i + 1))
  obtain ⟨k, x1, M1, M2, v, g0, g1, g2, g3, g4, g5, g6, g7⟩ := h341 (qPairG_ok hT hq)
  refine ⟨M2, some (.int (nI k)), some (.int v), x1, g1, g6, g7, fun x => ?_⟩
  by_cases hk : k = 0
  · subst hk
    have g8 := g5 rfl
    unfold qoI at g8
    simp only [s394_819, s394_820, s394_821, s394_823, s394_824, s394_825s, s394_826, s394_827, s394_830i, s394_832, s394_833, s394_834, s394_836, s394_837, s394_838s, s394_839, s394_842i, s394_844, s394_845, s394_848, s394_850, s394_855, s394_857, s394_860, s394_861, s394_862, s394_863, s394_865, s394_866, s394_867, s394_872, s394_3746r, s394_3749, g2, g3, g4, g8, lgz, nI_add, b1, c1, b2, c2, b3, c3, b4, c4, b5, c5, qx_m10, qx_m2, k1, s177_0, s177_1, s177_4, qi_z0, eq_self, List.length_cons, List.length_nil, Nat.zero_le, Nat.reduceAdd, Nat.reduceLeDiff, Option.bind_some, qx_kn_v, qx_kn_n, Nat.add_zero, Bool.false_eq_true, ↓reduceIte]
  · have hk2 : (nI k = 0) = False := eq_false (nI_ne0 (by omega) (by omega))
    simp only [s394_819, s394_820, s394_821, s394_823, s394_824, s394_825s, s394_826, s394_827, s394_830i, s394_832, s394_833, s394_834, s394_836, s394_837, s394_838s, s394_839, s394_842i, s394_844, s394_845, s394_848, s394_850, s394_855, s394_857, s394_860, s394_861, s394_862, s394_863, s394_865, s394_866, s394_867, s394_872, s394_3746r, s394_3749, g2, g3, g4, hk2, nI_add, b1, c1, b2, c2, b3, c3, b4, c4, b5, c5, qx_m10, qx_m2, k1, s177_0, s177_1, s177_4, qi_z0, eq_self, List.length_cons, List.length_nil, Nat.zero_le, Nat.reduceAdd, Nat.reduceLeDiff, Option.bind_some, qx_kn_v, qx_kn_n, Nat.add_zero, Bool.false_eq_true, ↓reduceIte]
theorem k11 {M : qxM} {B i : Nat} {a b : Option Value} (hR : qREL M) (hT : qTab B M) (hB : B < 90000) (h6 : i + 6 ≤ L) (hL : L ≤ 3072) : qTurn L xs d 875 i a b B M := by
  obtain ⟨b1, c1, b2, c2, b3, c3, b4, c4, b5, c5⟩ := qJ_of h6 hL
  have k1 := qx_m400.1
  have hq : qPair L xs (d + 40) 104 [some (.ref 10), some (.int (xs (i + 1)))] 258 [some (.ref 400), some (.int (xs (i + 1)))] ke02 M := j104 (L := L) (xs := xs) (d := d) (M := M) hR (xs (i + 1))
  obtain ⟨k, x1, M1, M2, v, g0, g1, g2, g3, g4, g5, g6, g7⟩ := h342 (qPairG_ok hT hq)
  refine ⟨M2, some (.int (nI k)), some (.int v), x1, g1, g6, g7, fun x => ?_⟩
  by_cases hk : k = 0
  · subst hk
    have g8 := g5 rfl
    unfold qoI at g8
    simp only [s394_875, s394_876, s394_877, s394_879, s394_880, s394_881s, s394_882, s394_883, s394_886i, s394_888, s394_889, s394_890, s394_892, s394_893, s394_894s, s394_895, s394_898i, s394_900, s394_901, s394_904, s394_906, s394_911, s394_913, s394_916, s394_917, s394_918, s394_919, s394_921, s394_922, s394_923, s394_928, s394_3746r, s394_3749, g2, g3, g4, g8, lgz, nI_add, b1, c1, b2, c2, b3, c3, b4, c4, b5, c5, qx_m10, qx_m2, k1, s177_0, s177_1, s177_4, qi_z0, eq_self, List.length_cons, List.length_nil, Nat.zero_le, Nat.reduceAdd, Nat.reduceLeDiff, Option.bind_some, qx_kn_v, qx_kn_n, Nat.add_zero, Bool.false_eq_true, ↓reduceIte]
  · have hk2 : (nI k = 0) = False := eq_false (nI_ne0 (by omega) (by omega))
    simp only [s394_875, s394_876, s394_877, s394_879, s394_880, s394_881s, s394_882, s394_883, s394_886i, s394_888, s394_889, s394_890, s394_892, s394_893, s394_894s, s394_895, s394_898i, s394_900, s394_901, s394_904, s394_906, s394_911, s394_913, s394_916, s394_917, s394_918, s394_919, s394_921, s394_922, s394_923, s394_928, s394_3746r, s394_3749, g2, g3, g4, hk2, nI_add, b1, c1, b2, c2, b3, c3, b4, c4, b5, c5, qx_m10, qx_m2, k1, s177_0, s177_1, s177_4, qi_z0, eq_self, List.length_cons, List.length_nil, Nat.zero_le, Nat.reduceAdd, Nat.reduceLeDiff, Option.bind_some, qx_kn_v, qx_kn_n, Nat.add_zero, Bool.false_eq_true, ↓reduceIte]
theorem k12 {M : qxM} {B i : Nat} {a b : Option Value} (hR : qREL M) (hT : qTab B M) (hB : B < 90000) (h6 : i + 6 ≤ L) (hL : L ≤ 3072) : qTurn L xs d 931 i a b B M := by
  obtain ⟨b1, c1, b2, c2, b3, c3, b4, c4, b5, c5⟩ := qJ_of h6 hL
  have k1 := qx_m400.1
  have hq : qPair L xs (d + 40) 105 [some (.ref 10), some (.int (xs (i + 1)))] 259 [some (.ref 400), some (.int (xs (i + 1)))] ke02 M := j105 (L := L) (xs := xs) (d := d) (M := M) hR (xs (i + 1))
  obtain ⟨k, x1, M1, M2, v, g0, g1, g2, g3, g4, g5, g6, g7⟩ := h343 (qPairG_ok hT hq)
  refine ⟨M2, some (.int (nI k)), some (.int v), x1, g1, g6, g7, fun x => ?_⟩
  by_cases hk : k = 0
  · subst hk
    have g8 := g5 rfl
    unfold qoI at g8
    simp only [s394_931, s394_932, s394_933, s394_935, s394_936, s394_937s, s394_938, s394_939, s394_942i, s394_944, s394_945, s394_946, s394_948, s394_949, s394_950s, s394_951, s394_954i, s394_956, s394_957, s394_960, s394_962, s394_967, s394_969, s394_972, s394_973, s394_974, s394_975, s394_977, s394_978, s394_979, s394_984, s394_3746r, s394_3749, g2, g3, g4, g8, lgz, nI_add, b1, c1, b2, c2, b3, c3, b4, c4, b5, c5, qx_m10, qx_m2, k1, s177_0, s177_1, s177_4, qi_z0, eq_self, List.length_cons, List.length_nil, Nat.zero_le, Nat.reduceAdd, Nat.reduceLeDiff, Option.bind_some, qx_kn_v, qx_kn_n, Nat.add_zero, Bool.false_eq_true, ↓reduceIte]
  · have hk2 : (nI k = 0) = False := eq_false (nI_ne0 (by omega) (by omega))
    simp only [s394_931, s394_932, s394_933, s394_935, s394_936, s394_937s, s394_938, s394_939, s394_942i, s394_944, s394_945, s394_946, s394_948, s394_949, s394_950s, s394_951, s394_954i, s394_956, s394_957, s394_960, s394_962, s394_967, s394_969, s394_972, s394_973, s394_974, s394_975, s394_977, s394_978, s394_979, s394_984, s394_3746r, s394_3749, g2, g3, g4, hk2, nI_add, b1, c1, b2, c2, b3, c3, b4, c4, b5, c5, qx_m10, qx_m2, k1, s177_0, s177_1, s177_4, qi_z0, eq_self, List.length_cons, List.length_nil, Nat.zero_le, Nat.reduceAdd, Nat.reduceLeDiff, Option.bind_some, qx_kn_v, qx_kn_n, Nat.add_zero, Bool.false_eq_true, ↓reduceIte]
theorem k13 {M : qxM} {B i : Nat} {a b : Option Value} (hR : qREL M) (hT : qTab B M) (hB : B < 90000) (h6 : i + 6 ≤ L) (hL : L ≤ 3072) : qTurn L xs d 987 i a b B M := by
  obtain ⟨b1, c1, b2, c2, b3, c3, b4, c4, b5, c5⟩ := qJ_of h6 hL
  have k1 := qx_m400.1
  have hq : qPair L xs (d + 40) 107 [some (.ref 10), some (.int (xs (i + 1)))] 260 [some (.ref 400), some (.int (xs (i + 1)))] ke02 M := j107 (L := L) (xs := xs) (d := d) (M := M) hR (xs (i + 1))
  obtain ⟨k, x1, M1, M2, v, g0, g1, g2, g3, g4, g5, g6, g7⟩ := h344 (qPairG_ok hT hq)
  refine ⟨M2, some (.int (nI k)), some (.int v), x1, g1, g6, g7, fun x => ?_⟩
  by_cases hk : k = 0
  · subst hk
    have g8 := g5 rfl
    unfold qoI at g8
    simp only [s394_987, s394_988, s394_989, s394_991, s394_992, s394_993s, s394_994, s394_995, s394_998i, s394_1000, s394_1001, s394_1002, s394_1004, s394_1005, s394_1006s, s394_1007, s394_1010i, s394_1012, s394_1013, s394_1016, s394_1018, s394_1023, s394_1025, s394_1028, s394_1029, s394_1030, s394_1031, s394_1033, s394_1034, s394_1035, s394_1040, s394_3746r, s394_3749, g2, g3, g4, g8, lgz, nI_add, b1, c1, b2, c2, b3, c3, b4, c4, b5, c5, qx_m10, qx_m2, k1, s177_0, s177_1, s177_4, qi_z0, eq_self, List.length_cons, List.length_nil, Nat.zero_le, Nat.reduceAdd, Nat.reduceLeDiff, Option.bind_some, qx_kn_v, qx_kn_n, Nat.add_zero, Bool.false_eq_true, ↓reduceIte]
  · have hk2 : (nI k = 0) = False := eq_false (nI_ne0 (by omega) (by omega))
    simp only [s394_987, s394_988, s394_989, s394_991, s394_992, s394_993s, s394_994, s394_995, s394_998i, s394_1000, s394_1001, s394_1002, s394_1004, s394_1005, s394_1006s, s394_1007, s394_1010i, s394_1012, s394_1013, s394_1016, s394_1018, s394_1023, s394_1025, s394_1028, s394_1029, s394_1030, s394_1031, s394_1033, s394_1034, s394_1035, s394_1040, s394_3746r, s394_3749, g2, g3, g4, hk2, nI_add, b1, c1, b2, c2, b3, c3, b4, c4, b5, c5, qx_m10, qx_m2, k1, s177_0, s177_1, s177_4, qi_z0, eq_self, List.length_cons, List.length_nil, Nat.zero_le, Nat.reduceAdd, Nat.reduceLeDiff, Option.bind_some, qx_kn_v, qx_kn_n, Nat.add_zero, Bool.false_eq_true, ↓reduceIte]
theorem k14 {M : qxM} {B i : Nat} {a b : Option Value} (hR : qREL M) (hT : qTab B M) (hB : B < 90000) (h6 : i + 6 ≤ L) (hL : L ≤ 3072) : qTurn L xs d 1043 i a b B M := by
  obtain ⟨b1, c1, b2, c2, b3, c3, b4, c4, b5, c5⟩ := qJ_of h6 hL
  have k1 := qx_m400.1
  have hq : qPair L xs (d + 40) 108 [some (.ref 10), some (.int (xs (i + 1)))] 261 [some (.ref 400), some (.int (xs (i + 1)))] ke02 M := j108 (L := L) (xs := xs) (d := d) (M := M) hR (xs (i + 1))
  obtain ⟨k, x1, M1, M2, v, g0, g1, g2, g3, g4, g5, g6, g7⟩ := h345 (qPairG_ok hT hq)
  refine ⟨M2, some (.int (nI k)), some (.int v), x1, g1, g6, g7, fun x => ?_⟩
  by_cases hk : k = 0
  · subst hk
    have g8 := g5 rfl
    unfold qoI at g8
    simp only [s394_1043, s394_1044, s394_1045, s394_1047, s394_1048, s394_1049s, s394_1050, s394_1051, s394_1054i, s394_1056, s394_1057, s394_1058, s394_1060, s394_1061, s394_1062s, s394_1063, s394_1066i, s394_1068, s394_1069, s394_1072, s394_1074, s394_1079, s394_1081, s394_1084, s394_1085, s394_1086, s394_1087, s394_1089, s394_1090, s394_1091, s394_1096, s394_3746r, s394_3749, g2, g3, g4, g8, lgz, nI_add, b1, c1, b2, c2, b3, c3, b4, c4, b5, c5, qx_m10, qx_m2, k1, s177_0, s177_1, s177_4, qi_z0, eq_self, List.length_cons, List.length_nil, Nat.zero_le, Nat.reduceAdd, Nat.reduceLeDiff, Option.bind_some, qx_kn_v, qx_kn_n, Nat.add_zero, Bool.false_eq_true, ↓reduceIte]
  · have hk2 : (nI k = 0) = False := eq_false (nI_ne0 (by omega) (by omega))
    simp only [s394_1043, s394_1044, s394_1045, s394_1047, s394_1048, s394_1049s, s394_1050, s394_1051, s394_1054i, s394_1056, s394_1057, s394_1058, s394_1060, s394_1061, s394_1062s, s394_1063, s394_1066i, s394_1068, s394_1069, s394_1072, s394_1074, s394_1079, s394_1081, s394_1084, s394_1085, s394_1086, s394_1087, s394_1089, s394_1090, s394_1091, s394_1096, s394_3746r, s394_3749, g2, g3, g4, hk2, nI_add, b1, c1, b2, c2, b3, c3, b4, c4, b5, c5, qx_m10, qx_m2, k1, s177_0, s177_1, s177_4, qi_z0, eq_self, List.length_cons, List.length_nil, Nat.zero_le, Nat.reduceAdd, Nat.reduceLeDiff, Option.bind_some, qx_kn_v, qx_kn_n, Nat.add_zero, Bool.false_eq_true, ↓reduceIte]
theorem k15 {M : qxM} {B i : Nat} {a b : Option Value} (hR : qREL M) (hT : qTab B M) (hB : B < 90000) (h6 : i + 6 ≤ L) (hL : L ≤ 3072) : qTurn L xs d 1099 i a b B M := by
  obtain ⟨b1, c1, b2, c2, b3, c3, b4, c4, b5, c5⟩ := qJ_of h6 hL
  have k1 := qx_m400.1
  by_cases hb : xs (i + 2) = 0
  rotate_left
  · have hb2 : (xs (i + 2) = 0) = False := eq_false hb
    have hq : qPair L xs (d + 40) 109 [some (.ref 10), some (.int (xs (i + 1))), some (.int (nI 1))] 262 [some (.ref 400), some (.int (xs (i + 1))), some (.int (nI 1))] ke02 M := j109 (L := L) (xs := xs) (d := d) (M := M) hR (xs (i + 1)) true
    obtain ⟨k, x1, M1, M2, v, g0, g1, g2, g3, g4, g5, g6, g7⟩ := h346 (qPairG_ok hT hq)
    refine ⟨M2, some (.int (nI k)), some (.int v), x1, g1, g6, g7, fun x => ?_⟩
    by_cases hk : k = 0
    · subst hk
      have g8 := g5 rfl
      unfold qoI at g8
      simp only [s394_1099, s394_1100, s394_1101, s394_1103, s394_1104, s394_1105s, s394_1106, s394_1107, s394_1109, s394_1110, s394_1111s, s394_1112, s394_1115, s394_1116, s394_1119, s394_1120, s394_1121, s394_1124i, s394_1126, s394_1127, s394_1128, s394_1130, s394_1131, s394_1132s, s394_1133, s394_1134, s394_1136, s394_1137, s394_1138s, s394_1139, s394_1142, s394_1143, s394_1146, s394_1147, s394_1150i, s394_1152, s394_1153, s394_1156, s394_1158, s394_1163, s394_1165, s394_1168, s394_1169, s394_1170, s394_1171, s394_1173, s394_1174, s394_1175, s394_1180, s394_3746r, s394_3749, g2, g3, g4, g8, hb2, lgz, nI_add, b1, c1, b2, c2, b3, c3, b4, c4, b5, c5, qx_m10, qx_m2, k1, s177_0, s177_1, s177_4, qi_z0, eq_self, List.length_cons, List.length_nil, Nat.zero_le, Nat.reduceAdd, Nat.reduceLeDiff, Option.bind_some, qx_kn_v, qx_kn_n, Nat.add_zero, Bool.false_eq_true, ↓reduceIte]
    · have hk2 : (nI k = 0) = False := eq_false (nI_ne0 (by omega) (by omega))
      simp only [s394_1099, s394_1100, s394_1101, s394_1103, s394_1104, s394_1105s, s394_1106, s394_1107, s394_1109, s394_1110, s394_1111s, s394_1112, s394_1115, s394_1116, s394_1119, s394_1120, s394_1121, s394_1124i, s394_1126, s394_1127, s394_1128, s394_1130, s394_1131, s394_1132s, s394_1133, s394_1134, s394_1136, s394_1137, s394_1138s, s394_1139, s394_1142, s394_1143, s394_1146, s394_1147, s394_1150i, s394_1152, s394_1153, s394_1156, s394_1158, s394_1163, s394_1165, s394_1168, s394_1169, s394_1170, s394_1171, s394_1173, s394_1174, s394_1175, s394_1180, s394_3746r, s394_3749, g2, g3, g4, hk2, hb2, nI_add, b1, c1, b2, c2, b3, c3, b4, c4, b5, c5, qx_m10, qx_m2, k1, s177_0, s177_1, s177_4, qi_z0, eq_self, List.length_cons, List.length_nil, Nat.zero_le, Nat.reduceAdd, Nat.reduceLeDiff, Option.bind_some, qx_kn_v, qx_kn_n, Nat.add_zero, Bool.false_eq_true, ↓reduceIte]
  · have hb2 : (xs (i + 2) = 0) = True := eq_true hb
    have hq : qPair L xs (d + 40) 109 [some (.ref 10), some (.int (xs (i + 1))), some (.int (nI 0))] 262 [some (.ref 400), some (.int (xs (i + 1))), some (.int (nI 0))] ke02 M := j109 (L := L) (xs := xs) (d := d) (M := M) hR (xs (i + 1)) false
    obtain ⟨k, x1, M1, M2, v, g0, g1, g2, g3, g4, g5, g6, g7⟩ := h346 (qPairG_ok hT hq)
    refine ⟨M2, some (.int (nI k)), some (.int v), x1, g1, g6, g7, fun x => ?_⟩
    by_cases hk : k = 0
    · subst hk
      have g8 := g5 rfl
      unfold qoI at g8
      simp only [s394_1099, s394_1100, s394_1101, s394_1103, s394_1104, s394_1105s, s394_1106, s394_1107, s394_1109, s394_1110, s394_1111s, s394_1112, s394_1115, s394_1116, s394_1119, s394_1120, s394_1121, s394_1124i, s394_1126, s394_1127, s394_1128, s394_1130, s394_1131, s394_1132s, s394_1133, s394_1134, s394_1136, s394_1137, s394_1138s, s394_1139, s394_1142, s394_1143, s394_1146, s394_1147, s394_1150i, s394_1152, s394_1153, s394_1156, s394_1158, s394_1163, s394_1165, s394_1168, s394_1169, s394_1170, s394_1171, s394_1173, s394_1174, s394_1175, s394_1180, s394_3746r, s394_3749, g2, g3, g4, g8, hb2, lgz, nI_add, b1, c1, b2, c2, b3, c3, b4, c4, b5, c5, qx_m10, qx_m2, k1, s177_0, s177_1, s177_4, qi_z0, eq_self, List.length_cons, List.length_nil, Nat.zero_le, Nat.reduceAdd, Nat.reduceLeDiff, Option.bind_some, qx_kn_v, qx_kn_n, Nat.add_zero, Bool.false_eq_true, ↓reduceIte]
    · have hk2 : (nI k = 0) = False := eq_false (nI_ne0 (by omega) (by omega))
      simp only [s394_1099, s394_1100, s394_1101, s394_1103, s394_1104, s394_1105s, s394_1106, s394_1107, s394_1109, s394_1110, s394_1111s, s394_1112, s394_1115, s394_1116, s394_1119, s394_1120, s394_1121, s394_1124i, s394_1126, s394_1127, s394_1128, s394_1130, s394_1131, s394_1132s, s394_1133, s394_1134, s394_1136, s394_1137, s394_1138s, s394_1139, s394_1142, s394_1143, s394_1146, s394_1147, s394_1150i, s394_1152, s394_1153, s394_1156, s394_1158, s394_1163, s394_1165, s394_1168, s394_1169, s394_1170, s394_1171, s394_1173, s394_1174, s394_1175, s394_1180, s394_3746r, s394_3749, g2, g3, g4, hk2, hb2, nI_add, b1, c1, b2, c2, b3, c3, b4, c4, b5, c5, qx_m10, qx_m2, k1, s177_0, s177_1, s177_4, qi_z0, eq_self, List.length_cons, List.length_nil, Nat.zero_le, Nat.reduceAdd, Nat.reduceLeDiff, Option.bind_some, qx_kn_v, qx_kn_n, Nat.add_zero, Bool.false_eq_true, ↓reduceIte]
end QC
