/-! What calls need: of the class, of the Model. -/
theorem qx_m10 : qx_kd 10 = 17 ∧ qx_kd 20 = 11 ∧ qx_kd 30 = 15 ∧ qx_kd 40 = 10 ∧ qx_kd 50 = 3 ∧ qx_ln 50 = 8 ∧ qx_kd 51 = 3 ∧ qx_ln 51 = 2 := by decide +kernel
theorem qx_T_of {s : Nat} (h : (decide (qx_kd s = 14) && (decide (qx_kd (s + 1) = 12 ∧ qx_kd (s + 1 + 1) = 0 ∧ qx_ln (s + 1 + 1) = 14 ∧ qx_kd (s + 1 + 2) = 0 ∧ qx_ln (s + 1 + 2) = 14) && (decide (qx_kd (s + 4) = 13) && ((List.range 6).all (fun j => decide (j = 0 ∨ qx_kd (s + 4 + j) = 0 ∧ qx_ln (s + 4 + j) = 14)) && decide (qx_kd (s + 4 + 6) = 16 ∧ qx_kd (s + 4 + 6 + 1) = 0 ∧ qx_ln (s + 4 + 6 + 1) = 196 ∧ qx_kd (s + 4 + 6 + 2) = 0 ∧ qx_ln (s + 4 + 6 + 2) = 14))))) = true) : qx_T s := by
  simp only [Bool.and_eq_true, decide_eq_true_eq, List.all_eq_true, List.mem_range] at h
  obtain ⟨h1, h2, h3, h4, h5⟩ := h
  refine ⟨h1, h2, h3, ?_, h5⟩
  intro j j1 j2
  rcases h4 j (by omega) with z | z
  · omega
  · exact z
theorem qx_T100 : qx_T 100 := qx_T_of (by decide +kernel)
theorem qx_T120 : qx_T 120 := qx_T_of (by decide +kernel)
theorem qx_T140 : qx_T 140 := qx_T_of (by decide +kernel)
theorem qx_T160 : qx_T 160 := qx_T_of (by decide +kernel)
theorem qx_T180 : qx_T 180 := qx_T_of (by decide +kernel)
theorem qx_T200 : qx_T 200 := qx_T_of (by decide +kernel)
theorem qx_T220 : qx_T 220 := qx_T_of (by decide +kernel)
theorem qx_T240 : qx_T 240 := qx_T_of (by decide +kernel)
theorem qx_T260 : qx_T 260 := qx_T_of (by decide +kernel)
theorem qx_T280 : qx_T 280 := qx_T_of (by decide +kernel)
theorem qx_T300 : qx_T 300 := qx_T_of (by decide +kernel)
theorem qx_T320 : qx_T 320 := qx_T_of (by decide +kernel)
theorem qx_Te {j : Nat} (h : j < 8) : qx_T (140 + 20 * j) := by
  have : j = 0 ∨ j = 1 ∨ j = 2 ∨ j = 3 ∨ j = 4 ∨ j = 5 ∨ j = 6 ∨ j = 7 := by omega
  rcases this with e | e | e | e | e | e | e | e <;> subst e
  · exact qx_T140
  · exact qx_T160
  · exact qx_T180
  · exact qx_T200
  · exact qx_T220
  · exact qx_T240
  · exact qx_T260
  · exact qx_T280
theorem qx_Ts {j : Nat} (h : j < 2) : qx_T (300 + 20 * j) := by
  have : j = 0 ∨ j = 1 := by omega
  rcases this with e | e <;> subst e
  · exact qx_T300
  · exact qx_T320
theorem qx_36 : ((3 : Nat) < 6) = True := by decide
theorem qbt : (bI true = 0) = False := by decide
theorem qbf : (bI false = 0) = True := by decide
theorem qi_11 : (nI 1 = 1) = True := by decide
section QL
variable {L : Nat} {xs : Nat → Int32} {d x : Nat} {M : qxM}
theorem a159 (h : M.1 10 10 = bI true) : Rs L xs (d) 159 0 [some (.ref (10))] [] (M) x = some (.inl (none), M, x) := by
  simp only [s159_0, s159_1, s159_4, s159_7, s159_10r, s159_10i, s159_18, qx_m10, h, bI_0, Bool.true_eq_false, List.length_cons, List.length_nil, Nat.zero_le, Nat.reduceAdd, Nat.reduceLeDiff, Option.bind_some, qx_kn_v, qx_kn_n, Nat.add_zero, Bool.false_eq_true, ↓reduceIte]
theorem a159t (h : M.1 10 10 = bI false) : Rs L xs d 159 0 [some (.ref 10)] [] M x = some (.inr (qx_ex 0), M, x + 1) := by
  simp only [s159_0, s159_1, s159_4, s159_7, s159_10r, s159_10i, s159_18, qx_m10, h, bI_0, List.length_cons, List.length_nil, Nat.zero_le, Nat.reduceAdd, Nat.reduceLeDiff, Option.bind_some, qx_kn_v, qx_kn_n, Nat.add_zero, Bool.false_eq_true, ↓reduceIte]
/-- whether a number isn't below a bound -/
abbrev qOut (n : Nat) (z : Int32) : Prop := z < 0 ∨ nI n ≤ z
theorem qOut_not {n : Nat} (hn : n < 2 ^ 31) {z : Int32} (h : ¬ qOut n z) : ∃ p, p < n ∧ z = nI p := by
  rcases pk_ix z hn with q | q | q
  · exact absurd (Or.inl q) h
  · exact absurd (Or.inr q) h
  · exact q
theorem qOut_in {n p : Nat} (hn : n < 2 ^ 31) (h : p < n) : ¬ qOut n (nI p) := by
  rintro (q | q)
  · exact nI_pos (by omega) q
  · exact nI_ge h hn q
theorem i_nlt {a b : Int32} : (¬ a < b) = (b ≤ a) := propext Int32.not_lt
theorem i_nle {a b : Int32} : (¬ a ≤ b) = (b < a) := propext Int32.not_le
theorem a160 {n p : Nat} (h : M.1 10 10 = bI true) (hn : M.1 101 0 = nI n) (hn2 : n ≤ 14) (hp : p < n) : Rs L xs (d + 1) 160 0 [some (.ref (10)), some (.int (nI p))] [] (M) x = some (.inl (none), M, x) := by
  have h1 : ¬ nI p < 0 := nI_pos (by omega)
  have h2 : nI p < nI n := nI_lt hp (by omega)
  simp only [s160_0, s160_1, s160_4, s160_5, s160_8, s160_9, s160_10, s160_13, s160_16, s160_19, s160_22, s160_25r, s160_25i, s160_33, qx_m10, qx_T100.1, qx_T100.2.1.1, a159 h, hn, h1, h2, List.length_cons, List.length_nil, Nat.zero_le, Nat.reduceAdd, Nat.reduceLeDiff, Option.bind_some, qx_kn_v, qx_kn_n, Nat.add_zero, Bool.false_eq_true, ↓reduceIte]
theorem a160t {z : Int32} (h : M.1 10 10 = bI false) : Rs L xs (d + 1) 160 0 [some (.ref 10), some (.int z)] [] M x = some (.inr (qx_ex 0), M, x + 1) := by
  simp only [s160_0, s160_1, s160_4, s160_5, s160_8, s160_9, s160_10, s160_13, s160_16, s160_19, s160_22, s160_25r, s160_25i, s160_33, qx_m10, a159t h, List.length_cons, List.length_nil, Nat.zero_le, Nat.reduceAdd, Nat.reduceLeDiff, Option.bind_some, qx_kn_v, qx_kn_n, Nat.add_zero, Bool.false_eq_true, ↓reduceIte]
  exact qx_kn_t rfl rfl rfl
theorem a160o {n : Nat} {z : Int32} (h : M.1 10 10 = bI true) (hn : M.1 101 0 = nI n) (ho : qOut n z) : Rs L xs (d + 1) 160 0 [some (.ref 10), some (.int z)] [] M x = some (.inr (qx_ex 2), M, x + 1) := by
  by_cases h1 : z < 0
  · simp only [s160_0, s160_1, s160_4, s160_5, s160_8, s160_9, s160_10, s160_13, s160_16, s160_19, s160_22, s160_25r, s160_25i, s160_33, qx_m10, a159 h, h1, List.length_cons, List.length_nil, Nat.zero_le, Nat.reduceAdd, Nat.reduceLeDiff, Option.bind_some, qx_kn_v, qx_kn_n, Nat.add_zero, Bool.false_eq_true, ↓reduceIte]
  · have h2 : ¬ z < nI n := by
      rcases ho with q | q
      · exact absurd q h1
      · rw [i_nlt]
        exact q
    simp only [s160_0, s160_1, s160_4, s160_5, s160_8, s160_9, s160_10, s160_13, s160_16, s160_19, s160_22, s160_25r, s160_25i, s160_33, qx_m10, qx_T100.1, qx_T100.2.1.1, a159 h, hn, h1, h2, List.length_cons, List.length_nil, Nat.zero_le, Nat.reduceAdd, Nat.reduceLeDiff, Option.bind_some, qx_kn_v, qx_kn_n, Nat.add_zero, Bool.false_eq_true, ↓reduceIte]
theorem a161 {n p q : Nat} (h : M.1 10 10 = bI true) (hn : M.1 101 0 = nI n) (hn2 : n ≤ 14) (hp : p < n) (hq : q < n) : Rs L xs (d + 2) 161 0 [some (.ref (10)), some (.int (nI p)), some (.int (nI q))] [] (M) x = some (.inl (none), M, x) := by
  simp only [s161_0, s161_1, s161_2, s161_5, s161_6, s161_7, s161_10, qx_m10, a160 h hn hn2 hp, a160 h hn hn2 hq, List.length_cons, List.length_nil, Nat.zero_le, Nat.reduceAdd, Nat.reduceLeDiff, Option.bind_some, qx_kn_v, qx_kn_n, Nat.add_zero, Bool.false_eq_true, ↓reduceIte]
theorem a161t {z y : Int32} (h : M.1 10 10 = bI false) : Rs L xs (d + 2) 161 0 [some (.ref 10), some (.int z), some (.int y)] [] M x = some (.inr (qx_ex 0), M, x + 1) := by
  simp only [s161_0, s161_1, s161_2, s161_5, s161_6, s161_7, s161_10, qx_m10, a160t h, List.length_cons, List.length_nil, Nat.zero_le, Nat.reduceAdd, Nat.reduceLeDiff, Option.bind_some, qx_kn_v, qx_kn_n, Nat.add_zero, Bool.false_eq_true, ↓reduceIte]
  exact qx_kn_t rfl rfl rfl
theorem a161o {n : Nat} {z y : Int32} (h : M.1 10 10 = bI true) (hn : M.1 101 0 = nI n) (hn2 : n ≤ 14) (ho : qOut n z ∨ qOut n y) : Rs L xs (d + 2) 161 0 [some (.ref 10), some (.int z), some (.int y)] [] M x = some (.inr (qx_ex 2), M, x + 1) := by
  by_cases h1 : qOut n z
  · simp only [s161_0, s161_1, s161_2, s161_5, s161_6, s161_7, s161_10, qx_m10, a160o h hn h1, List.length_cons, List.length_nil, Nat.zero_le, Nat.reduceAdd, Nat.reduceLeDiff, Option.bind_some, qx_kn_v, qx_kn_n, Nat.add_zero, Bool.false_eq_true, ↓reduceIte]
    exact qx_kn_t rfl rfl rfl
  · obtain ⟨p, p1, p2⟩ := qOut_not (by omega) h1
    have h2 : qOut n y := by
      rcases ho with q | q
      · exact absurd q h1
      · exact q
    rw [p2]
    simp only [s161_0, s161_1, s161_2, s161_5, s161_6, s161_7, s161_10, qx_m10, a160 h hn hn2 p1, a160o h hn h2, List.length_cons, List.length_nil, Nat.zero_le, Nat.reduceAdd, Nat.reduceLeDiff, Option.bind_some, qx_kn_v, qx_kn_n, Nat.add_zero, Bool.false_eq_true, ↓reduceIte]
    exact qx_kn_t rfl rfl rfl
theorem a162 {k p : Nat} (hk : k < 100) (hp : p ≤ k) : Rs L xs (d) 162 0 [some (.ref (10)), some (.int (nI p)), some (.int (nI k))] [] (M) x = some (.inl (none), M, x) := by
  have h1 : ¬ nI p < 0 := nI_pos (by omega)
  have h2 : nI p ≤ nI k := nI_le hp (by omega)
  simp only [s162_0, s162_1, s162_4, s162_5, s162_6, s162_9, s162_12r, s162_12i, s162_20, h1, h2, List.length_cons, List.length_nil, Nat.zero_le, Nat.reduceAdd, Nat.reduceLeDiff, Option.bind_some, qx_kn_v, qx_kn_n, Nat.add_zero, Bool.false_eq_true, ↓reduceIte]
theorem a162t {k : Nat} {z : Int32} (hk : k < 100) (ho : qOut (k + 1) z) : Rs L xs d 162 0 [some (.ref 10), some (.int z), some (.int (nI k))] [] M x = some (.inr (qx_ex 1), M, x + 1) := by
  by_cases h1 : z < 0
  · simp only [s162_0, s162_1, s162_4, s162_5, s162_6, s162_9, s162_12r, s162_12i, s162_20, h1, List.length_cons, List.length_nil, Nat.zero_le, Nat.reduceAdd, Nat.reduceLeDiff, Option.bind_some, qx_kn_v, qx_kn_n, Nat.add_zero, Bool.false_eq_true, ↓reduceIte]
  · have h2 : ¬ z ≤ nI k := by
      intro q
      rcases ho with r | r
      · exact h1 r
      · have := Int32.le_trans r q
        exact nI_ge (show k < k + 1 by omega) (by omega) this
    simp only [s162_0, s162_1, s162_4, s162_5, s162_6, s162_9, s162_12r, s162_12i, s162_20, h1, h2, List.length_cons, List.length_nil, Nat.zero_le, Nat.reduceAdd, Nat.reduceLeDiff, Option.bind_some, qx_kn_v, qx_kn_n, Nat.add_zero, Bool.false_eq_true, ↓reduceIte]
theorem a164 {p : Nat} (hp : p < 2) : Rs L xs (d) 164 0 [some (.ref (10)), some (.int (nI p))] [] (M) x = some (.inl (none), M, x) := by
  have h1 : ¬ nI p < 0 := nI_pos (by omega)
  have h2 : nI p < nI 2 := nI_lt hp (by omega)
  simp only [s164_0, s164_1, s164_4, s164_5, s164_6, s164_9, s164_12r, s164_12i, s164_20, h1, h2, List.length_cons, List.length_nil, Nat.zero_le, Nat.reduceAdd, Nat.reduceLeDiff, Option.bind_some, qx_kn_v, qx_kn_n, Nat.add_zero, Bool.false_eq_true, ↓reduceIte]
theorem a164t {z : Int32} (ho : qOut 2 z) : Rs L xs d 164 0 [some (.ref 10), some (.int z)] [] M x = some (.inr (qx_ex 2), M, x + 1) := by
  by_cases h1 : z < 0
  · simp only [s164_0, s164_1, s164_4, s164_5, s164_6, s164_9, s164_12r, s164_12i, s164_20, h1, List.length_cons, List.length_nil, Nat.zero_le, Nat.reduceAdd, Nat.reduceLeDiff, Option.bind_some, qx_kn_v, qx_kn_n, Nat.add_zero, Bool.false_eq_true, ↓reduceIte]
  · have h2 : ¬ z < nI 2 := by
      rcases ho with q | q
      · exact absurd q h1
      · rw [i_nlt]
        exact q
    simp only [s164_0, s164_1, s164_4, s164_5, s164_6, s164_9, s164_12r, s164_12i, s164_20, h1, h2, List.length_cons, List.length_nil, Nat.zero_le, Nat.reduceAdd, Nat.reduceLeDiff, Option.bind_some, qx_kn_v, qx_kn_n, Nat.add_zero, Bool.false_eq_true, ↓reduceIte]
theorem a165 (h : M.1 10 10 = bI true) (hs : M.1 104 0 = nI 1) : Rs L xs (d + 1) 165 0 [some (.ref (10))] [] (M) x = some (.inl (none), M, x) := by
  simp only [s165_0, s165_1, s165_4, s165_5, s165_8, s165_11, s165_14, s165_15, s165_18, s165_21r, s165_21i, s165_29, qx_m10, qx_T100.1, qx_T100.2.2.1, a159 h, hs, eq_self, List.length_cons, List.length_nil, Nat.zero_le, Nat.reduceAdd, Nat.reduceLeDiff, Option.bind_some, qx_kn_v, qx_kn_n, Nat.add_zero, Bool.false_eq_true, ↓reduceIte]
theorem a165t (h : M.1 10 10 = bI false) : Rs L xs (d + 1) 165 0 [some (.ref 10)] [] M x = some (.inr (qx_ex 0), M, x + 1) := by
  simp only [s165_0, s165_1, s165_4, s165_5, s165_8, s165_11, s165_14, s165_15, s165_18, s165_21r, s165_21i, s165_29, qx_m10, a159t h, List.length_cons, List.length_nil, Nat.zero_le, Nat.reduceAdd, Nat.reduceLeDiff, Option.bind_some, qx_kn_v, qx_kn_n, Nat.add_zero, Bool.false_eq_true, ↓reduceIte]
  exact qx_kn_t rfl rfl rfl
theorem a165o {st : Nat} (h : M.1 10 10 = bI true) (hs : M.1 104 0 = nI st) (hs4 : st < 4) (hs1 : st ≠ 1) : Rs L xs (d + 1) 165 0 [some (.ref 10)] [] M x = some (.inr (qx_ex 1), M, x + 1) := by
  have h1 : (nI st = nI 1) = False := by
    rw [qi_eq (by omega) (by decide)]
    exact eq_false hs1
  simp only [s165_0, s165_1, s165_4, s165_5, s165_8, s165_11, s165_14, s165_15, s165_18, s165_21r, s165_21i, s165_29, qx_m10, qx_T100.1, qx_T100.2.2.1, a159 h, hs, h1, List.length_cons, List.length_nil, Nat.zero_le, Nat.reduceAdd, Nat.reduceLeDiff, Option.bind_some, qx_kn_v, qx_kn_n, Nat.add_zero, Bool.false_eq_true, ↓reduceIte]
theorem a167e {j : Nat} (hj : j < 8) : Rs L xs d 167 0 [some (.ref 10), some (.ref 50), some (.int (nI j)), none] [] M x = some (.inl (some (.ref (140 + 20 * j))), M, x) := by
  have h1 : ¬ nI j < 0 := nI_pos (by omega)
  have h2 : ¬ nI 8 ≤ nI j := nI_ge hj (by decide)
  have h3 : qx_ib (nI j) 8 = true := qx_ib_of hj (by decide)
  have h4 : (nI j).toNatClampNeg = j := nI_clamp (by omega)
  have h5 : qx_ar 50 j = 140 + 20 * j := if_pos rfl
  simp only [s167_0, s167_1, s167_4, s167_5, s167_5n, s167_6, s167_7, s167_10, s167_10n, s167_11, s167_12, s167_13, s167_16, s167_17i, s167_17iN, s167_17r, s167_17rN, s167_17n, s167_17nN, s167_18, s167_18n, s167_19, s167_19n, s167_22, s167_22n, s167_23, s167_26, s167_26n, s167_27, s167_30, qx_m10, qx_36, h1, h2, h3, h4, h5, List.length_cons, List.length_nil, Nat.zero_le, Nat.reduceAdd, Nat.reduceLeDiff, Option.bind_some, qx_kn_v, qx_kn_n, Nat.add_zero, Bool.false_eq_true, ↓reduceIte]
theorem a167s {j : Nat} (hj : j < 2) : Rs L xs d 167 0 [some (.ref 10), some (.ref 51), some (.int (nI j)), none] [] M x = some (.inl (some (.ref (300 + 20 * j))), M, x) := by
  have h1 : ¬ nI j < 0 := nI_pos (by omega)
  have h2 : ¬ nI 2 ≤ nI j := nI_ge hj (by decide)
  have h3 : qx_ib (nI j) 2 = true := qx_ib_of hj (by decide)
  have h4 : (nI j).toNatClampNeg = j := nI_clamp (by omega)
  have h5 : qx_ar 51 j = 300 + 20 * j := if_neg (by decide)
  simp only [s167_0, s167_1, s167_4, s167_5, s167_5n, s167_6, s167_7, s167_10, s167_10n, s167_11, s167_12, s167_13, s167_16, s167_17i, s167_17iN, s167_17r, s167_17rN, s167_17n, s167_17nN, s167_18, s167_18n, s167_19, s167_19n, s167_22, s167_22n, s167_23, s167_26, s167_26n, s167_27, s167_30, qx_m10, qx_36, h1, h2, h3, h4, h5, List.length_cons, List.length_nil, Nat.zero_le, Nat.reduceAdd, Nat.reduceLeDiff, Option.bind_some, qx_kn_v, qx_kn_n, Nat.add_zero, Bool.false_eq_true, ↓reduceIte]
/-- the Model's: in, may -/
theorem qOut_iff {n : Nat} (hn : n < 1000) (z : Int32) : (¬ z < nI 0 ∧ ¬ (nI n - nI 1) < z) ↔ ¬ qOut n z := by
  have e1 : (nI n - nI 1).toInt = (n : Int) - 1 := by
    have := pk_sub_toInt (a := n) (b := 1) (by omega) (by omega)
    simpa using this
  have e2 : (nI n).toInt = (n : Int) := nI_toInt (by omega)
  have e0 : (nI 0).toInt = 0 := by decide
  have e3 : (0 : Int32).toInt = 0 := by decide
  unfold qOut
  rw [Int32.lt_iff_toInt_lt, Int32.lt_iff_toInt_lt, Int32.lt_iff_toInt_lt, Int32.le_iff_toInt_le, e1, e2, e0, e3]
  omega
theorem a178 (z lo hi : Int32) : Rs L xs (d) 178 0 [some (.int (z)), some (.int (lo)), some (.int (hi))] [] (M) x = some (.inl (some (.int (bI (decide (¬ z < lo ∧ ¬ hi < z))))), M, x) := by
  by_cases h1 : z < lo
  · have h3 : decide (¬ z < lo ∧ ¬ hi < z) = false := decide_eq_false (fun q => q.1 h1)
    simp only [s178_0, s178_1, s178_2, s178_5, s178_6, s178_7, s178_10, s178_11, s178_14, s178_15, h1, h3, bI_z, bI_f, List.length_cons, List.length_nil, Nat.zero_le, Nat.reduceAdd, Nat.reduceLeDiff, Option.bind_some, qx_kn_v, qx_kn_n, Nat.add_zero, Bool.false_eq_true, ↓reduceIte]
    rw [decide_eq_false (fun q => q.1 trivial)]
  · by_cases h2 : hi < z
    · simp only [s178_0, s178_1, s178_2, s178_5, s178_6, s178_7, s178_10, s178_11, s178_14, s178_15, h1, h2, bI_z, bI_f, List.length_cons, List.length_nil, Nat.zero_le, Nat.reduceAdd, Nat.reduceLeDiff, Option.bind_some, qx_kn_v, qx_kn_n, Nat.add_zero, Bool.false_eq_true, ↓reduceIte]
      rw [decide_eq_false (fun q => q.2 trivial)]
    · simp only [s178_0, s178_1, s178_2, s178_5, s178_6, s178_7, s178_10, s178_11, s178_14, s178_15, h1, h2, bI_z, bI_t, List.length_cons, List.length_nil, Nat.zero_le, Nat.reduceAdd, Nat.reduceLeDiff, Option.bind_some, qx_kn_v, qx_kn_n, Nat.add_zero, Bool.false_eq_true, ↓reduceIte]
      rw [decide_eq_true ⟨fun q => q, fun q => q⟩]
theorem a178n {n : Nat} (hn : n < 1000) (z : Int32) : Rs L xs (d) 178 0 [some (.int (z)), some (.int (nI 0)), some (.int (nI n - nI 1))] [] (M) x = some (.inl (some (.int (bI (!decide (qOut n z))))), M, x) := by
  rw [a178]
  congr 5
  by_cases h : qOut n z
  · rw [decide_eq_true h, decide_eq_false (fun q => (qOut_iff hn z).mp q h)]
    rfl
  · rw [decide_eq_false h, decide_eq_true ((qOut_iff hn z).mpr h)]
    rfl
theorem a178k {k : Nat} (hk : k < 900) (z : Int32) : Rs L xs (d) 178 0 [some (.int (z)), some (.int (nI 0)), some (.int (nI k))] [] (M) x = some (.inl (some (.int (bI (!decide (qOut (k + 1) z))))), M, x) := by
  have h := a178n (L := L) (xs := xs) (d := d) (x := x) (M := M) (n := k + 1) (by omega) z
  rw [pk_sub (by omega), Nat.add_sub_cancel] at h
  exact h
def qC3 (b1 b2 b3 : Bool) : Nat := if b1 then (if b2 then (if b3 then 0 else 3) else 2) else 1
theorem a180 (b1 b2 b3 : Bool) : Rs L xs (d) 180 0 [some (.ref (400)), some (.int (bI b1)), some (.int (bI b2)), some (.int (bI b3))] [] (M) x = some (.inl (some (.int (bI (decide (qC3 b1 b2 b3 = 0))))), qx_up M 400 0 (nI (qC3 b1 b2 b3)), x) := by
  have k1 := qx_m400.1
  have e : ∀ v, (qx_up M 400 0 v).1 400 0 = v := fun v => by simp [qx_up_at]
  have z3 : ¬ nI 3 = 0 := by decide
  have z2 : ¬ nI 2 = 0 := by decide
  cases b1 <;> cases b2 <;> cases b3 <;> simp only [s180_0, s180_1, s180_2, s180_5, s180_6, s180_9, s180_10, s180_13, s180_14, s180_17, s180_18, s180_21, s180_22, s180_25, s180_26, s180_29, s180_30, s180_33, s180_36, s180_37, s180_40, s180_41, k1, e, bI_0, Bool.true_eq_false, qi_z1, qi_z0, qi_11, true_or, or_true, false_or, z2, z3, qC3, List.length_cons, List.length_nil, Nat.zero_le, Nat.reduceAdd, Nat.reduceLeDiff, Option.bind_some, qx_kn_v, qx_kn_n, Nat.add_zero, Bool.false_eq_true, ↓reduceIte] <;> rfl
theorem a181 (b1 b2 : Bool) : Rs L xs (d + 1) 181 0 [some (.ref (400)), some (.int (bI b1)), some (.int (bI b2))] [] (M) x = some (.inl (some (.int (bI (decide (qC3 b1 b2 true = 0))))), qx_up M 400 0 (nI (qC3 b1 b2 true)), x) := by
  have h := a180 (L := L) (xs := xs) (d := d) (x := 0) (M := M) b1 b2 true
  rw [← bI_t] at h
  simp only [s181_0, s181_1, s181_2, s181_3, s181_4, s181_7, qx_m400.1, h, bI_z, List.length_cons, List.length_nil, Nat.zero_le, Nat.reduceAdd, Nat.reduceLeDiff, Option.bind_some, qx_kn_v, qx_kn_n, Nat.add_zero, Bool.false_eq_true, ↓reduceIte]
theorem a211 {n : Nat} (hn : M.1 401 0 = nI n) (hn2 : n ≤ 14) (z : Int32) : Rs L xs (d + 1) 211 0 [some (.ref (400)), some (.int (z))] [] (M) x = some (.inl (some (.int (bI (!decide (qOut n z))))), M, x) := by
  obtain ⟨k1, k2, k3⟩ := qx_m400
  simp only [s211_0, s211_1, s211_2, s211_3, s211_6, s211_7, s211_8, s211_9, s211_10, s211_13, k1, k2, k3, hn, a178n (show n < 1000 by omega), bI_z, (qn_c (0) (by omega)).1, (qn_c (0) (by omega)).2, List.length_cons, List.length_nil, Nat.zero_le, Nat.reduceAdd, Nat.reduceLeDiff, Option.bind_some, qx_kn_v, qx_kn_n, Nat.add_zero, Bool.false_eq_true, ↓reduceIte]
theorem a226 {n : Nat} {b : Bool} (hb : M.1 400 6 = bI b) (hn : M.1 401 0 = nI n) (hn2 : n ≤ 14) (z : Int32) : Rs L xs (d + 2) 226 0 [some (.ref (400)), some (.int (z))] [] (M) x = some (.inl (some (.int (bI (decide (qC3 b (!decide (qOut n z)) true = 0))))), qx_up M 400 0 (nI (qC3 b (!decide (qOut n z)) true)), x) := by
  simp only [s226_0, s226_1, s226_2, s226_5, s226_6, s226_7, s226_10, s226_13, qx_m400.1, hb, a211 hn hn2, a181, bI_z, List.length_cons, List.length_nil, Nat.zero_le, Nat.reduceAdd, Nat.reduceLeDiff, Option.bind_some, qx_kn_v, qx_kn_n, Nat.add_zero, Bool.false_eq_true, ↓reduceIte]
theorem a227 {n : Nat} {b : Bool} (hb : M.1 400 6 = bI b) (hn : M.1 401 0 = nI n) (hn2 : n ≤ 14) (z y : Int32) : Rs L xs (d + 2) 227 0 [some (.ref (400)), some (.int (z)), some (.int (y))] [] (M) x = some (.inl (some (.int (bI (decide (qC3 b (!decide (qOut n z) && !decide (qOut n y)) true = 0))))), qx_up M 400 0 (nI (qC3 b (!decide (qOut n z) && !decide (qOut n y)) true)), x) := by
  have h1 := a181 (L := L) (xs := xs) (d := d) (x := 0) (M := M) b true
  have h2 := a181 (L := L) (xs := xs) (d := d) (x := 0) (M := M) b false
  rw [← bI_t] at h1
  rw [← bI_f] at h2
  cases hz : decide (qOut n z)
  · cases hy : decide (qOut n y)
    · simp only [s227_0, s227_1, s227_2, s227_5, s227_6, s227_7, s227_10, s227_13, s227_14, s227_15, s227_18, s227_21, s227_22, s227_25, s227_26, s227_29, qx_m400.1, hb, a211 hn hn2, hz, hy, Bool.not_false, Bool.not_true, qbt, qbf, Bool.true_and, h1, bI_z, List.length_cons, List.length_nil, Nat.zero_le, Nat.reduceAdd, Nat.reduceLeDiff, Option.bind_some, qx_kn_v, qx_kn_n, Nat.add_zero, Bool.false_eq_true, ↓reduceIte]
    · simp only [s227_0, s227_1, s227_2, s227_5, s227_6, s227_7, s227_10, s227_13, s227_14, s227_15, s227_18, s227_21, s227_22, s227_25, s227_26, s227_29, qx_m400.1, hb, a211 hn hn2, hz, hy, Bool.not_false, Bool.not_true, qbt, qbf, Bool.true_and, h2, bI_z, List.length_cons, List.length_nil, Nat.zero_le, Nat.reduceAdd, Nat.reduceLeDiff, Option.bind_some, qx_kn_v, qx_kn_n, Nat.add_zero, Bool.false_eq_true, ↓reduceIte]
  · simp only [s227_0, s227_1, s227_2, s227_5, s227_6, s227_7, s227_10, s227_13, s227_14, s227_15, s227_18, s227_21, s227_22, s227_25, s227_26, s227_29, qx_m400.1, hb, a211 hn hn2, hz, Bool.not_false, Bool.not_true, qbt, qbf, Bool.false_and, h2, bI_z, List.length_cons, List.length_nil, Nat.zero_le, Nat.reduceAdd, Nat.reduceLeDiff, Option.bind_some, qx_kn_v, qx_kn_n, Nat.add_zero, Bool.false_eq_true, ↓reduceIte]
theorem a263 {b : Bool} (hb : M.1 400 6 = bI b) : Rs L xs (d + 1) 263 0 [some (.ref (400))] [] (M) x = some (.inl (some (.int (bI (decide (qC3 b true true = 0))))), qx_up M 400 0 (nI (qC3 b true true)), x) := by
  have h1 := a180 (L := L) (xs := xs) (d := d) (x := 0) (M := M) b true true
  rw [← bI_t] at h1
  simp only [s263_0, s263_1, s263_2, s263_5, s263_6, s263_7, s263_10, qx_m400.1, hb, h1, bI_z, List.length_cons, List.length_nil, Nat.zero_le, Nat.reduceAdd, Nat.reduceLeDiff, Option.bind_some, qx_kn_v, qx_kn_n, Nat.add_zero, Bool.false_eq_true, ↓reduceIte]
theorem a177 : Rs L xs (d) 177 0 [some (.ref (400))] [] (M) x = some (.inl (some (.int (M.1 400 0))), M, x) := by
  simp only [s177_0, s177_1, s177_4, qx_m400.1]
end QL
