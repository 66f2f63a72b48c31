/-! Calls that look: of the class and of the Model. -/
theorem qREL_cmp {M : qxM} (h : qREL M) : (M.1 10 10 = bI false ∧ M.1 400 6 = bI false ∧ M.1 401 0 = nI 0 ∧ M.1 401 35 = nI 0) ∨ (M.1 10 10 = bI true ∧ M.1 400 6 = bI true ∧
    ∃ n r q f mt s1 s2 s3 s4 st rt sp bm ou inn qb e as qa bs lk nr fr wy, qp_ok n r q f mt ∧ 1 ≤ n ∧ (st = 0 ∨ gT n mt ((st, rt, sp, bm), (ou, inn, qb, e, as), qa, bs, lk, nr, fr, wy)) ∧ ou < 16384 ∧ inn < 16384 ∧ e ≤ 14 ∧ st < 4 ∧
      qPu 101 M n r q f mt ∧ (M.1 100 2 = s1 ∧ M.1 100 3 = s2 ∧ M.1 100 4 = s3 ∧ M.1 100 5 = s4) ∧ qS 104 M st rt sp bm ou inn qb e as qa bs lk nr fr wy ∧
      nPu M n r q f mt ∧ (M.1 401 3 = s1 ∧ M.1 401 4 = s2 ∧ M.1 401 5 = s3 ∧ M.1 401 6 = s4) ∧ M.1 401 35 = nI st ∧ (st ≠ 0 → nS M st rt sp bm ou inn qb e as qa bs lk nr fr wy)) := by
  rcases qREL_now h with h | ⟨b1, b2, ⟨⟨n, r, q⟩, f, mt, ⟨s1, s2, s3, s4⟩, ⟨⟨st, rt, sp, bm⟩, ⟨ou, inn, qb, e, as⟩, qa, bs, lk, nr, fr, wy⟩⟩, ⟨g1, g2, ⟨g3, g4, g5⟩, g6⟩, hn, ⟨c1, c2, c3⟩, ⟨d1, d2, d3, d4⟩⟩
  · exact Or.inl h
  · exact Or.inr ⟨b1, b2, n, r, q, f, mt, s1, s2, s3, s4, st, rt, sp, bm, ou, inn, qb, e, as, qa, bs, lk, nr, fr, wy, g1, hn, g2, g3, g4, g5, g6, c1, c2, c3, d1, d2, d3, d4⟩
section QL
variable {L : Nat} {xs : Nat → Int32} {d x : Nat}
theorem g56 {t st : Nat} {M : qxM} (hZ : qx_Z t) (h : M.1 t 0 = nI st) (hs : st < 4) : Rs L xs (d) 56 0 [some (.ref (t))] [] (M) x = some (.inl (some (.int (bI (decide (st ≠ 0))))), M, x) := by
  rw [m56 hZ]
  congr 5
  rw [h]
  by_cases z : st = 0
  · rw [z]
    decide
  · rw [decide_eq_true z, decide_eq_true (nI_ne0 (by omega) (by omega))]
theorem g255 {st : Nat} {M : qxM} (h : M.1 401 35 = nI st) (hs : st < 4) : Rs L xs (d) 255 0 [some (.ref (400))] [] (M) x = some (.inl (some (.int (bI (decide (st ≠ 0))))), M, x) := by
  obtain ⟨k1, k2, k3⟩ := qx_m400
  by_cases z : st = 0
  · have h1 : (nI st ≤ 0) = True := by rw [z]; decide
    have h2 : decide (st ≠ 0) = false := by rw [z]; decide
    simp only [s255_0, s255_1, s255_4, s255_6, s255_7, s255_10, s255_11, s255_14, s255_15, k1, k2, k3, h, h1, h2, bI_f, bI_z, (qn_c (35) (by omega)).1, (qn_c (35) (by omega)).2, List.length_cons, List.length_nil, Nat.zero_le, Nat.reduceAdd, Nat.reduceLeDiff, Option.bind_some, qx_kn_v, qx_kn_n, Nat.add_zero, Bool.false_eq_true, ↓reduceIte]
  · have h1 : ¬ nI st ≤ 0 := nI_nle (by omega) (by omega)
    have h2 : decide (st ≠ 0) = true := decide_eq_true z
    simp only [s255_0, s255_1, s255_4, s255_6, s255_7, s255_10, s255_11, s255_14, s255_15, k1, k2, k3, h, h1, h2, bI_t, bI_z, (qn_c (35) (by omega)).1, (qn_c (35) (by omega)).2, List.length_cons, List.length_nil, Nat.zero_le, Nat.reduceAdd, Nat.reduceLeDiff, Option.bind_some, qx_kn_v, qx_kn_n, Nat.add_zero, Bool.false_eq_true, ↓reduceIte]
theorem qD_t {st : Nat} (h : st ≠ 0) : bI (decide (st ≠ 0)) = bI true := by rw [decide_eq_true h]
theorem qD_f {st : Nat} (h : st = 0) : bI (decide (st ≠ 0)) = bI false := by rw [h]; rfl
theorem j104 {M : qxM} (hR : qREL M) (z : Int32) : qPair L xs (d + 40) 104 [some (.ref 10), some (.int z)] 258 [some (.ref 400), some (.int z)] ke02 M := by
  obtain ⟨k1, k2, k3⟩ := qx_m400
  rcases qREL_cmp hR with ⟨b1, b2, b3, b4⟩ | ⟨b1, b2, n, r, q, f, mt, s1, s2, s3, s4, st, rt, sp, bm, ou, inn, qb, e, as, qa, bs, lk, nr, fr, wy, hp, hn1, hT, hou, hinn, he14, hst4, hu, ⟨a1, a2, a3, a4⟩, hS, hm, ⟨m1, m2, m3, m4⟩, h35, hN⟩
  · refine qPair_of hR 1 0 (by decide) ?_ ?_
    · rw [if_neg (by decide)]
      simp only [s104_0, s104_1, s104_2, qx_m10, a160t b1, List.length_cons, List.length_nil, Nat.zero_le, Nat.reduceAdd, Nat.reduceLeDiff, Option.bind_some, qx_kn_v, qx_kn_n, Nat.add_zero, Bool.false_eq_true, ↓reduceIte]
      exact qx_kn_t rfl rfl rfl
    · intro o
      refine ⟨nI 0, ?_, fun h => absurd h (by decide)⟩
      have h1 := fun (d : Nat) => b226a (L := L) (xs := xs) (d := d) (x := 0) (M := (M.1, o)) b2 b3 (by decide) z
      simp only [s258_0, s258_1, s258_2, s258_4, s258_7, s257_0, s257_1, s257_2, s257_5, s257_8, s257_9, s257_12, s257_15, s257_16, s257_19, s257_20, s257_21, s257_22, s257_23, s257_26, s257_27, s257_30, s257_31, k1, h1, qbt, qbf, qi_z0, true_or, List.length_cons, List.length_nil, Nat.zero_le, Nat.reduceAdd, Nat.reduceLeDiff, Option.bind_some, qx_kn_v, qx_kn_n, Nat.add_zero, Bool.false_eq_true, ↓reduceIte]
  · have hn14 : n ≤ 14 := hp.1
    have hn0 : M.1 101 0 = nI n := hu.1
    by_cases hz : qOut n z
    · refine qPair_of hR 2 0 (by decide) ?_ ?_
      · rw [if_neg (by decide)]
        simp only [s104_0, s104_1, s104_2, qx_m10, a160o b1 hn0 hz, List.length_cons, List.length_nil, Nat.zero_le, Nat.reduceAdd, Nat.reduceLeDiff, Option.bind_some, qx_kn_v, qx_kn_n, Nat.add_zero, Bool.false_eq_true, ↓reduceIte]
        exact qx_kn_t rfl rfl rfl
      · intro o
        refine ⟨nI 0, ?_, fun h => absurd h (by decide)⟩
        have h1 := fun (d : Nat) => b226b (L := L) (xs := xs) (d := d) (x := 0) (M := (M.1, o)) b2 hm.1 hn14 hz
        simp only [s258_0, s258_1, s258_2, s258_4, s258_7, s257_0, s257_1, s257_2, s257_5, s257_8, s257_9, s257_12, s257_15, s257_16, s257_19, s257_20, s257_21, s257_22, s257_23, s257_26, s257_27, s257_30, s257_31, k1, h1, qbt, qbf, qi_z0, true_or, List.length_cons, List.length_nil, Nat.zero_le, Nat.reduceAdd, Nat.reduceLeDiff, Option.bind_some, qx_kn_v, qx_kn_n, Nat.add_zero, Bool.false_eq_true, ↓reduceIte]
    obtain ⟨p, p1, p2⟩ := qOut_not (by omega) hz
    subst p2
    have hp14 : p < 14 := by omega
    have hneed := fun (d x : Nat) => a160 (L := L) (xs := xs) (d := d) (x := x) b1 hn0 hn14 p1
    have hmay := fun (o : (Nat → Int64) × (Nat → UInt64)) (d : Nat) => b226c (L := L) (xs := xs) (d := d) (x := 0) (M := (M.1, o)) b2 hm.1 hn14 p1
    have hZ : qx_Z 104 := qx_T100.2.2
    have hP : qx_P 101 := qx_T100.2.1
    have hst0 : M.1 104 0 = nI st := hS.1.1
    by_cases hs : st = 0
    · refine qPair_of hR 0 (-1) (by decide) ?_ (fun o => ⟨-1, ?_, fun _ => rfl⟩)
      · simp only [s104_0, s104_1, s104_2, s104_5, s104_6, s104_9, s104_12, s104_15, s104_18, s104_19, s104_22, s104_25, s104_26, s104_29, s104_32, s104_33, qx_m10, qx_T100.1, hZ.1, hneed, g56 hZ hst0 hst4, qD_f hs, qbf, List.length_cons, List.length_nil, Nat.zero_le, Nat.reduceAdd, Nat.reduceLeDiff, Option.bind_some, qx_kn_v, qx_kn_n, Nat.add_zero, Bool.false_eq_true, ↓reduceIte]
      · have h1 := fun d => g255 (L := L) (xs := xs) (d := d) (x := 0) (M := qx_up (M.1, o) 400 0 (nI 0)) (show _ = nI st from h35) hst4
        simp only [s258_0, s258_1, s258_2, s258_4, s258_7, s257_0, s257_1, s257_2, s257_5, s257_8, s257_9, s257_12, s257_15, s257_16, s257_19, s257_20, s257_21, s257_22, s257_23, s257_26, s257_27, s257_30, s257_31, k1, hmay, qbt, h1, qD_f hs, qbf, List.length_cons, List.length_nil, Nat.zero_le, Nat.reduceAdd, Nat.reduceLeDiff, Option.bind_some, qx_kn_v, qx_kn_n, Nat.add_zero, Bool.false_eq_true, ↓reduceIte]
    · obtain ⟨hN1, hN2, hN3, hN4⟩ := hN hs
      refine qPair_of hR 0 (nI (qs_lb ou inn p)) (by decide) ?_ (fun o => ⟨nI (qs_lb ou inn p), ?_, fun _ => rfl⟩)
      · simp only [s104_0, s104_1, s104_2, s104_5, s104_6, s104_9, s104_12, s104_15, s104_18, s104_19, s104_22, s104_25, s104_26, s104_29, s104_32, s104_33, qx_m10, qx_T100.1, hZ.1, hneed, g56 hZ hst0 hst4, qD_t hs, qbt, m57 hZ hp14 hS.1.2.2.2.2.1 hou hS.1.2.2.2.2.2.1 hinn, List.length_cons, List.length_nil, Nat.zero_le, Nat.reduceAdd, Nat.reduceLeDiff, Option.bind_some, qx_kn_v, qx_kn_n, Nat.add_zero, Bool.false_eq_true, ↓reduceIte]
        rfl
      · have h1 := fun d => g255 (L := L) (xs := xs) (d := d) (x := 0) (M := qx_up (M.1, o) 400 0 (nI 0)) (show _ = nI st from h35) hst4
        have h2 : (qx_up (M.1, o) 400 0 (nI 0)).1 401 (55 + p) = nI (qs_lb ou inn p) := hN3 p hp14
        simp only [s258_0, s258_1, s258_2, s258_4, s258_7, s257_0, s257_1, s257_2, s257_5, s257_8, s257_9, s257_12, s257_15, s257_16, s257_19, s257_20, s257_21, s257_22, s257_23, s257_26, s257_27, s257_30, s257_31, k1, k2, k3, hmay, qbt, h1, qD_t hs, h2, nI_add, (qn_c (55 + p) (by omega)).1, (qn_c (55 + p) (by omega)).2, List.length_cons, List.length_nil, Nat.zero_le, Nat.reduceAdd, Nat.reduceLeDiff, Option.bind_some, qx_kn_v, qx_kn_n, Nat.add_zero, Bool.false_eq_true, ↓reduceIte]
end QL
