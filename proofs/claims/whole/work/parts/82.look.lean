/-! Calls that look: base, link, bridge, group, ways. -/
theorem gT_g {n : Nat} {mt : Nat → Nat} {st rt sp bm ou inn qb e as : Nat} {qa bs lk nr fr : Nat → Nat} {wy : Nat → List Nat} (h : st = 0 ∨ gT n mt ((st, rt, sp, bm), (ou, inn, qb, e, as), qa, bs, lk, nr, fr, wy)) (hs : st ≠ 0) :
    ∃ mt0 tm, qg_ok n rt mt0 ou inn qb e as qa tm bs lk wy ∧ (st ≠ 2 → mt0 = mt) ∧ (st = 1 → qb < e) := by
  obtain ⟨h1, ⟨mt0, tm, h2, h3⟩, h4⟩ := h.resolve_left hs
  exact ⟨mt0, tm, h2, h3, h4⟩
theorem qg_bsn {n rt : Nat} {mt : Nat → Nat} {ou inn qb e as : Nat} {qa tm bs lk : Nat → Nat} {wy : Nat → List Nat} (h : qg_ok n rt mt ou inn qb e as qa tm bs lk wy) :
    (∀ p, p < n → bs p < n) ∧ (∀ j, n ≤ j → bs j = j) ∧ (∀ p, bs (bs p) = bs p) ∧ (∀ p, ou.testBit p = false → wy p = []) := by
  obtain ⟨h1, h2, h3, h4, h5, h6, a1, a2, a3, a4, a5, a6, a7, a8, a9⟩ := h
  refine ⟨?_, ?_, ?_, ?_⟩
  · intro p hp
    by_cases q : qO ou p
    · exact (a1 _ (a1 p q).2.2.2.2.1).1
    · rw [(a6 p q).1]
      exact hp
  · intro j hj
    exact (a6 j (fun q => by have := (a1 j q).1; omega)).1
  · intro p
    by_cases q : qO ou p
    · exact (a1 p q).2.2.2.2.2.1
    · rw [(a6 p q).1, (a6 p q).1]
  · intro p hp
    exact (a6 p (fun q => by unfold qO at q; rw [hp] at q; exact absurd q (by decide))).2
section QL
variable {L : Nat} {xs : Nat → Int32} {d x : Nat}
theorem j107 {M : qxM} (hR : qREL M) (z : Int32) : qPair L xs (d + 40) 107 [some (.ref 10), some (.int z)] 260 [some (.ref 400), some (.int z)] ke02 M := by
  obtain ⟨k1, k2, k3⟩ := qx_m400
  rcases qREL_cmp hR with ⟨b1, b2, b3, b4⟩ | ⟨b1, b2, n, r, q, f, mt, s1, s2, s3, s4, st, rt, sp, bm, ou, inn, qb, e, as, qa, bs, lk, nr, fr, wy, hp, hn1, hT, hou, hinn, he14, hst4, hu, ⟨a1, a2, a3, a4⟩, hS, hm, ⟨m1, m2, m3, m4⟩, h35, hN⟩
  · refine qPair_of hR 1 0 (by decide) ?_ ?_
    · rw [if_neg (by decide)]
      simp only [s107_0, s107_1, s107_2, qx_m10, a160t b1, List.length_cons, List.length_nil, Nat.zero_le, Nat.reduceAdd, Nat.reduceLeDiff, Option.bind_some, qx_kn_v, qx_kn_n, Nat.add_zero, Bool.false_eq_true, ↓reduceIte]
      exact qx_kn_t rfl rfl rfl
    · intro o
      refine ⟨nI 0, ?_, fun h => absurd h (by decide)⟩
      have h1 := fun (d : Nat) => b226a (L := L) (xs := xs) (d := d) (x := 0) (M := (M.1, o)) b2 b3 (by decide) z
      simp only [s260_0, s260_1, s260_2, s260_4, s260_7, s257_0, s257_1, s257_2, s257_5, s257_8, s257_9, s257_12, s257_15, s257_16, s257_19, s257_20, s257_21, s257_22, s257_23, s257_26, s257_27, s257_30, s257_31, k1, h1, qbt, qbf, qi_z0, true_or, List.length_cons, List.length_nil, Nat.zero_le, Nat.reduceAdd, Nat.reduceLeDiff, Option.bind_some, qx_kn_v, qx_kn_n, Nat.add_zero, Bool.false_eq_true, ↓reduceIte]
  · have hn14 : n ≤ 14 := hp.1
    have hn0 : M.1 101 0 = nI n := hu.1
    by_cases hz : qOut n z
    · refine qPair_of hR 2 0 (by decide) ?_ ?_
      · rw [if_neg (by decide)]
        simp only [s107_0, s107_1, s107_2, qx_m10, a160o b1 hn0 hz, List.length_cons, List.length_nil, Nat.zero_le, Nat.reduceAdd, Nat.reduceLeDiff, Option.bind_some, qx_kn_v, qx_kn_n, Nat.add_zero, Bool.false_eq_true, ↓reduceIte]
        exact qx_kn_t rfl rfl rfl
      · intro o
        refine ⟨nI 0, ?_, fun h => absurd h (by decide)⟩
        have h1 := fun (d : Nat) => b226b (L := L) (xs := xs) (d := d) (x := 0) (M := (M.1, o)) b2 hm.1 hn14 hz
        simp only [s260_0, s260_1, s260_2, s260_4, s260_7, s257_0, s257_1, s257_2, s257_5, s257_8, s257_9, s257_12, s257_15, s257_16, s257_19, s257_20, s257_21, s257_22, s257_23, s257_26, s257_27, s257_30, s257_31, k1, h1, qbt, qbf, qi_z0, true_or, List.length_cons, List.length_nil, Nat.zero_le, Nat.reduceAdd, Nat.reduceLeDiff, Option.bind_some, qx_kn_v, qx_kn_n, Nat.add_zero, Bool.false_eq_true, ↓reduceIte]
    obtain ⟨p, p1, p2⟩ := qOut_not (by omega) hz
    subst p2
    have hp14 : p < 14 := by omega
    have hneed := fun (d x : Nat) => a160 (L := L) (xs := xs) (d := d) (x := x) b1 hn0 hn14 p1
    have hmay := fun (o : (Nat → Int64) × (Nat → UInt64)) (d : Nat) => b226c (L := L) (xs := xs) (d := d) (x := 0) (M := (M.1, o)) b2 hm.1 hn14 p1
    have hZ : qx_Z 104 := qx_T100.2.2
    have hP : qx_P 101 := qx_T100.2.1
    have hst0 : M.1 104 0 = nI st := hS.1.1
    by_cases hs : st = 0
    · refine qPair_of hR 0 (-1) (by decide) ?_ (fun o => ⟨-1, ?_, fun _ => rfl⟩)
      · simp only [s107_0, s107_1, s107_2, s107_5, s107_6, s107_9, s107_12, s107_15, s107_18, s107_19, s107_22, s107_25, s107_26, s107_29, s107_32, s107_33, qx_m10, qx_T100.1, hZ.1, hneed, g56 hZ hst0 hst4, qD_f hs, qbf, List.length_cons, List.length_nil, Nat.zero_le, Nat.reduceAdd, Nat.reduceLeDiff, Option.bind_some, qx_kn_v, qx_kn_n, Nat.add_zero, Bool.false_eq_true, ↓reduceIte]
      · have h1 := fun d => g255 (L := L) (xs := xs) (d := d) (x := 0) (M := qx_up (M.1, o) 400 0 (nI 0)) (show _ = nI st from h35) hst4
        simp only [s260_0, s260_1, s260_2, s260_4, s260_7, s257_0, s257_1, s257_2, s257_5, s257_8, s257_9, s257_12, s257_15, s257_16, s257_19, s257_20, s257_21, s257_22, s257_23, s257_26, s257_27, s257_30, s257_31, k1, hmay, qbt, h1, qD_f hs, qbf, List.length_cons, List.length_nil, Nat.zero_le, Nat.reduceAdd, Nat.reduceLeDiff, Option.bind_some, qx_kn_v, qx_kn_n, Nat.add_zero, Bool.false_eq_true, ↓reduceIte]
    · obtain ⟨hN1, hN2, hN3, hN4, hN5⟩ := hN hs
      have hv : M.1 106 p = nI (bs p) := hS.2.2.1 p hp14
      refine qPair_of hR 0 (nI (bs p)) (by decide) ?_ (fun o => ⟨nI (bs p), ?_, fun _ => rfl⟩)
      · simp only [s107_0, s107_1, s107_2, s107_5, s107_6, s107_9, s107_12, s107_15, s107_18, s107_19, s107_22, s107_25, s107_26, s107_29, s107_32, s107_33, qx_m10, qx_T100.1, hZ.1, hneed, g56 hZ hst0 hst4, qD_t hs, qbt, m58 hZ hp14, hv, List.length_cons, List.length_nil, Nat.zero_le, Nat.reduceAdd, Nat.reduceLeDiff, Option.bind_some, qx_kn_v, qx_kn_n, Nat.add_zero, Bool.false_eq_true, ↓reduceIte]
      · have h1 := fun d => g255 (L := L) (xs := xs) (d := d) (x := 0) (M := qx_up (M.1, o) 400 0 (nI 0)) (show _ = nI st from h35) hst4
        have h2 : (qx_up (M.1, o) 400 0 (nI 0)).1 401 (69 + p) = nI (bs p) := hN4 p hp14
        simp only [s260_0, s260_1, s260_2, s260_4, s260_7, s257_0, s257_1, s257_2, s257_5, s257_8, s257_9, s257_12, s257_15, s257_16, s257_19, s257_20, s257_21, s257_22, s257_23, s257_26, s257_27, s257_30, s257_31, k1, k2, k3, hmay, qbt, h1, qD_t hs, h2, nI_add, (qn_c (69 + p) (by omega)).1, (qn_c (69 + p) (by omega)).2, List.length_cons, List.length_nil, Nat.zero_le, Nat.reduceAdd, Nat.reduceLeDiff, Option.bind_some, qx_kn_v, qx_kn_n, Nat.add_zero, Bool.false_eq_true, ↓reduceIte]
theorem j108 {M : qxM} (hR : qREL M) (z : Int32) : qPair L xs (d + 40) 108 [some (.ref 10), some (.int z)] 261 [some (.ref 400), some (.int z)] ke02 M := by
  obtain ⟨k1, k2, k3⟩ := qx_m400
  rcases qREL_cmp hR with ⟨b1, b2, b3, b4⟩ | ⟨b1, b2, n, r, q, f, mt, s1, s2, s3, s4, st, rt, sp, bm, ou, inn, qb, e, as, qa, bs, lk, nr, fr, wy, hp, hn1, hT, hou, hinn, he14, hst4, hu, ⟨a1, a2, a3, a4⟩, hS, hm, ⟨m1, m2, m3, m4⟩, h35, hN⟩
  · refine qPair_of hR 1 0 (by decide) ?_ ?_
    · rw [if_neg (by decide)]
      simp only [s108_0, s108_1, s108_2, qx_m10, a160t b1, List.length_cons, List.length_nil, Nat.zero_le, Nat.reduceAdd, Nat.reduceLeDiff, Option.bind_some, qx_kn_v, qx_kn_n, Nat.add_zero, Bool.false_eq_true, ↓reduceIte]
      exact qx_kn_t rfl rfl rfl
    · intro o
      refine ⟨nI 0, ?_, fun h => absurd h (by decide)⟩
      have h1 := fun (d : Nat) => b226a (L := L) (xs := xs) (d := d) (x := 0) (M := (M.1, o)) b2 b3 (by decide) z
      simp only [s261_0, s261_1, s261_2, s261_4, s261_7, s257_0, s257_1, s257_2, s257_5, s257_8, s257_9, s257_12, s257_15, s257_16, s257_19, s257_20, s257_21, s257_22, s257_23, s257_26, s257_27, s257_30, s257_31, k1, h1, qbt, qbf, qi_z0, true_or, List.length_cons, List.length_nil, Nat.zero_le, Nat.reduceAdd, Nat.reduceLeDiff, Option.bind_some, qx_kn_v, qx_kn_n, Nat.add_zero, Bool.false_eq_true, ↓reduceIte]
  · have hn14 : n ≤ 14 := hp.1
    have hn0 : M.1 101 0 = nI n := hu.1
    by_cases hz : qOut n z
    · refine qPair_of hR 2 0 (by decide) ?_ ?_
      · rw [if_neg (by decide)]
        simp only [s108_0, s108_1, s108_2, qx_m10, a160o b1 hn0 hz, List.length_cons, List.length_nil, Nat.zero_le, Nat.reduceAdd, Nat.reduceLeDiff, Option.bind_some, qx_kn_v, qx_kn_n, Nat.add_zero, Bool.false_eq_true, ↓reduceIte]
        exact qx_kn_t rfl rfl rfl
      · intro o
        refine ⟨nI 0, ?_, fun h => absurd h (by decide)⟩
        have h1 := fun (d : Nat) => b226b (L := L) (xs := xs) (d := d) (x := 0) (M := (M.1, o)) b2 hm.1 hn14 hz
        simp only [s261_0, s261_1, s261_2, s261_4, s261_7, s257_0, s257_1, s257_2, s257_5, s257_8, s257_9, s257_12, s257_15, s257_16, s257_19, s257_20, s257_21, s257_22, s257_23, s257_26, s257_27, s257_30, s257_31, k1, h1, qbt, qbf, qi_z0, true_or, List.length_cons, List.length_nil, Nat.zero_le, Nat.reduceAdd, Nat.reduceLeDiff, Option.bind_some, qx_kn_v, qx_kn_n, Nat.add_zero, Bool.false_eq_true, ↓reduceIte]
    obtain ⟨p, p1, p2⟩ := qOut_not (by omega) hz
    subst p2
    have hp14 : p < 14 := by omega
    have hneed := fun (d x : Nat) => a160 (L := L) (xs := xs) (d := d) (x := x) b1 hn0 hn14 p1
    have hmay := fun (o : (Nat → Int64) × (Nat → UInt64)) (d : Nat) => b226c (L := L) (xs := xs) (d := d) (x := 0) (M := (M.1, o)) b2 hm.1 hn14 p1
    have hZ : qx_Z 104 := qx_T100.2.2
    have hP : qx_P 101 := qx_T100.2.1
    have hst0 : M.1 104 0 = nI st := hS.1.1
    by_cases hs : st = 0
    · refine qPair_of hR 0 (-1) (by decide) ?_ (fun o => ⟨-1, ?_, fun _ => rfl⟩)
      · simp only [s108_0, s108_1, s108_2, s108_5, s108_6, s108_9, s108_12, s108_15, s108_18, s108_19, s108_22, s108_25, s108_28, s108_29, s108_32, s108_35, s108_36, qx_m10, qx_T100.1, hZ.1, hneed, g56 hZ hst0 hst4, qD_f hs, qbf, List.length_cons, List.length_nil, Nat.zero_le, Nat.reduceAdd, Nat.reduceLeDiff, Option.bind_some, qx_kn_v, qx_kn_n, Nat.add_zero, Bool.false_eq_true, ↓reduceIte]
      · have h1 := fun d => g255 (L := L) (xs := xs) (d := d) (x := 0) (M := qx_up (M.1, o) 400 0 (nI 0)) (show _ = nI st from h35) hst4
        simp only [s261_0, s261_1, s261_2, s261_4, s261_7, s257_0, s257_1, s257_2, s257_5, s257_8, s257_9, s257_12, s257_15, s257_16, s257_19, s257_20, s257_21, s257_22, s257_23, s257_26, s257_27, s257_30, s257_31, k1, hmay, qbt, h1, qD_f hs, qbf, List.length_cons, List.length_nil, Nat.zero_le, Nat.reduceAdd, Nat.reduceLeDiff, Option.bind_some, qx_kn_v, qx_kn_n, Nat.add_zero, Bool.false_eq_true, ↓reduceIte]
    · obtain ⟨hN1, hN2, hN3, hN4, hN5, hN6⟩ := hN hs
      have hv : M.1 107 p = qz (lk p) := hS.2.2.2.1 p hp14
      have k7 : qx_kd 107 = 0 ∧ qx_ln 107 = 14 := hZ.2.1 3 (by decide) (by decide)
      refine qPair_of hR 0 (qz (lk p)) (by decide) ?_ (fun o => ⟨qz (lk p), ?_, fun _ => rfl⟩)
      · simp only [s108_0, s108_1, s108_2, s108_5, s108_6, s108_9, s108_12, s108_15, s108_18, s108_19, s108_22, s108_25, s108_28, s108_29, s108_32, s108_35, s108_36, qx_m10, qx_T100.1, hZ.1, hneed, g56 hZ hst0 hst4, qD_t hs, qbt, m173 k7.1 k7.2 hp14 (by decide), hv, List.length_cons, List.length_nil, Nat.zero_le, Nat.reduceAdd, Nat.reduceLeDiff, Option.bind_some, qx_kn_v, qx_kn_n, Nat.add_zero, Bool.false_eq_true, ↓reduceIte]
      · have h1 := fun d => g255 (L := L) (xs := xs) (d := d) (x := 0) (M := qx_up (M.1, o) 400 0 (nI 0)) (show _ = nI st from h35) hst4
        have h2 : (qx_up (M.1, o) 400 0 (nI 0)).1 401 (83 + p) = qz (lk p) := hN5 p hp14
        simp only [s261_0, s261_1, s261_2, s261_4, s261_7, s257_0, s257_1, s257_2, s257_5, s257_8, s257_9, s257_12, s257_15, s257_16, s257_19, s257_20, s257_21, s257_22, s257_23, s257_26, s257_27, s257_30, s257_31, k1, k2, k3, hmay, qbt, h1, qD_t hs, h2, nI_add, (qn_c (83 + p) (by omega)).1, (qn_c (83 + p) (by omega)).2, List.length_cons, List.length_nil, Nat.zero_le, Nat.reduceAdd, Nat.reduceLeDiff, Option.bind_some, qx_kn_v, qx_kn_n, Nat.add_zero, Bool.false_eq_true, ↓reduceIte]
theorem j109 {M : qxM} (hR : qREL M) (z : Int32) (fb : Bool) : qPair L xs (d + 40) 109 [some (.ref 10), some (.int z), some (.int (bI fb))] 262 [some (.ref 400), some (.int z), some (.int (bI fb))] ke02 M := by
  obtain ⟨k1, k2, k3⟩ := qx_m400
  rcases qREL_cmp hR with ⟨b1, b2, b3, b4⟩ | ⟨b1, b2, n, r, q, f, mt, s1, s2, s3, s4, st, rt, sp, bm, ou, inn, qb, e, as, qa, bs, lk, nr, fr, wy, hp, hn1, hT, hou, hinn, he14, hst4, hu, ⟨a1, a2, a3, a4⟩, hS, hm, ⟨m1, m2, m3, m4⟩, h35, hN⟩
  · refine qPair_of hR 1 0 (by decide) ?_ ?_
    · rw [if_neg (by decide)]
      simp only [s109_0, s109_1, s109_2, qx_m10, a160t b1, List.length_cons, List.length_nil, Nat.zero_le, Nat.reduceAdd, Nat.reduceLeDiff, Option.bind_some, qx_kn_v, qx_kn_n, Nat.add_zero, Bool.false_eq_true, ↓reduceIte]
      exact qx_kn_t rfl rfl rfl
    · intro o
      refine ⟨nI 0, ?_, fun h => absurd h (by decide)⟩
      have h1 := fun (d : Nat) => b226a (L := L) (xs := xs) (d := d) (x := 0) (M := (M.1, o)) b2 b3 (by decide) z
      simp only [s262_0, s262_1, s262_2, s262_3, s262_6, s262_8, s262_11, s262_13, s262_16, s257_0, s257_1, s257_2, s257_5, s257_8, s257_9, s257_12, s257_15, s257_16, s257_19, s257_20, s257_21, s257_22, s257_23, s257_26, s257_27, s257_30, s257_31, ite_self, k1, h1, qbt, qbf, qi_z0, true_or, List.length_cons, List.length_nil, Nat.zero_le, Nat.reduceAdd, Nat.reduceLeDiff, Option.bind_some, qx_kn_v, qx_kn_n, Nat.add_zero, Bool.false_eq_true, ↓reduceIte]
  · have hn14 : n ≤ 14 := hp.1
    have hn0 : M.1 101 0 = nI n := hu.1
    by_cases hz : qOut n z
    · refine qPair_of hR 2 0 (by decide) ?_ ?_
      · rw [if_neg (by decide)]
        simp only [s109_0, s109_1, s109_2, qx_m10, a160o b1 hn0 hz, List.length_cons, List.length_nil, Nat.zero_le, Nat.reduceAdd, Nat.reduceLeDiff, Option.bind_some, qx_kn_v, qx_kn_n, Nat.add_zero, Bool.false_eq_true, ↓reduceIte]
        exact qx_kn_t rfl rfl rfl
      · intro o
        refine ⟨nI 0, ?_, fun h => absurd h (by decide)⟩
        have h1 := fun (d : Nat) => b226b (L := L) (xs := xs) (d := d) (x := 0) (M := (M.1, o)) b2 hm.1 hn14 hz
        simp only [s262_0, s262_1, s262_2, s262_3, s262_6, s262_8, s262_11, s262_13, s262_16, s257_0, s257_1, s257_2, s257_5, s257_8, s257_9, s257_12, s257_15, s257_16, s257_19, s257_20, s257_21, s257_22, s257_23, s257_26, s257_27, s257_30, s257_31, ite_self, k1, h1, qbt, qbf, qi_z0, true_or, List.length_cons, List.length_nil, Nat.zero_le, Nat.reduceAdd, Nat.reduceLeDiff, Option.bind_some, qx_kn_v, qx_kn_n, Nat.add_zero, Bool.false_eq_true, ↓reduceIte]
    obtain ⟨p, p1, p2⟩ := qOut_not (by omega) hz
    subst p2
    have hp14 : p < 14 := by omega
    have hneed := fun (d x : Nat) => a160 (L := L) (xs := xs) (d := d) (x := x) b1 hn0 hn14 p1
    have hmay := fun (o : (Nat → Int64) × (Nat → UInt64)) (d : Nat) => b226c (L := L) (xs := xs) (d := d) (x := 0) (M := (M.1, o)) b2 hm.1 hn14 p1
    have hZ : qx_Z 104 := qx_T100.2.2
    have hP : qx_P 101 := qx_T100.2.1
    have hst0 : M.1 104 0 = nI st := hS.1.1
    by_cases hs : st = 0
    · refine qPair_of hR 0 (-1) (by decide) ?_ (fun o => ⟨-1, ?_, fun _ => rfl⟩)
      · simp only [s109_0, s109_1, s109_2, s109_5, s109_6, s109_9, s109_12, s109_15, s109_18, s109_19, s109_20, s109_21, s109_24, s109_25, s109_28, s109_31, s109_34, s109_37, s109_38, s109_41, s109_44, s109_47, s109_48, s109_51, qx_m10, qx_T100.1, hZ.1, hneed, g56 hZ hst0 hst4, qD_f hs, qbf, List.length_cons, List.length_nil, Nat.zero_le, Nat.reduceAdd, Nat.reduceLeDiff, Option.bind_some, qx_kn_v, qx_kn_n, Nat.add_zero, Bool.false_eq_true, ↓reduceIte]
      · have h1 := fun d => g255 (L := L) (xs := xs) (d := d) (x := 0) (M := qx_up (M.1, o) 400 0 (nI 0)) (show _ = nI st from h35) hst4
        cases fb <;> simp only [s262_0, s262_1, s262_2, s262_3, s262_6, s262_8, s262_11, s262_13, s262_16, s257_0, s257_1, s257_2, s257_5, s257_8, s257_9, s257_12, s257_15, s257_16, s257_19, s257_20, s257_21, s257_22, s257_23, s257_26, s257_27, s257_30, s257_31, k1, hmay, qbt, h1, qD_f hs, qbf, List.length_cons, List.length_nil, Nat.zero_le, Nat.reduceAdd, Nat.reduceLeDiff, Option.bind_some, qx_kn_v, qx_kn_n, Nat.add_zero, Bool.false_eq_true, ↓reduceIte]
    · obtain ⟨hN1, hN2, hN3, hN4, hN5, hN6, hN7, hN8⟩ := hN hs
      have hv : M.1 108 p = qz (nr p) := hS.2.2.2.2.1 p hp14
      have hw : M.1 109 p = qz (fr p) := hS.2.2.2.2.2.1 p hp14
      have k8 : qx_kd 108 = 0 ∧ qx_ln 108 = 14 := hZ.2.1 4 (by decide) (by decide)
      have k9 : qx_kd 109 = 0 ∧ qx_ln 109 = 14 := hZ.2.1 5 (by decide) (by decide)
      refine qPair_of hR 0 (qz (if fb then fr p else nr p)) (by decide) ?_ (fun o => ⟨qz (if fb then fr p else nr p), ?_, fun _ => rfl⟩)
      · cases fb <;> simp only [s109_0, s109_1, s109_2, s109_5, s109_6, s109_9, s109_12, s109_15, s109_18, s109_19, s109_20, s109_21, s109_24, s109_25, s109_28, s109_31, s109_34, s109_37, s109_38, s109_41, s109_44, s109_47, s109_48, s109_51, qx_m10, qx_T100.1, hZ.1, hneed, g56 hZ hst0 hst4, qD_t hs, qbt, qbf, m173 k8.1 k8.2 hp14 (by decide), m173 k9.1 k9.2 hp14 (by decide), hv, hw, List.length_cons, List.length_nil, Nat.zero_le, Nat.reduceAdd, Nat.reduceLeDiff, Option.bind_some, qx_kn_v, qx_kn_n, Nat.add_zero, Bool.false_eq_true, ↓reduceIte]
      · have h1 := fun d => g255 (L := L) (xs := xs) (d := d) (x := 0) (M := qx_up (M.1, o) 400 0 (nI 0)) (show _ = nI st from h35) hst4
        have h2 : (qx_up (M.1, o) 400 0 (nI 0)).1 401 (97 + p) = qz (nr p) := hN6 p hp14
        have h3 : (qx_up (M.1, o) 400 0 (nI 0)).1 401 (111 + p) = qz (fr p) := hN7 p hp14
        cases fb <;> simp only [s262_0, s262_1, s262_2, s262_3, s262_6, s262_8, s262_11, s262_13, s262_16, s257_0, s257_1, s257_2, s257_5, s257_8, s257_9, s257_12, s257_15, s257_16, s257_19, s257_20, s257_21, s257_22, s257_23, s257_26, s257_27, s257_30, s257_31, k1, k2, k3, hmay, qbt, qbf, h1, qD_t hs, h2, h3, nI_add, (qn_c (97 + p) (by omega)).1, (qn_c (97 + p) (by omega)).2, (qn_c (111 + p) (by omega)).1, (qn_c (111 + p) (by omega)).2, List.length_cons, List.length_nil, Nat.zero_le, Nat.reduceAdd, Nat.reduceLeDiff, Option.bind_some, qx_kn_v, qx_kn_n, Nat.add_zero, Bool.false_eq_true, ↓reduceIte]
theorem g253l {n b : Nat} {bs : Nat → Nat} {M : qxM} (hn2 : n ≤ 14) (hn : M.1 401 0 = nI n) (hb : nB M bs) (hb2 : ∀ p, p < n → bs p < n) (hb3 : b < n) : ∀ (k i : Nat), i + k = n →
    Rs L xs (d + 1) 253 4 [some (.ref (400)), some (.int (nI b)), some (.int (nI (qb_of (fun q => bs q == b) i))), some (.int (nI i))] [] (M) x = some (.inl (some (.int (nI (qb_of (fun q => bs q == b) n)))), M, x) := by
  obtain ⟨k1, k2, k3⟩ := qx_m400
  have e1 := m179 (L := L) (xs := xs) (d := d) (x := 0) (M := M) true
  have e0 := m179 (L := L) (xs := xs) (d := d) (x := 0) (M := M) false
  rw [← bI_t] at e1
  rw [← bI_f] at e0
  intro k
  induction k with
  | zero =>
    intro i hi
    have h1 : (nI n ≤ nI i) = True := by rw [show i = n by omega]; exact eq_true (Int32.le_refl _)
    rw [show i = n by omega] at h1 ⊢
    simp only [s253_0, s253_1i, s253_1r, s253_1n, s253_2, s253_3i, s253_3r, s253_3n, s253_4, s253_5, s253_6, s253_9, s253_10, s253_11, s253_14, s253_15, s253_16, s253_19, s253_21, s253_22, s253_23, s253_24, s253_25, s253_28, s253_29, s253_32, s253_33, s253_36, s253_37, s253_38, s253_39i, s253_39r, s253_39n, s253_40i, s253_40r, s253_40n, s253_46, s253_47, k1, k2, k3, hn, h1, (qn_c (0) (by omega)).1, (qn_c (0) (by omega)).2, ↓reduceIte]
  | succ k ih =>
    intro i hi
    have h1 : ¬ nI n ≤ nI i := nI_ge (by omega) (by omega)
    have hbi := hb i (by omega)
    have hb4 := hb2 i (by omega)
    have he : (nI (bs i) = nI b) = (bs i = b) := qi_eq (by omega) (by omega)
    have h2 := ih (i + 1) (by omega)
    rw [qb_of] at h2
    by_cases z : bs i = b
    · rw [if_pos (by simpa using z)] at h2
      simp only [s253_0, s253_1i, s253_1r, s253_1n, s253_2, s253_3i, s253_3r, s253_3n, s253_4, s253_5, s253_6, s253_9, s253_10, s253_11, s253_14, s253_15, s253_16, s253_19, s253_21, s253_22, s253_23, s253_24, s253_25, s253_28, s253_29, s253_32, s253_33, s253_36, s253_37, s253_38, s253_39i, s253_39r, s253_39n, s253_40i, s253_40r, s253_40n, s253_46, s253_47, k1, k2, k3, hn, h1, hbi, he, z, eq_self, e1, qb_shl (show i < 32 by omega), qb_or, nI_add, (qn_c (0) (by omega)).1, (qn_c (0) (by omega)).2, (qn_c (69 + i) (by omega)).1, (qn_c (69 + i) (by omega)).2, List.length_cons, List.length_nil, Nat.zero_le, Nat.reduceAdd, Nat.reduceLeDiff, Option.bind_some, qx_kn_v, qx_kn_n, Nat.add_zero, Bool.false_eq_true, ↓reduceIte]
      rw [s253_43, h2]
    · rw [if_neg (by simpa using z), Nat.or_zero] at h2
      have hs : nI 0 <<< (nI i &&& 31) = nI 0 := qb_shl0 (by omega)
      have ho : ∀ a, nI a ||| nI 0 = nI a := fun a => by rw [qb_or, Nat.or_zero]
      simp only [s253_0, s253_1i, s253_1r, s253_1n, s253_2, s253_3i, s253_3r, s253_3n, s253_4, s253_5, s253_6, s253_9, s253_10, s253_11, s253_14, s253_15, s253_16, s253_19, s253_21, s253_22, s253_23, s253_24, s253_25, s253_28, s253_29, s253_32, s253_33, s253_36, s253_37, s253_38, s253_39i, s253_39r, s253_39n, s253_40i, s253_40r, s253_40n, s253_46, s253_47, k1, k2, k3, hn, h1, hbi, he, z, e0, hs, ho, nI_add, (qn_c (0) (by omega)).1, (qn_c (0) (by omega)).2, (qn_c (69 + i) (by omega)).1, (qn_c (69 + i) (by omega)).2, List.length_cons, List.length_nil, Nat.zero_le, Nat.reduceAdd, Nat.reduceLeDiff, Option.bind_some, qx_kn_v, qx_kn_n, Nat.add_zero, Bool.false_eq_true, ↓reduceIte]
      rw [s253_43, h2]
theorem g253 {n b : Nat} {bs : Nat → Nat} {M : qxM} (hn2 : n ≤ 14) (hn : M.1 401 0 = nI n) (hb : nB M bs) (hb2 : ∀ p, p < n → bs p < n) (hb3 : b < n) :
    Rs L xs (d + 1) 253 0 [some (.ref (400)), some (.int (nI b)), none, none] [] (M) x = some (.inl (some (.int (nI (qb_of (fun q => bs q == b) n)))), M, x) := by
  have h := g253l (L := L) (xs := xs) (d := d) (x := x) hn2 hn hb hb2 hb3 n 0 (by omega)
  simp only [s253_0, s253_1i, s253_1r, s253_1n, s253_2, s253_3i, s253_3r, s253_3n]
  exact h
theorem qb_of_n {n b : Nat} {bs : Nat → Nat} (hn : n ≤ 14) (hb : b < n) (h : ∀ j, n ≤ j → bs j = j) : qb_of (fun q => bs q == b) 14 = qb_of (fun q => bs q == b) n := by
  have := qb_of_past (s := fun q => bs q == b) (n := n) (fun j hj => by
    show (bs j == b) = false
    rw [h j hj]
    simp
    omega) (14 - n)
  rw [show n + (14 - n) = 14 by omega] at this
  exact this
/-- groupOf of the class -/
theorem a106 {M : qxM} {p st : Nat} {bs : Nat → Nat} (hp : p < 14) (hst : M.1 104 0 = nI st) (hst4 : st < 4) (hb : qB 104 M bs) (hb2 : st ≠ 0 → ∀ p, p < 14 → bs p < 14) : Rs L xs (d + 3) 106 0 [some (.ref (10)), some (.int (nI p))] [] (M) x = some (.inl (some (.int (nI (if st = 0 then 0 else qb_of (fun q => bs q == bs p) 14)))), M, x) := by
  have hZ : qx_Z 104 := qx_T100.2.2
  by_cases hs : st = 0
  · rw [if_pos hs]
    simp only [s106_0, s106_1, s106_4, s106_7, s106_10, s106_13, s106_14, s106_17, s106_20, s106_21, s106_24, s106_27, s106_28, s106_31, s106_34, s106_37, s106_38, qx_m10, qx_T100.1, hZ.1, g56 hZ hst hst4, qD_f hs, qbf, List.length_cons, List.length_nil, Nat.zero_le, Nat.reduceAdd, Nat.reduceLeDiff, Option.bind_some, qx_kn_v, qx_kn_n, Nat.add_zero, Bool.false_eq_true, ↓reduceIte]
  · rw [if_neg hs]
    have hv : M.1 106 p = nI (bs p) := hb p hp
    simp only [s106_0, s106_1, s106_4, s106_7, s106_10, s106_13, s106_14, s106_17, s106_20, s106_21, s106_24, s106_27, s106_28, s106_31, s106_34, s106_37, s106_38, qx_m10, qx_T100.1, hZ.1, g56 hZ hst hst4, qD_t hs, qbt, m58 hZ hp, hv, g59 hZ hb (hb2 hs) (hb2 hs p hp), List.length_cons, List.length_nil, Nat.zero_le, Nat.reduceAdd, Nat.reduceLeDiff, Option.bind_some, qx_kn_v, qx_kn_n, Nat.add_zero, Bool.false_eq_true, ↓reduceIte]
theorem j105 {M : qxM} (hR : qREL M) (z : Int32) : qPair L xs (d + 40) 105 [some (.ref 10), some (.int z)] 259 [some (.ref 400), some (.int z)] ke02 M := by
  obtain ⟨k1, k2, k3⟩ := qx_m400
  rcases qREL_cmp hR with ⟨b1, b2, b3, b4⟩ | ⟨b1, b2, n, r, q, f, mt, s1, s2, s3, s4, st, rt, sp, bm, ou, inn, qb, e, as, qa, bs, lk, nr, fr, wy, hp, hn1, hT, hou, hinn, he14, hst4, hu, ⟨a1, a2, a3, a4⟩, hS, hm, ⟨m1, m2, m3, m4⟩, h35, hN⟩
  · refine qPair_of hR 1 0 (by decide) ?_ ?_
    · rw [if_neg (by decide)]
      simp only [s105_0, s105_1, s105_2, qx_m10, a160t b1, List.length_cons, List.length_nil, Nat.zero_le, Nat.reduceAdd, Nat.reduceLeDiff, Option.bind_some, qx_kn_v, qx_kn_n, Nat.add_zero, Bool.false_eq_true, ↓reduceIte]
      exact qx_kn_t rfl rfl rfl
    · intro o
      refine ⟨nI 0, ?_, fun h => absurd h (by decide)⟩
      have h1 := fun (d : Nat) => b226a (L := L) (xs := xs) (d := d) (x := 0) (M := (M.1, o)) b2 b3 (by decide) z
      simp only [s259_0, s259_1, s259_2, s259_5, s259_8, s259_9, s259_12, s259_15, s259_16, s259_17, s259_20, s259_22, s259_23, s259_24, s259_25, s259_28, s259_31, s259_32, k1, h1, qbt, qbf, qi_z0, true_or, List.length_cons, List.length_nil, Nat.zero_le, Nat.reduceAdd, Nat.reduceLeDiff, Option.bind_some, qx_kn_v, qx_kn_n, Nat.add_zero, Bool.false_eq_true, ↓reduceIte]
  · have hn14 : n ≤ 14 := hp.1
    have hn0 : M.1 101 0 = nI n := hu.1
    by_cases hz : qOut n z
    · refine qPair_of hR 2 0 (by decide) ?_ ?_
      · rw [if_neg (by decide)]
        simp only [s105_0, s105_1, s105_2, qx_m10, a160o b1 hn0 hz, List.length_cons, List.length_nil, Nat.zero_le, Nat.reduceAdd, Nat.reduceLeDiff, Option.bind_some, qx_kn_v, qx_kn_n, Nat.add_zero, Bool.false_eq_true, ↓reduceIte]
        exact qx_kn_t rfl rfl rfl
      · intro o
        refine ⟨nI 0, ?_, fun h => absurd h (by decide)⟩
        have h1 := fun (d : Nat) => b226b (L := L) (xs := xs) (d := d) (x := 0) (M := (M.1, o)) b2 hm.1 hn14 hz
        simp only [s259_0, s259_1, s259_2, s259_5, s259_8, s259_9, s259_12, s259_15, s259_16, s259_17, s259_20, s259_22, s259_23, s259_24, s259_25, s259_28, s259_31, s259_32, k1, h1, qbt, qbf, qi_z0, true_or, List.length_cons, List.length_nil, Nat.zero_le, Nat.reduceAdd, Nat.reduceLeDiff, Option.bind_some, qx_kn_v, qx_kn_n, Nat.add_zero, Bool.false_eq_true, ↓reduceIte]
    obtain ⟨p, p1, p2⟩ := qOut_not (by omega) hz
    subst p2
    have hp14 : p < 14 := by omega
    have hneed := fun (d x : Nat) => a160 (L := L) (xs := xs) (d := d) (x := x) b1 hn0 hn14 p1
    have hmay := fun (o : (Nat → Int64) × (Nat → UInt64)) (d : Nat) => b226c (L := L) (xs := xs) (d := d) (x := 0) (M := (M.1, o)) b2 hm.1 hn14 p1
    have hZ : qx_Z 104 := qx_T100.2.2
    have hP : qx_P 101 := qx_T100.2.1
    have hst0 : M.1 104 0 = nI st := hS.1.1
    have hb2 : st ≠ 0 → ∀ p, p < 14 → bs p < 14 := fun hs => by
      obtain ⟨mt0, tm, hG, _⟩ := gT_g hT hs
      exact fun p hp => qg_bs hG hp
    by_cases hs : st = 0
    · refine qPair_of hR 0 (nI 0) (by decide) ?_ (fun o => ⟨nI 0, ?_, fun _ => rfl⟩)
      · simp only [s105_0, s105_1, s105_2, s105_5, s105_6, s105_7, s105_10, qx_m10, hneed, a106 hp14 hst0 hst4 hS.2.2.1 hb2, hs, List.length_cons, List.length_nil, Nat.zero_le, Nat.reduceAdd, Nat.reduceLeDiff, Option.bind_some, qx_kn_v, qx_kn_n, Nat.add_zero, Bool.false_eq_true, ↓reduceIte]
      · have h1 := fun d => g255 (L := L) (xs := xs) (d := d) (x := 0) (M := qx_up (M.1, o) 400 0 (nI 0)) (show _ = nI st from h35) hst4
        simp only [s259_0, s259_1, s259_2, s259_5, s259_8, s259_9, s259_12, s259_15, s259_16, s259_17, s259_20, s259_22, s259_23, s259_24, s259_25, s259_28, s259_31, s259_32, k1, hmay, qbt, h1, qD_f hs, qbf, List.length_cons, List.length_nil, Nat.zero_le, Nat.reduceAdd, Nat.reduceLeDiff, Option.bind_some, qx_kn_v, qx_kn_n, Nat.add_zero, Bool.false_eq_true, ↓reduceIte]
    · obtain ⟨mt0, tm, hG, _⟩ := gT_g hT hs
      obtain ⟨q1, q2, q3, q4⟩ := qg_bsn hG
      have hq : qb_of (fun q => bs q == bs p) 14 = qb_of (fun q => bs q == bs p) n := qb_of_n hn14 (q1 p p1) q2
      refine qPair_of hR 0 (nI (qb_of (fun q => bs q == bs p) 14)) (by decide) ?_ (fun o => ⟨nI (qb_of (fun q => bs q == bs p) 14), ?_, fun _ => rfl⟩)
      · simp only [s105_0, s105_1, s105_2, s105_5, s105_6, s105_7, s105_10, qx_m10, hneed, a106 hp14 hst0 hst4 hS.2.2.1 hb2, hs, List.length_cons, List.length_nil, Nat.zero_le, Nat.reduceAdd, Nat.reduceLeDiff, Option.bind_some, qx_kn_v, qx_kn_n, Nat.add_zero, Bool.false_eq_true, ↓reduceIte]
      · obtain ⟨hN1, hN2, hN3, hN4, hN5, hN6, hN7, hN8⟩ := hN hs
        have h1 := fun d => g255 (L := L) (xs := xs) (d := d) (x := 0) (M := qx_up (M.1, o) 400 0 (nI 0)) (show _ = nI st from h35) hst4
        have h2 : (qx_up (M.1, o) 400 0 (nI 0)).1 401 (69 + p) = nI (bs p) := hN4 p hp14
        have h3 := fun d => g253 (L := L) (xs := xs) (d := d) (x := 0) (M := qx_up (M.1, o) 400 0 (nI 0)) hn14 (show _ = nI n from hm.1) hN4 q1 (q1 p p1)
        rw [hq]
        simp only [s259_0, s259_1, s259_2, s259_5, s259_8, s259_9, s259_12, s259_15, s259_16, s259_17, s259_20, s259_22, s259_23, s259_24, s259_25, s259_28, s259_31, s259_32, k1, k2, k3, hmay, qbt, h1, qD_t hs, h2, h3, nI_add, (qn_c (69 + p) (by omega)).1, (qn_c (69 + p) (by omega)).2, List.length_cons, List.length_nil, Nat.zero_le, Nat.reduceAdd, Nat.reduceLeDiff, Option.bind_some, qx_kn_v, qx_kn_n, Nat.add_zero, Bool.false_eq_true, ↓reduceIte]
end QL
