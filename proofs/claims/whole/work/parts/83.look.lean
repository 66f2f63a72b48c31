/-! Calls that look: ways, the queue, friends. -/
theorem pk_ixn (z : Int32) {n : Nat} (hn : n < 2 ^ 31) (h : ¬ qOut n z) : ∃ j, j < n ∧ z = nI j := qOut_not hn h
section QL
variable {L : Nat} {xs : Nat → Int32} {d x : Nat}
/-- how long a way is that is told -/
def qs_tl (st : Nat) (l : List Nat) : Nat := if st = 1 ∨ st = 3 then l.length else 0
theorem g62 {M : qxM} {st p : Nat} {wy : Nat → List Nat} (hst : M.1 104 0 = nI st) (hst4 : st < 4) (hp : p < 14) (hW : qW 110 M wy) : Rs L xs (d + 1) 62 0 [some (.ref (104)), some (.int (nI p))] [] (M) x = some (.inl (some (.int (nI (qs_tl st (wy p))))), M, x) := by
  have hZ : qx_Z 104 := qx_T100.2.2
  have hY : qx_Y 110 := hZ.2.2
  have hw := (hW p hp).2.1
  have c1 : (nI st = nI 1) = (st = 1) := qi_eq (by omega) (by decide)
  have c3 : (nI st = nI 3) = (st = 3) := qi_eq (by omega) (by decide)
  unfold qs_tl
  by_cases z1 : st = 1
  · rw [if_pos (Or.inl z1)]
    simp only [s62_0, s62_1, s62_4, s62_5, s62_8, s62_9, s62_12, s62_13, s62_16, s62_17, s62_20, s62_21, s62_24, s62_27, s62_28, hZ.1, hY.1, hst, c1, z1, m87 hY hp, hw, List.length_cons, List.length_nil, Nat.zero_le, Nat.reduceAdd, Nat.reduceLeDiff, Option.bind_some, qx_kn_v, qx_kn_n, Nat.add_zero, Bool.false_eq_true, ↓reduceIte]
  · by_cases z3 : st = 3
    · rw [if_pos (Or.inr z3)]
      have c1' : (nI st = nI 1) = False := by rw [c1]; exact eq_false z1
      have c3' : (nI st = nI 3) = True := by rw [c3]; exact eq_true z3
      simp only [s62_0, s62_1, s62_4, s62_5, s62_8, s62_9, s62_12, s62_13, s62_16, s62_17, s62_20, s62_21, s62_24, s62_27, s62_28, hZ.1, hY.1, hst, c1', c3', m87 hY hp, hw, List.length_cons, List.length_nil, Nat.zero_le, Nat.reduceAdd, Nat.reduceLeDiff, Option.bind_some, qx_kn_v, qx_kn_n, Nat.add_zero, Bool.false_eq_true, ↓reduceIte]
    · rw [if_neg (by omega)]
      simp only [s62_0, s62_1, s62_4, s62_5, s62_8, s62_9, s62_12, s62_13, s62_16, s62_17, s62_20, s62_21, s62_24, s62_27, s62_28, hZ.1, hst, c1, c3, z1, z3, List.length_cons, List.length_nil, Nat.zero_le, Nat.reduceAdd, Nat.reduceLeDiff, Option.bind_some, qx_kn_v, qx_kn_n, Nat.add_zero, Bool.false_eq_true, ↓reduceIte]
theorem g266 {M : qxM} {st p rt sp bm ou inn qb e as : Nat} {qa bs lk nr fr : Nat → Nat} {wy : Nat → List Nat} (h35 : M.1 401 35 = nI st) (hst4 : st < 4) (hp : p < 14) (hN : st ≠ 0 → nS M st rt sp bm ou inn qb e as qa bs lk nr fr wy) (hwy : st ≠ 0 → ou.testBit p = false → wy p = []) :
    Rs L xs (d + 1) 266 0 [some (.ref (400)), some (.int (nI p))] [] (M) x = some (.inl (some (.int (nI (qs_tl st (wy p))))), M, x) := by
  obtain ⟨k1, k2, k3⟩ := qx_m400
  have c3 : (nI st = nI 3) = (st = 3) := qi_eq (by omega) (by decide)
  have hg := g250 (L := L) (xs := xs) (d := d) (x := 0) h35 hst4
  unfold qs_tl
  have hlab : st ≠ 0 → (nI (qs_lb ou inn p) = nI 1) = (ou.testBit p = true) := by
    intro _
    unfold qs_lb
    by_cases z : ou.testBit p = true
    · simp [z]
    · simp only [z]
      by_cases y : inn.testBit p = true
      · simp [y]
        decide
      · simp [y]
        decide
  by_cases z13 : st = 1 ∨ st = 3
  · rw [if_pos z13]
    have hne : st ≠ 0 := by omega
    obtain ⟨hN1, hN2, hN3, hN4, hN5, hN6, hN7, hN8⟩ := hN hne
    have h5 := hN3 p hp
    have h6 := (hN8 p hp).2.1
    have hres : ∀ b, (if (ou.testBit p = true) then (some (.inl (some (.int (nI (wy p).length))), M, b) : Option qxO) else some (.inl (some (.int (nI 0))), M, b)) = some (.inl (some (.int (nI (wy p).length))), M, b) := by
      intro b
      by_cases z : ou.testBit p = true
      · rw [if_pos z]
      · rw [if_neg z, hwy hne (by simpa using z)]
        rfl
    by_cases z1 : st = 1
    · have hd : decide (st = 1) = true := decide_eq_true z1
      rw [hd] at hg
      by_cases zo : ou.testBit p = true
      · simp only [s266_0, s266_1, s266_4, s266_7, s266_8, s266_11, s266_13, s266_14, s266_15, s266_18, s266_19, s266_22, s266_24, s266_25, s266_26, s266_27, s266_28, s266_31, s266_32, s266_35, s266_37, s266_38, s266_39, s266_40, s266_43, s266_44, k1, k2, k3, nI_add, hg, qbt, h5, hlab hne, zo, h6, (qn_c (55 + p) (by omega)).1, (qn_c (55 + p) (by omega)).2, (qn_c (125 + p) (by omega)).1, (qn_c (125 + p) (by omega)).2, List.length_cons, List.length_nil, Nat.zero_le, Nat.reduceAdd, Nat.reduceLeDiff, Option.bind_some, qx_kn_v, qx_kn_n, Nat.add_zero, Bool.false_eq_true, ↓reduceIte]
      · have hl0 : wy p = [] := hwy hne (by simpa using zo)
        rw [hl0]
        simp only [s266_0, s266_1, s266_4, s266_7, s266_8, s266_11, s266_13, s266_14, s266_15, s266_18, s266_19, s266_22, s266_24, s266_25, s266_26, s266_27, s266_28, s266_31, s266_32, s266_35, s266_37, s266_38, s266_39, s266_40, s266_43, s266_44, k1, k2, k3, nI_add, hg, qbt, h5, hlab hne, zo, (qn_c (55 + p) (by omega)).1, (qn_c (55 + p) (by omega)).2, List.length_nil, List.length_cons, List.length_nil, Nat.zero_le, Nat.reduceAdd, Nat.reduceLeDiff, Option.bind_some, qx_kn_v, qx_kn_n, Nat.add_zero, Bool.false_eq_true, ↓reduceIte]
    · have z3 : st = 3 := by omega
      have hd : decide (st = 1) = false := decide_eq_false z1
      rw [hd] at hg
      have c3' : (nI st = nI 3) = True := by rw [c3]; exact eq_true z3
      by_cases zo : ou.testBit p = true
      · simp only [s266_0, s266_1, s266_4, s266_7, s266_8, s266_11, s266_13, s266_14, s266_15, s266_18, s266_19, s266_22, s266_24, s266_25, s266_26, s266_27, s266_28, s266_31, s266_32, s266_35, s266_37, s266_38, s266_39, s266_40, s266_43, s266_44, k1, k2, k3, nI_add, hg, qbf, h35, c3', h5, hlab hne, zo, h6, (qn_c (55 + p) (by omega)).1, (qn_c (55 + p) (by omega)).2, (qn_c (125 + p) (by omega)).1, (qn_c (125 + p) (by omega)).2, (qn_c (35) (by omega)).1, (qn_c (35) (by omega)).2, List.length_cons, List.length_nil, Nat.zero_le, Nat.reduceAdd, Nat.reduceLeDiff, Option.bind_some, qx_kn_v, qx_kn_n, Nat.add_zero, Bool.false_eq_true, ↓reduceIte]
      · have hl0 : wy p = [] := hwy hne (by simpa using zo)
        rw [hl0]
        simp only [s266_0, s266_1, s266_4, s266_7, s266_8, s266_11, s266_13, s266_14, s266_15, s266_18, s266_19, s266_22, s266_24, s266_25, s266_26, s266_27, s266_28, s266_31, s266_32, s266_35, s266_37, s266_38, s266_39, s266_40, s266_43, s266_44, k1, k2, k3, nI_add, hg, qbf, h35, c3', h5, hlab hne, zo, (qn_c (55 + p) (by omega)).1, (qn_c (55 + p) (by omega)).2, (qn_c (35) (by omega)).1, (qn_c (35) (by omega)).2, List.length_cons, List.length_nil, Nat.zero_le, Nat.reduceAdd, Nat.reduceLeDiff, Option.bind_some, qx_kn_v, qx_kn_n, Nat.add_zero, Bool.false_eq_true, ↓reduceIte]
  · rw [if_neg z13]
    have hd : decide (st = 1) = false := decide_eq_false (by omega)
    rw [hd] at hg
    have c3' : (nI st = nI 3) = False := by rw [c3]; exact eq_false (by omega)
    simp only [s266_0, s266_1, s266_4, s266_7, s266_8, s266_11, s266_13, s266_14, s266_15, s266_18, s266_19, s266_22, s266_24, s266_25, s266_26, s266_27, s266_28, s266_31, s266_32, s266_35, s266_37, s266_38, s266_39, s266_40, s266_43, s266_44, k1, k2, k3, hg, qbf, h35, c3', (qn_c (35) (by omega)).1, (qn_c (35) (by omega)).2, List.length_cons, List.length_nil, Nat.zero_le, Nat.reduceAdd, Nat.reduceLeDiff, Option.bind_some, qx_kn_v, qx_kn_n, Nat.add_zero, Bool.false_eq_true, ↓reduceIte]
theorem gT_w {n : Nat} {mt : Nat → Nat} {st rt sp bm ou inn qb e as : Nat} {qa bs lk nr fr : Nat → Nat} {wy : Nat → List Nat} (h : st = 0 ∨ gT n mt ((st, rt, sp, bm), (ou, inn, qb, e, as), qa, bs, lk, nr, fr, wy)) (p : Nat) : st ≠ 0 → ou.testBit p = false → wy p = [] := by
  intro hs ho
  obtain ⟨mt0, tm, hG, _⟩ := gT_g h hs
  exact (qg_bsn hG).2.2.2 p ho
theorem j112 {M : qxM} (hR : qREL M) (z : Int32) : qPair L xs (d + 40) 112 [some (.ref 10), some (.int z)] 267 [some (.ref 400), some (.int z)] ke02 M := by
  obtain ⟨k1, k2, k3⟩ := qx_m400
  rcases qREL_cmp hR with ⟨b1, b2, b3, b4⟩ | ⟨b1, b2, n, r, q, f, mt, s1, s2, s3, s4, st, rt, sp, bm, ou, inn, qb, e, as, qa, bs, lk, nr, fr, wy, hp, hn1, hT, hou, hinn, he14, hst4, hu, ⟨a1, a2, a3, a4⟩, hS, hm, ⟨m1, m2, m3, m4⟩, h35, hN⟩
  · refine qPair_of hR 1 0 (by decide) ?_ ?_
    · rw [if_neg (by decide)]
      simp only [s112_0, s112_1, s112_2, qx_m10, a160t b1, List.length_cons, List.length_nil, Nat.zero_le, Nat.reduceAdd, Nat.reduceLeDiff, Option.bind_some, qx_kn_v, qx_kn_n, Nat.add_zero, Bool.false_eq_true, ↓reduceIte]
      exact qx_kn_t rfl rfl rfl
    · intro o
      refine ⟨nI 0, ?_, fun h => absurd h (by decide)⟩
      have h1 := fun (d : Nat) => b226a (L := L) (xs := xs) (d := d) (x := 0) (M := (M.1, o)) b2 b3 (by decide) z
      simp only [s267_0, s267_1, s267_2, s267_5, s267_8, s267_9, s267_10, s267_13, s267_16, s267_17, k1, h1, qbt, qbf, qi_z0, true_or, List.length_cons, List.length_nil, Nat.zero_le, Nat.reduceAdd, Nat.reduceLeDiff, Option.bind_some, qx_kn_v, qx_kn_n, Nat.add_zero, Bool.false_eq_true, ↓reduceIte]
  · have hn14 : n ≤ 14 := hp.1
    have hn0 : M.1 101 0 = nI n := hu.1
    by_cases hz : qOut n z
    · refine qPair_of hR 2 0 (by decide) ?_ ?_
      · rw [if_neg (by decide)]
        simp only [s112_0, s112_1, s112_2, qx_m10, a160o b1 hn0 hz, List.length_cons, List.length_nil, Nat.zero_le, Nat.reduceAdd, Nat.reduceLeDiff, Option.bind_some, qx_kn_v, qx_kn_n, Nat.add_zero, Bool.false_eq_true, ↓reduceIte]
        exact qx_kn_t rfl rfl rfl
      · intro o
        refine ⟨nI 0, ?_, fun h => absurd h (by decide)⟩
        have h1 := fun (d : Nat) => b226b (L := L) (xs := xs) (d := d) (x := 0) (M := (M.1, o)) b2 hm.1 hn14 hz
        simp only [s267_0, s267_1, s267_2, s267_5, s267_8, s267_9, s267_10, s267_13, s267_16, s267_17, k1, h1, qbt, qbf, qi_z0, true_or, List.length_cons, List.length_nil, Nat.zero_le, Nat.reduceAdd, Nat.reduceLeDiff, Option.bind_some, qx_kn_v, qx_kn_n, Nat.add_zero, Bool.false_eq_true, ↓reduceIte]
    obtain ⟨p, p1, p2⟩ := qOut_not (by omega) hz
    subst p2
    have hp14 : p < 14 := by omega
    have hneed := fun (d x : Nat) => a160 (L := L) (xs := xs) (d := d) (x := x) b1 hn0 hn14 p1
    have hmay := fun (o : (Nat → Int64) × (Nat → UInt64)) (d : Nat) => b226c (L := L) (xs := xs) (d := d) (x := 0) (M := (M.1, o)) b2 hm.1 hn14 p1
    have hZ : qx_Z 104 := qx_T100.2.2
    have hP : qx_P 101 := qx_T100.2.1
    have hst0 : M.1 104 0 = nI st := hS.1.1
    refine qPair_of hR 0 (nI (qs_tl st (wy p))) (by decide) ?_ (fun o => ⟨nI (qs_tl st (wy p)), ?_, fun _ => rfl⟩)
    · simp only [s112_0, s112_1, s112_2, s112_5, s112_6, s112_9, s112_12, s112_13, s112_16, qx_m10, qx_T100.1, hZ.1, hneed, g62 hst0 hst4 hp14 hS.2.2.2.2.2.2, List.length_cons, List.length_nil, Nat.zero_le, Nat.reduceAdd, Nat.reduceLeDiff, Option.bind_some, qx_kn_v, qx_kn_n, Nat.add_zero, Bool.false_eq_true, ↓reduceIte]
    · have h1 := fun d => g266 (L := L) (xs := xs) (d := d) (x := 0) (M := qx_up (M.1, o) 400 0 (nI 0)) (show _ = nI st from h35) hst4 hp14 hN (gT_w hT p)
      simp only [s267_0, s267_1, s267_2, s267_5, s267_8, s267_9, s267_10, s267_13, s267_16, s267_17, k1, hmay, qbt, h1, List.length_cons, List.length_nil, Nat.zero_le, Nat.reduceAdd, Nat.reduceLeDiff, Option.bind_some, qx_kn_v, qx_kn_n, Nat.add_zero, Bool.false_eq_true, ↓reduceIte]
theorem m88n {t p : Nat} {M : qxM} {y : Int32} (hY : qx_Y t) (h : y < 0) : Rs L xs (d + 1) 88 0 [some (.ref (t)), some (.int (nI p)), some (.int (y))] [] (M) x = some (.inl (some (.int (-1))), M, x) := by
  simp only [s88_0, s88_1, s88_4, s88_5, s88_6, s88_7, s88_10, s88_13, s88_14, s88_17, s88_18, s88_20, s88_21, s88_22, s88_23, s88_26, s88_29, s88_30, h, List.length_cons, List.length_nil, Nat.zero_le, Nat.reduceAdd, Nat.reduceLeDiff, Option.bind_some, qx_kn_v, qx_kn_n, Nat.add_zero, Bool.false_eq_true, ↓reduceIte]
theorem j113 {M : qxM} (hR : qREL M) (z : Int32) (y : Int32) : qPair L xs (d + 40) 113 [some (.ref 10), some (.int z), some (.int y)] 268 [some (.ref 400), some (.int z), some (.int y)] ke02 M := by
  obtain ⟨k1, k2, k3⟩ := qx_m400
  rcases qREL_cmp hR with ⟨b1, b2, b3, b4⟩ | ⟨b1, b2, n, r, q, f, mt, s1, s2, s3, s4, st, rt, sp, bm, ou, inn, qb, e, as, qa, bs, lk, nr, fr, wy, hp, hn1, hT, hou, hinn, he14, hst4, hu, ⟨a1, a2, a3, a4⟩, hS, hm, ⟨m1, m2, m3, m4⟩, h35, hN⟩
  · refine qPair_of hR 1 0 (by decide) ?_ ?_
    · rw [if_neg (by decide)]
      simp only [s113_0, s113_1, s113_2, qx_m10, a160t b1, List.length_cons, List.length_nil, Nat.zero_le, Nat.reduceAdd, Nat.reduceLeDiff, Option.bind_some, qx_kn_v, qx_kn_n, Nat.add_zero, Bool.false_eq_true, ↓reduceIte]
      exact qx_kn_t rfl rfl rfl
    · intro o
      refine ⟨nI 0, ?_, fun h => absurd h (by decide)⟩
      have h1 := fun (d : Nat) => b226a (L := L) (xs := xs) (d := d) (x := 0) (M := (M.1, o)) b2 b3 (by decide) z
      simp only [s268_0, s268_1, s268_2, s268_5, s268_8, s268_9, s268_10, s268_11, s268_12, s268_13, s268_14, s268_17, s268_18, s268_19, s268_22, s268_25, s268_26, s268_27, s268_28, s268_31, s268_34, s268_35, k1, h1, qbt, qbf, qi_z0, true_or, List.length_cons, List.length_nil, Nat.zero_le, Nat.reduceAdd, Nat.reduceLeDiff, Option.bind_some, qx_kn_v, qx_kn_n, Nat.add_zero, Bool.false_eq_true, ↓reduceIte]
  · have hn14 : n ≤ 14 := hp.1
    have hn0 : M.1 101 0 = nI n := hu.1
    by_cases hz : qOut n z
    · refine qPair_of hR 2 0 (by decide) ?_ ?_
      · rw [if_neg (by decide)]
        simp only [s113_0, s113_1, s113_2, qx_m10, a160o b1 hn0 hz, List.length_cons, List.length_nil, Nat.zero_le, Nat.reduceAdd, Nat.reduceLeDiff, Option.bind_some, qx_kn_v, qx_kn_n, Nat.add_zero, Bool.false_eq_true, ↓reduceIte]
        exact qx_kn_t rfl rfl rfl
      · intro o
        refine ⟨nI 0, ?_, fun h => absurd h (by decide)⟩
        have h1 := fun (d : Nat) => b226b (L := L) (xs := xs) (d := d) (x := 0) (M := (M.1, o)) b2 hm.1 hn14 hz
        simp only [s268_0, s268_1, s268_2, s268_5, s268_8, s268_9, s268_10, s268_11, s268_12, s268_13, s268_14, s268_17, s268_18, s268_19, s268_22, s268_25, s268_26, s268_27, s268_28, s268_31, s268_34, s268_35, k1, h1, qbt, qbf, qi_z0, true_or, List.length_cons, List.length_nil, Nat.zero_le, Nat.reduceAdd, Nat.reduceLeDiff, Option.bind_some, qx_kn_v, qx_kn_n, Nat.add_zero, Bool.false_eq_true, ↓reduceIte]
    obtain ⟨p, p1, p2⟩ := qOut_not (by omega) hz
    subst p2
    have hp14 : p < 14 := by omega
    have hneed := fun (d x : Nat) => a160 (L := L) (xs := xs) (d := d) (x := x) b1 hn0 hn14 p1
    have hmay := fun (o : (Nat → Int64) × (Nat → UInt64)) (d : Nat) => b226c (L := L) (xs := xs) (d := d) (x := 0) (M := (M.1, o)) b2 hm.1 hn14 p1
    have hZ : qx_Z 104 := qx_T100.2.2
    have hP : qx_P 101 := qx_T100.2.1
    have hst0 : M.1 104 0 = nI st := hS.1.1
    have hW : qW 110 M wy := hS.2.2.2.2.2.2
    have hY : qx_Y 110 := hZ.2.2
    have hl14 : qs_tl st (wy p) ≤ 14 := by
      unfold qs_tl
      have := (hW p hp14).1
      split <;> omega
    by_cases hy : qOut (qs_tl st (wy p)) y
    · refine qPair_of hR 0 (-1) (by decide) ?_ (fun o => ⟨-1, ?_, fun _ => rfl⟩)
      · by_cases hy0 : nI (qs_tl st (wy p)) ≤ y
        · simp only [s113_0, s113_1, s113_2, s113_5, s113_6, s113_7, s113_10, s113_13, s113_14, s113_17, s113_20, s113_21, s113_24, s113_27, s113_30, s113_31, s113_32, s113_35, s113_38, s113_39, qx_m10, qx_T100.1, hZ.1, hneed, g62 hst0 hst4 hp14 hW, hy0, List.length_cons, List.length_nil, Nat.zero_le, Nat.reduceAdd, Nat.reduceLeDiff, Option.bind_some, qx_kn_v, qx_kn_n, Nat.add_zero, Bool.false_eq_true, ↓reduceIte]
        · have hy1 : y < 0 := hy.resolve_right hy0
          simp only [s113_0, s113_1, s113_2, s113_5, s113_6, s113_7, s113_10, s113_13, s113_14, s113_17, s113_20, s113_21, s113_24, s113_27, s113_30, s113_31, s113_32, s113_35, s113_38, s113_39, qx_m10, qx_T100.1, hZ.1, hY.1, hneed, g62 hst0 hst4 hp14 hW, hy0, m88n hY hy1, List.length_cons, List.length_nil, Nat.zero_le, Nat.reduceAdd, Nat.reduceLeDiff, Option.bind_some, qx_kn_v, qx_kn_n, Nat.add_zero, Bool.false_eq_true, ↓reduceIte]
      · have h1 := fun d => g266 (L := L) (xs := xs) (d := d) (x := 0) (M := qx_up (M.1, o) 400 0 (nI 0)) (show _ = nI st from h35) hst4 hp14 hN (gT_w hT p)
        have h2 := fun d => a178n (L := L) (xs := xs) (d := d) (x := 0) (M := qx_up (M.1, o) 400 0 (nI 0)) (n := qs_tl st (wy p)) (by omega) y
        rw [decide_eq_true hy] at h2
        simp only [s268_0, s268_1, s268_2, s268_5, s268_8, s268_9, s268_10, s268_11, s268_12, s268_13, s268_14, s268_17, s268_18, s268_19, s268_22, s268_25, s268_26, s268_27, s268_28, s268_31, s268_34, s268_35, k1, hmay, qbt, h1, h2, Bool.not_true, qbf, List.length_cons, List.length_nil, Nat.zero_le, Nat.reduceAdd, Nat.reduceLeDiff, Option.bind_some, qx_kn_v, qx_kn_n, Nat.add_zero, Bool.false_eq_true, ↓reduceIte]
    · obtain ⟨i, i1, i2⟩ := qOut_not (by omega) hy
      subst i2
      have hst13 : st = 1 ∨ st = 3 := by
        unfold qs_tl at i1
        by_cases w : st = 1 ∨ st = 3
        · exact w
        · rw [if_neg w] at i1
          omega
      have htl : qs_tl st (wy p) = (wy p).length := if_pos hst13
      have hne : st ≠ 0 := by omega
      rw [htl] at i1
      have hw := hW p hp14
      have hlt : ¬ nI (wy p).length ≤ nI i := nI_ge (by omega) (by omega)
      have e1 : M.1 111 (p * 14 + i) = nI ((wy p).getD i 0) := hw.2.2 i i1
      refine qPair_of hR 0 (nI ((wy p).getD i 0)) (by decide) ?_ (fun o => ⟨nI ((wy p).getD i 0), ?_, fun _ => rfl⟩)
      · simp only [s113_0, s113_1, s113_2, s113_5, s113_6, s113_7, s113_10, s113_13, s113_14, s113_17, s113_20, s113_21, s113_24, s113_27, s113_30, s113_31, s113_32, s113_35, s113_38, s113_39, qx_m10, qx_T100.1, hZ.1, hY.1, hneed, g62 hst0 hst4 hp14 hW, htl, hlt, m88 hY hp14 hw.2.1 hw.1 i1, e1, List.length_cons, List.length_nil, Nat.zero_le, Nat.reduceAdd, Nat.reduceLeDiff, Option.bind_some, qx_kn_v, qx_kn_n, Nat.add_zero, Bool.false_eq_true, ↓reduceIte]
      · have h1 := fun d => g266 (L := L) (xs := xs) (d := d) (x := 0) (M := qx_up (M.1, o) 400 0 (nI 0)) (show _ = nI st from h35) hst4 hp14 hN (gT_w hT p)
        have h2 := fun d => a178n (L := L) (xs := xs) (d := d) (x := 0) (M := qx_up (M.1, o) 400 0 (nI 0)) (n := qs_tl st (wy p)) (by omega) (nI i)
        rw [decide_eq_false hy] at h2
        have h3 := fun d => g235 (L := L) (xs := xs) (d := d) (x := 0) (M := qx_up (M.1, o) 400 0 (nI 0)) hp14 (show i < 14 by omega)
        have e2 : (qx_up (M.1, o) 400 0 (nI 0)).1 401 (139 + 14 * p + i) = nI ((wy p).getD i 0) := ((hN hne).2.2.2.2.2.2.2 p hp14).2.2 i i1
        simp only [s268_0, s268_1, s268_2, s268_5, s268_8, s268_9, s268_10, s268_11, s268_12, s268_13, s268_14, s268_17, s268_18, s268_19, s268_22, s268_25, s268_26, s268_27, s268_28, s268_31, s268_34, s268_35, k1, hmay, qbt, h1, h2, Bool.not_false, h3, e2, List.length_cons, List.length_nil, Nat.zero_le, Nat.reduceAdd, Nat.reduceLeDiff, Option.bind_some, qx_kn_v, qx_kn_n, Nat.add_zero, Bool.false_eq_true, ↓reduceIte]
theorem m61n {t b e : Nat} {M : qxM} {y : Int32} (hZ : qx_Z t) (hb : M.1 t 6 = nI b) (he : M.1 t 7 = nI e) (hbe : b ≤ e) (h : qOut (e - b) y) : Rs L xs (d + 1) 61 0 [some (.ref (t)), some (.int (y))] [] (M) x = some (.inl (some (.int (-1))), M, x) := by
  by_cases h1 : y < 0
  · simp only [s61_0, s61_1, s61_4, s61_5, s61_6, s61_9, s61_12, s61_13, s61_16, s61_17, s61_20, s61_21, s61_22, s61_25, s61_28, s61_29, h1, List.length_cons, List.length_nil, Nat.zero_le, Nat.reduceAdd, Nat.reduceLeDiff, Option.bind_some, qx_kn_v, qx_kn_n, Nat.add_zero, Bool.false_eq_true, ↓reduceIte]
  · have h2 : nI (e - b) ≤ y := h.resolve_left h1
    simp only [s61_0, s61_1, s61_4, s61_5, s61_6, s61_9, s61_12, s61_13, s61_16, s61_17, s61_20, s61_21, s61_22, s61_25, s61_28, s61_29, hZ.1, h1, m60 hZ, hb, he, pk_sub hbe, h2, List.length_cons, List.length_nil, Nat.zero_le, Nat.reduceAdd, Nat.reduceLeDiff, Option.bind_some, qx_kn_v, qx_kn_n, Nat.add_zero, Bool.false_eq_true, ↓reduceIte]
theorem j110 {M : qxM} (hR : qREL M) (y : Int32) : qPair L xs (d + 40) 110 [some (.ref 10), some (.int y)] 264 [some (.ref 400), some (.int y)] ke0 M := by
  obtain ⟨k1, k2, k3⟩ := qx_m400
  rcases qREL_cmp hR with ⟨b1, b2, b3, b4⟩ | ⟨b1, b2, n, r, q, f, mt, s1, s2, s3, s4, st, rt, sp, bm, ou, inn, qb, e, as, qa, bs, lk, nr, fr, wy, hp, hn1, hT, hou, hinn, he14, hst4, hu, ⟨a1, a2, a3, a4⟩, hS, hm, ⟨m1, m2, m3, m4⟩, h35, hN⟩
  · refine qPair_of hR 1 0 (by decide) ?_ ?_
    · rw [if_neg (by decide)]
      simp only [s110_0, s110_1, qx_m10, a159t b1, List.length_cons, List.length_nil, Nat.zero_le, Nat.reduceAdd, Nat.reduceLeDiff, Option.bind_some, qx_kn_v, qx_kn_n, Nat.add_zero, Bool.false_eq_true, ↓reduceIte]
      exact qx_kn_t rfl rfl rfl
    · intro o
      refine ⟨nI 0, ?_, fun h => absurd h (by decide)⟩
      have h1 := fun (d : Nat) => b263a (L := L) (xs := xs) (d := d) (x := 0) (M := (M.1, o)) b2
      simp only [s264_0, s264_1, s264_4, s264_7, s264_8, s264_9, s264_10, s264_13, s264_16, s264_17, s264_18, s264_19, s264_22, s264_24, s264_25, s264_26, s264_27, s264_30, s264_33, s264_34, s264_37, s264_39, s264_40, s264_41, s264_42, s264_45, s264_46, k1, h1, qbt, qbf, qi_z0, true_or, List.length_cons, List.length_nil, Nat.zero_le, Nat.reduceAdd, Nat.reduceLeDiff, Option.bind_some, qx_kn_v, qx_kn_n, Nat.add_zero, Bool.false_eq_true, ↓reduceIte]
  · have hn14 : n ≤ 14 := hp.1
    have hn0 : M.1 101 0 = nI n := hu.1
    have hneed := fun (d x : Nat) => a159 (L := L) (xs := xs) (d := d) (x := x) b1
    have hmay := fun (o : (Nat → Int64) × (Nat → UInt64)) (d : Nat) => b263c (L := L) (xs := xs) (d := d) (x := 0) (M := (M.1, o)) b2
    have hZ : qx_Z 104 := qx_T100.2.2
    have hP : qx_P 101 := qx_T100.2.1
    have hst0 : M.1 104 0 = nI st := hS.1.1
    by_cases hs : st = 0
    · refine qPair_of hR 0 (-1) (by decide) ?_ (fun o => ⟨-1, ?_, fun _ => rfl⟩)
      · simp only [s110_0, s110_1, s110_4, s110_5, s110_8, s110_11, s110_14, s110_17, s110_18, s110_21, s110_24, s110_25, s110_28, s110_31, s110_32, qx_m10, qx_T100.1, hZ.1, hneed, g56 hZ hst0 hst4, qD_f hs, qbf, List.length_cons, List.length_nil, Nat.zero_le, Nat.reduceAdd, Nat.reduceLeDiff, Option.bind_some, qx_kn_v, qx_kn_n, Nat.add_zero, Bool.false_eq_true, ↓reduceIte]
      · have h1 := fun d => g255 (L := L) (xs := xs) (d := d) (x := 0) (M := qx_up (M.1, o) 400 0 (nI 0)) (show _ = nI st from h35) hst4
        simp only [s264_0, s264_1, s264_4, s264_7, s264_8, s264_9, s264_10, s264_13, s264_16, s264_17, s264_18, s264_19, s264_22, s264_24, s264_25, s264_26, s264_27, s264_30, s264_33, s264_34, s264_37, s264_39, s264_40, s264_41, s264_42, s264_45, s264_46, k1, hmay, qbt, h1, qD_f hs, qbf, List.length_cons, List.length_nil, Nat.zero_le, Nat.reduceAdd, Nat.reduceLeDiff, Option.bind_some, qx_kn_v, qx_kn_n, Nat.add_zero, Bool.false_eq_true, ↓reduceIte]
    · obtain ⟨hN1, hN2, hN3, hN4, hN5, hN6, hN7, hN8⟩ := hN hs
      obtain ⟨mt0, tm, hG, _⟩ := gT_g hT hs
      have hqe : qb ≤ e := hG.2.2.2.2.1
      have t6 : M.1 104 6 = nI qb := hS.1.2.2.2.2.2.2.1
      have t7 : M.1 104 7 = nI e := hS.1.2.2.2.2.2.2.2.1
      by_cases hy : qOut (e - qb) y
      · refine qPair_of hR 0 (-1) (by decide) ?_ (fun o => ⟨-1, ?_, fun _ => rfl⟩)
        · simp only [s110_0, s110_1, s110_4, s110_5, s110_8, s110_11, s110_14, s110_17, s110_18, s110_21, s110_24, s110_25, s110_28, s110_31, s110_32, qx_m10, qx_T100.1, hZ.1, hneed, g56 hZ hst0 hst4, qD_t hs, qbt, m61n hZ t6 t7 hqe hy, List.length_cons, List.length_nil, Nat.zero_le, Nat.reduceAdd, Nat.reduceLeDiff, Option.bind_some, qx_kn_v, qx_kn_n, Nat.add_zero, Bool.false_eq_true, ↓reduceIte]
        · have h1 := fun d => g255 (L := L) (xs := xs) (d := d) (x := 0) (M := qx_up (M.1, o) 400 0 (nI 0)) (show _ = nI st from h35) hst4
          have h2 := fun d => a178n (L := L) (xs := xs) (d := d) (x := 0) (M := qx_up (M.1, o) 400 0 (nI 0)) (n := e - qb) (by omega) y
          rw [decide_eq_true hy] at h2
          have h4 : (qx_up (M.1, o) 400 0 (nI 0)).1 401 40 = nI (e - qb) := hN1.2.2.2.2.2
          simp only [s264_0, s264_1, s264_4, s264_7, s264_8, s264_9, s264_10, s264_13, s264_16, s264_17, s264_18, s264_19, s264_22, s264_24, s264_25, s264_26, s264_27, s264_30, s264_33, s264_34, s264_37, s264_39, s264_40, s264_41, s264_42, s264_45, s264_46, k1, k2, k3, hmay, qbt, h1, qD_t hs, h4, h2, Bool.not_true, qbf, (qn_c (40) (by omega)).1, (qn_c (40) (by omega)).2, List.length_cons, List.length_nil, Nat.zero_le, Nat.reduceAdd, Nat.reduceLeDiff, Option.bind_some, qx_kn_v, qx_kn_n, Nat.add_zero, Bool.false_eq_true, ↓reduceIte]
      · obtain ⟨i, i1, i2⟩ := qOut_not (by omega) hy
        subst i2
        have e1 : M.1 105 (qb + i) = nI (qa (qb + i)) := hS.2.1 (qb + i) (by omega)
        refine qPair_of hR 0 (nI (qa (qb + i))) (by decide) ?_ (fun o => ⟨nI (qa (qb + i)), ?_, fun _ => rfl⟩)
        · simp only [s110_0, s110_1, s110_4, s110_5, s110_8, s110_11, s110_14, s110_17, s110_18, s110_21, s110_24, s110_25, s110_28, s110_31, s110_32, qx_m10, qx_T100.1, hZ.1, hneed, g56 hZ hst0 hst4, qD_t hs, qbt, m61 hZ t6 t7 hqe he14 i1, e1, List.length_cons, List.length_nil, Nat.zero_le, Nat.reduceAdd, Nat.reduceLeDiff, Option.bind_some, qx_kn_v, qx_kn_n, Nat.add_zero, Bool.false_eq_true, ↓reduceIte]
        · have h1 := fun d => g255 (L := L) (xs := xs) (d := d) (x := 0) (M := qx_up (M.1, o) 400 0 (nI 0)) (show _ = nI st from h35) hst4
          have h2 := fun d => a178n (L := L) (xs := xs) (d := d) (x := 0) (M := qx_up (M.1, o) 400 0 (nI 0)) (n := e - qb) (by omega) (nI i)
          rw [decide_eq_false hy] at h2
          have h4 : (qx_up (M.1, o) 400 0 (nI 0)).1 401 40 = nI (e - qb) := hN1.2.2.2.2.2
          have h5 : (qx_up (M.1, o) 400 0 (nI 0)).1 401 (41 + i) = nI (qa (qb + i)) := by
            have := hN2 (qb + i) (by omega) (by omega)
            rw [show qb + i - qb = i by omega] at this
            exact this
          simp only [s264_0, s264_1, s264_4, s264_7, s264_8, s264_9, s264_10, s264_13, s264_16, s264_17, s264_18, s264_19, s264_22, s264_24, s264_25, s264_26, s264_27, s264_30, s264_33, s264_34, s264_37, s264_39, s264_40, s264_41, s264_42, s264_45, s264_46, k1, k2, k3, hmay, qbt, h1, qD_t hs, h4, h2, Bool.not_false, nI_add, h5, (qn_c (40) (by omega)).1, (qn_c (40) (by omega)).2, (qn_c (41 + i) (by omega)).1, (qn_c (41 + i) (by omega)).2, List.length_cons, List.length_nil, Nat.zero_le, Nat.reduceAdd, Nat.reduceLeDiff, Option.bind_some, qx_kn_v, qx_kn_n, Nat.add_zero, Bool.false_eq_true, ↓reduceIte]
theorem j111 {M : qxM} (hR : qREL M) : qPair L xs (d + 40) 111 [some (.ref 10), none] 265 [some (.ref 400), none] ke0 M := by
  obtain ⟨k1, k2, k3⟩ := qx_m400
  rcases qREL_cmp hR with ⟨b1, b2, b3, b4⟩ | ⟨b1, b2, n, r, q, f, mt, s1, s2, s3, s4, st, rt, sp, bm, ou, inn, qb, e, as, qa, bs, lk, nr, fr, wy, hp, hn1, hT, hou, hinn, he14, hst4, hu, ⟨a1, a2, a3, a4⟩, hS, hm, ⟨m1, m2, m3, m4⟩, h35, hN⟩
  · refine qPair_of hR 1 0 (by decide) ?_ ?_
    · rw [if_neg (by decide)]
      simp only [s111_0, s111_1, qx_m10, a159t b1, List.length_cons, List.length_nil, Nat.zero_le, Nat.reduceAdd, Nat.reduceLeDiff, Option.bind_some, qx_kn_v, qx_kn_n, Nat.add_zero, Bool.false_eq_true, ↓reduceIte]
      exact qx_kn_t rfl rfl rfl
    · intro o
      refine ⟨nI 0, ?_, fun h => absurd h (by decide)⟩
      have h1 := fun (d : Nat) => b263a (L := L) (xs := xs) (d := d) (x := 0) (M := (M.1, o)) b2
      simp only [s265_0, s265_1, s265_4, s265_7, s265_8, s265_9, s265_10, s265_13, s265_16, s265_17, s265_18, s265_19, s265_22i, s265_22r, s265_22n, s265_23, s265_25, s265_26, s265_29, s265_31, s265_32, s265_33, s265_34, s265_35, s265_38, s265_40, s265_43, s265_44, s265_45, k1, h1, qbt, qbf, qi_z0, true_or, List.length_cons, List.length_nil, Nat.zero_le, Nat.reduceAdd, Nat.reduceLeDiff, Option.bind_some, qx_kn_v, qx_kn_n, Nat.add_zero, Bool.false_eq_true, ↓reduceIte]
  · have hn14 : n ≤ 14 := hp.1
    have hn0 : M.1 101 0 = nI n := hu.1
    have hneed := fun (d x : Nat) => a159 (L := L) (xs := xs) (d := d) (x := x) b1
    have hmay := fun (o : (Nat → Int64) × (Nat → UInt64)) (d : Nat) => b263c (L := L) (xs := xs) (d := d) (x := 0) (M := (M.1, o)) b2
    have hZ : qx_Z 104 := qx_T100.2.2
    have hP : qx_P 101 := qx_T100.2.1
    have hst0 : M.1 104 0 = nI st := hS.1.1
    have hst1 : (nI st = nI 1) = (st = 1) := qi_eq (by omega) (by decide)
    by_cases hs : st = 1
    · have hs0 : st ≠ 0 := by omega
      obtain ⟨hN1, hN2, hN3, hN4, hN5, hN6, hN7, hN8⟩ := hN hs0
      obtain ⟨mt0, tm, hG, _, hlt⟩ := gT_g hT hs0
      have hqe := hlt hs
      have t6 : M.1 104 6 = nI qb := hS.1.2.2.2.2.2.2.1
      have t7 : M.1 104 7 = nI e := hS.1.2.2.2.2.2.2.2.1
      have t8 : M.1 104 8 = nI as := hS.1.2.2.2.2.2.2.2.2
      have hq := hG.2.2.2.2.2.2.2.1 qb hqe
      have hv := (hG.2.2.2.2.2.2.1 _ hq.1).1
      have hv14 : qa qb < 14 := by omega
      have has := hG.2.2.2.2.2.1
      have e1 : M.1 105 qb = nI (qa qb) := hS.2.1 qb hqe
      have h61 := fun d x => m61 (L := L) (xs := xs) (d := d) (x := x) (M := M) (i := 0) hZ t6 t7 (by omega) he14 (show 0 < e - qb by omega)
      have h63 := fun d x => g63 (L := L) (xs := xs) (d := d) (x := x) (f := f) hZ hP hS.2.1 t6 t7 t8 hqe he14 has hv14 hp.2.1 hu.2.1 hu.2.2.1 hp.2.2.1 (hu.2.2.2.1 _ hv14) (qp_f14 hp hv14)
      generalize hw : qs_nx (qp_al r q (f (qa qb)) (qa qb)) (14 - as) as = w at h63
      have hs' : (nI st = nI 1) = True := by rw [hst1]; exact eq_true hs
      have hmod : ∀ o, ∀ d, Rs L xs (d + 4) 240 0 [some (.ref 400), none] [] (qx_up (M.1, o) 400 0 (nI 0)) 0 = some (.inl (some (.int (qz w))), qx_up (M.1, o) 400 0 (nI 0), 0) := by
        intro o d
        have hq0 : M.1 401 (41 + (qb - qb)) = nI (qa qb) := hN2 qb (Nat.le_refl _) hqe
        rw [Nat.sub_self] at hq0
        have := g240 (L := L) (xs := xs) (d := d) (x := 0) (M := qx_up (M.1, o) 400 0 (nI 0)) (n := n) (f := f) hv14 (show _ = nI (qa qb) from hq0) (show _ = nI as from hN1.2.2.2.2.1) has (show _ = nI n from hm.1) hn14 (show _ = nI (f (qa qb)) from hm.2.2.2.1 _ hv14) (hp.2.2.2.1 _ hv14).1 (show _ = nI r from hm.2.1) hp.2.1 (show _ = nI q from hm.2.2.1) hp.2.2.1
        rw [hw] at this
        exact this
      have hq0' : ∀ o, (qx_up (M.1, o) 400 0 (nI 0)).1 401 41 = nI (qa qb) := by
        intro o
        have hq0 : M.1 401 (41 + (qb - qb)) = nI (qa qb) := hN2 qb (Nat.le_refl _) hqe
        rw [Nat.sub_self] at hq0
        exact hq0
      by_cases hw14 : w < 14
      · have hz : qz w = nI w := qz_lt hw14
        have hz1 := qi_n1 (show w < 2 ^ 31 by omega)
        refine qPair_of hR 0 (nI (100 * qa qb + w)) (by decide) ?_ (fun o => ⟨nI (100 * qa qb + w), ?_, fun _ => rfl⟩)
        · simp only [s111_0, s111_1, s111_4, s111_5, s111_8, s111_11, s111_14, s111_15, s111_18, s111_19, s111_20, s111_21, s111_24, s111_27, s111_28, s111_31, s111_34, s111_37i, s111_37r, s111_37n, s111_38, s111_40, s111_41, s111_44, s111_47, s111_48, s111_51, s111_52, s111_53, s111_54, s111_57, s111_59, s111_62, s111_63, s111_64, qx_m10, qx_T100.1, hZ.1, hP.1, hneed, hst0, hs', h63, hz, hz1, h61, e1, pk_mul, nI_add, List.length_cons, List.length_nil, Nat.zero_le, Nat.reduceAdd, Nat.reduceLeDiff, Option.bind_some, qx_kn_v, qx_kn_n, Nat.add_zero, Bool.false_eq_true, ↓reduceIte]
        · have h1 := fun d => g250 (L := L) (xs := xs) (d := d) (x := 0) (M := qx_up (M.1, o) 400 0 (nI 0)) (show _ = nI st from h35) hst4
          rw [decide_eq_true hs] at h1
          simp only [s265_0, s265_1, s265_4, s265_7, s265_8, s265_9, s265_10, s265_13, s265_16, s265_17, s265_18, s265_19, s265_22i, s265_22r, s265_22n, s265_23, s265_25, s265_26, s265_29, s265_31, s265_32, s265_33, s265_34, s265_35, s265_38, s265_40, s265_43, s265_44, s265_45, k1, k2, k3, hmay, qbt, h1, hmod, hz, hz1, hq0', pk_mul, nI_add, (qn_c (41) (by omega)).1, (qn_c (41) (by omega)).2, List.length_cons, List.length_nil, Nat.zero_le, Nat.reduceAdd, Nat.reduceLeDiff, Option.bind_some, qx_kn_v, qx_kn_n, Nat.add_zero, Bool.false_eq_true, ↓reduceIte]
      · have hz : qz w = -1 := qz_ge hw14
        refine qPair_of hR 0 (nI (100 * qa qb + 99)) (by decide) ?_ (fun o => ⟨nI (100 * qa qb + 99), ?_, fun _ => rfl⟩)
        · simp only [s111_0, s111_1, s111_4, s111_5, s111_8, s111_11, s111_14, s111_15, s111_18, s111_19, s111_20, s111_21, s111_24, s111_27, s111_28, s111_31, s111_34, s111_37i, s111_37r, s111_37n, s111_38, s111_40, s111_41, s111_44, s111_47, s111_48, s111_51, s111_52, s111_53, s111_54, s111_57, s111_59, s111_62, s111_63, s111_64, qx_m10, qx_T100.1, hZ.1, hP.1, hneed, hst0, hs', h63, hz, eq_self, h61, e1, pk_mul, nI_add, List.length_cons, List.length_nil, Nat.zero_le, Nat.reduceAdd, Nat.reduceLeDiff, Option.bind_some, qx_kn_v, qx_kn_n, Nat.add_zero, Bool.false_eq_true, ↓reduceIte]
        · have h1 := fun d => g250 (L := L) (xs := xs) (d := d) (x := 0) (M := qx_up (M.1, o) 400 0 (nI 0)) (show _ = nI st from h35) hst4
          rw [decide_eq_true hs] at h1
          simp only [s265_0, s265_1, s265_4, s265_7, s265_8, s265_9, s265_10, s265_13, s265_16, s265_17, s265_18, s265_19, s265_22i, s265_22r, s265_22n, s265_23, s265_25, s265_26, s265_29, s265_31, s265_32, s265_33, s265_34, s265_35, s265_38, s265_40, s265_43, s265_44, s265_45, k1, k2, k3, hmay, qbt, h1, hmod, hz, eq_self, hq0', pk_mul, nI_add, (qn_c (41) (by omega)).1, (qn_c (41) (by omega)).2, List.length_cons, List.length_nil, Nat.zero_le, Nat.reduceAdd, Nat.reduceLeDiff, Option.bind_some, qx_kn_v, qx_kn_n, Nat.add_zero, Bool.false_eq_true, ↓reduceIte]
    · refine qPair_of hR 0 (-1) (by decide) ?_ (fun o => ⟨-1, ?_, fun _ => rfl⟩)
      · have hs' : (nI st = nI 1) = False := by rw [hst1]; exact eq_false hs
        simp only [s111_0, s111_1, s111_4, s111_5, s111_8, s111_11, s111_14, s111_15, s111_18, s111_19, s111_20, s111_21, s111_24, s111_27, s111_28, s111_31, s111_34, s111_37i, s111_37r, s111_37n, s111_38, s111_40, s111_41, s111_44, s111_47, s111_48, s111_51, s111_52, s111_53, s111_54, s111_57, s111_59, s111_62, s111_63, s111_64, qx_m10, qx_T100.1, hZ.1, hneed, hst0, hs', List.length_cons, List.length_nil, Nat.zero_le, Nat.reduceAdd, Nat.reduceLeDiff, Option.bind_some, qx_kn_v, qx_kn_n, Nat.add_zero, Bool.false_eq_true, ↓reduceIte]
      · have h1 := fun d => g250 (L := L) (xs := xs) (d := d) (x := 0) (M := qx_up (M.1, o) 400 0 (nI 0)) (show _ = nI st from h35) hst4
        rw [decide_eq_false hs] at h1
        simp only [s265_0, s265_1, s265_4, s265_7, s265_8, s265_9, s265_10, s265_13, s265_16, s265_17, s265_18, s265_19, s265_22i, s265_22r, s265_22n, s265_23, s265_25, s265_26, s265_29, s265_31, s265_32, s265_33, s265_34, s265_35, s265_38, s265_40, s265_43, s265_44, s265_45, k1, hmay, qbt, h1, qbf, List.length_cons, List.length_nil, Nat.zero_le, Nat.reduceAdd, Nat.reduceLeDiff, Option.bind_some, qx_kn_v, qx_kn_n, Nat.add_zero, Bool.false_eq_true, ↓reduceIte]
end QL
