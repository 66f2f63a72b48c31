/-! wouldEnd, stepsTo. -/
section QL
variable {L : Nat} {xs : Nat → Int32} {d x : Nat}
theorem qPair_tr {d Y Z : Nat} {as zs : List (Option Value)} {ke : Nat → String} {M M1 : qxM} (hR : qREL M) (v : Int32) (h1 : Rs L xs d Y 0 as [] M 0 = some (.inl (some (.int v)), M1, 0)) (hf : qf (qTf 120) M M1) (hg : ∃ g, cS 124 M1 g)
    (h2 : ∀ o, ∃ M2, Rs L xs d Z 0 zs [] (M1.1, o) 0 = some (.inl (some (.int v)), M2, 0) ∧ (∀ k, k < 335 → M2.1 401 k = M1.1 401 k) ∧ qf (fun a => a = 401 ∨ a = 402) (qx_up (M1.1, o) 400 0 (nI 0)) M2) : qPair L xs d Y as Z zs ke M := by
  refine ⟨0, v, M1, by rw [h1, if_pos rfl], by decide, fun o => ?_⟩
  obtain ⟨M2, e1, e2, e3⟩ := h2 o
  have e4 : ∀ k, M2.1 400 k = (qx_up (M1.1, o) 400 0 (nI 0)).1 400 k := fun k => by rw [e3.1 400 (by decide)]
  have e5 : ∀ a, a ≠ 400 → a ≠ 401 → a ≠ 402 → M2.1 a = M1.1 a := fun a h0 h1 h2 => by rw [e3.1 a (by omega), qx_up_ne _ _ _ h0]
  refine ⟨v, M2, e1, e3.2, fun _ => rfl, ?_, ?_, fun a h1 h2 => by rw [e5 a (by omega) (by omega) (by omega), hf.1 a (by unfold qTf; omega)]⟩
  · rw [e4, qx_up_at, if_pos ⟨rfl, rfl⟩]
  · obtain ⟨g, hg⟩ := hg
    refine qREL_tr hR ?_ ?_ ?_ ⟨g, ?_⟩
    · intro a h0 h1 h2 h3
      rw [e5 a h0 h1 (by unfold qFree at h2; omega), hf.1 a h3]
    · intro k hk
      rw [e4, qx_up_at, if_neg (by omega)]
      show M1.1 400 k = _
      rw [hf.1 400 (by unfold qTf; omega)]
    · intro k hk
      rw [e2 k hk, hf.1 401 (by unfold qTf; omega)]
    · have hf : qf (fun a => ¬ (100 ≤ a ∧ a < 400)) (M1.1, M2.2) M2 := ⟨fun a ha => e5 a (by omega) (by omega) (by omega), rfl⟩
      exact qS_fr (M := (M1.1, M2.2)) hg hf (by omega)
theorem j137 {M : qxM} (hR : qREL M) (z : Int32) : qPair L xs (d + 40) 137 [some (.ref 10), some (.int z)] 307 [some (.ref 400), some (.int z), none] ke02 M := by
  obtain ⟨k1, k2, k3⟩ := qx_m400
  rcases qREL_cmp hR with ⟨b1, b2, b3, b4⟩ | ⟨b1, b2, n, r, q, f, mt, s1, s2, s3, s4, st, rt, sp, bm, ou, inn, qb, e, as, qa, bs, lk, nr, fr, wy, hp, hn1, hT, hou, hinn, he14, hst4, hu, ⟨a1, a2, a3, a4⟩, hS, hm, ⟨m1, m2, m3, m4⟩, h35, hN⟩
  · refine qPair_of hR 1 0 (by decide) ?_ ?_
    · rw [if_neg (by decide)]
      simp only [s137_0, s137_1, s137_2, qx_m10, a160t b1, List.length_cons, List.length_nil, Nat.zero_le, Nat.reduceAdd, Nat.reduceLeDiff, Option.bind_some, qx_kn_v, qx_kn_n, Nat.add_zero, Bool.false_eq_true, ↓reduceIte]
      exact qx_kn_t rfl rfl rfl
    · intro o
      refine ⟨nI 0, ?_, fun h => absurd h (by decide)⟩
      have h1 := fun (d : Nat) => b226a (L := L) (xs := xs) (d := d) (x := 0) (M := (M.1, o)) b2 b3 (by decide) z
      simp only [s307_0, s307_1, s307_2, s307_5, s307_8, s307_9, k1, h1, qbt, qbf, qi_z0, true_or, List.length_cons, List.length_nil, Nat.zero_le, Nat.reduceAdd, Nat.reduceLeDiff, Option.bind_some, qx_kn_v, qx_kn_n, Nat.add_zero, Bool.false_eq_true, ↓reduceIte]
  · have hn14 : n ≤ 14 := hp.1
    have hn0 : M.1 101 0 = nI n := hu.1
    by_cases hz : qOut n z
    · refine qPair_of hR 2 0 (by decide) ?_ ?_
      · rw [if_neg (by decide)]
        simp only [s137_0, s137_1, s137_2, qx_m10, a160o b1 hn0 hz, List.length_cons, List.length_nil, Nat.zero_le, Nat.reduceAdd, Nat.reduceLeDiff, Option.bind_some, qx_kn_v, qx_kn_n, Nat.add_zero, Bool.false_eq_true, ↓reduceIte]
        exact qx_kn_t rfl rfl rfl
      · intro o
        refine ⟨nI 0, ?_, fun h => absurd h (by decide)⟩
        have h1 := fun (d : Nat) => b226b (L := L) (xs := xs) (d := d) (x := 0) (M := (M.1, o)) b2 hm.1 hn14 hz
        simp only [s307_0, s307_1, s307_2, s307_5, s307_8, s307_9, k1, h1, qbt, qbf, qi_z0, true_or, List.length_cons, List.length_nil, Nat.zero_le, Nat.reduceAdd, Nat.reduceLeDiff, Option.bind_some, qx_kn_v, qx_kn_n, Nat.add_zero, Bool.false_eq_true, ↓reduceIte]
    obtain ⟨p, p1, p2⟩ := qOut_not (by omega) hz
    subst p2
    have hp14 : p < 14 := by omega
    have hneed := fun (d x : Nat) => a160 (L := L) (xs := xs) (d := d) (x := x) b1 hn0 hn14 p1
    have hmay := fun (o : (Nat → Int64) × (Nat → UInt64)) (d : Nat) => b226c (L := L) (xs := xs) (d := d) (x := 0) (M := (M.1, o)) b2 hm.1 hn14 p1
    have hZ : qx_Z 104 := qx_T100.2.2
    have hP : qx_P 101 := qx_T100.2.1
    have hst0 : M.1 104 0 = nI st := hS.1.1
    obtain ⟨g0, hg0⟩ := hR.2.1.2
    obtain ⟨M1, M2, k, g', t1, t2, t3, t4, t5, t6, t7⟩ := gTrial (L := L) (xs := xs) (d := d + 34) (x := 0) hp14 p1 hp hu hg0
    have t0 : M2.1 124 0 = nI g'.1.1 := t3.1.1
    have t02 : M2.1 124 2 = nI g'.1.2.2.1 := t3.1.2.2.1
    have hmp : M.1 401 (21 + p) = qz (mt p) := hm.2.2.2.2 p hp14
    have h7 : ∀ (o : (Nat → Int64) × (Nat → UInt64)) (d : Nat), Rs L xs (d + 2) 226 0 [some (.ref 400), some (.int (nI p))] [] (M2.1, o) 0 = some (.inl (some (.int (bI true))), qx_up (M2.1, o) 400 0 (nI 0), 0) := fun o d => b226c (L := L) (xs := xs) (d := d) (x := 0) (M := (M2.1, o)) (by show M2.1 400 6 = _; rw [t4.1 400 (by unfold qTf; omega), b2]) (by show M2.1 401 0 = _; rw [t4.1 401 (by unfold qTf; omega)]; exact hm.1) hn14 p1
    have e401 : M2.1 401 = M.1 401 := t4.1 401 (by unfold qTf; omega)
    by_cases z : mt p < 14
    · have hz := t6 z
      rw [qz_lt z] at hmp
      refine qPair_tr hR (-1) (M1 := M2) ?_ t4 ⟨_, t3⟩ (fun o => ⟨qx_up (M2.1, o) 400 0 (nI 0), ?_, fun k _ => rfl, qf_refl _ _⟩)
      · have h9 := g56 (L := L) (xs := xs) (d := d + 39) (x := 0) (t := 124) qx_T120.2.2 t0 t5
        rw [decide_eq_false (fun h => h hz)] at h9
        simp only [s137_0, s137_1, s137_2, s137_5, s137_6, s137_9, s137_10, s137_13, s137_16, s137_17, s137_20, s137_21, s137_24, s137_27, s137_28, s137_29, s137_32, s137_35, s137_38, s137_41, s137_42, s137_45, s137_48, s137_51, s137_54, s137_55, qx_m10, qx_T100.1, qx_T120.1, qx_T120.2.2.1, hneed, t1, t2, h9, qbf, List.length_cons, List.length_nil, Nat.zero_le, Nat.reduceAdd, Nat.reduceLeDiff, Option.bind_some, qx_kn_v, qx_kn_n, Nat.add_zero, Bool.false_eq_true, ↓reduceIte]
      · have e : (qx_up (M2.1, o) 400 0 (nI 0)).1 401 (21 + p) = nI (mt p) := by
          show M2.1 401 (21 + p) = _
          rw [e401, hmp]
        simp only [s307_0, s307_1, s307_2, s307_5, s307_8, s307_9, s307_10, s307_11, s307_12, s307_15, s307_16, s307_19, s307_20, k1, h7, qbt, m213 hp14, e, qi_n1 (show mt p < 2 ^ 31 by omega), List.length_cons, List.length_nil, Nat.zero_le, Nat.reduceAdd, Nat.reduceLeDiff, Option.bind_some, qx_kn_v, qx_kn_n, Nat.add_zero, Bool.false_eq_true, ↓reduceIte]
    · obtain ⟨mt', hk, hr, hne, hsp⟩ := t7 z
      rw [qz_ge z] at hmp
      refine qPair_tr hR (nI g'.1.1) (M1 := M2) ?_ t4 ⟨_, t3⟩ (fun o => ?_)
      · have h9 := g56 (L := L) (xs := xs) (d := d + 39) (x := 0) (t := 124) qx_T120.2.2 t0 t5
        rw [decide_eq_true hne] at h9
        simp only [s137_0, s137_1, s137_2, s137_5, s137_6, s137_9, s137_10, s137_13, s137_16, s137_17, s137_20, s137_21, s137_24, s137_27, s137_28, s137_29, s137_32, s137_35, s137_38, s137_41, s137_42, s137_45, s137_48, s137_51, s137_54, s137_55, qx_m10, qx_T100.1, qx_T120.1, qx_T120.2.2.1, hneed, t1, t2, h9, qbt, t0, t02, List.length_cons, List.length_nil, Nat.zero_le, Nat.reduceAdd, Nat.reduceLeDiff, Option.bind_some, qx_kn_v, qx_kn_n, Nat.add_zero, Bool.false_eq_true, ↓reduceIte]
      · have e : (qx_up (M2.1, o) 400 0 (nI 0)).1 401 (21 + p) = -1 := by
          show M2.1 401 (21 + p) = _
          rw [e401, hmp]
        have hnp : nPu (qx_up (M2.1, o) 400 0 (nI 0)) n r q f mt := by
          unfold nPu nMt
          show M2.1 401 0 = _ ∧ M2.1 401 1 = _ ∧ M2.1 401 2 = _ ∧ (∀ p, p < 14 → M2.1 401 _ = _) ∧ (∀ p, p < 14 → M2.1 401 _ = _)
          rw [e401]
          exact hm
        obtain ⟨A1, A2, A3, u1, u2, u3, u4, u5⟩ := gThink (L := L) (xs := xs) (d := d + 33) (x := 0) g0.2.2.1 hp14 hnp hr
        obtain ⟨A4, u6, u7, u8⟩ := u5 (nI g'.1.1)
        refine ⟨A4, ?_, u7, u8⟩
        simp only [s307_0, s307_1, s307_2, s307_5, s307_8, s307_9, s307_10, s307_11, s307_12, s307_15, s307_16, s307_19, s307_20, s307_21, s307_22, s307_25, s307_26, s307_27, s307_30, s307_31, s307_34i, s307_34r, s307_34n, s307_35, s307_36, s307_37, s307_40, s307_42, s307_43, s307_46, k1, k2, k3, h7, qbt, m213 hp14, e, eq_self, u1, u2, u3, u4, u6, (qn_c (35) (by omega)).1, (qn_c (35) (by omega)).2, List.length_cons, List.length_nil, Nat.zero_le, Nat.reduceAdd, Nat.reduceLeDiff, Option.bind_some, qx_kn_v, qx_kn_n, Nat.add_zero, Bool.false_eq_true, ↓reduceIte]
theorem j138 {M : qxM} (hR : qREL M) (z : Int32) : qPair L xs (d + 40) 138 [some (.ref 10), some (.int z)] 308 [some (.ref 400), some (.int z)] ke02 M := by
  obtain ⟨k1, k2, k3⟩ := qx_m400
  rcases qREL_cmp hR with ⟨b1, b2, b3, b4⟩ | ⟨b1, b2, n, r, q, f, mt, s1, s2, s3, s4, st, rt, sp, bm, ou, inn, qb, e, as, qa, bs, lk, nr, fr, wy, hp, hn1, hT, hou, hinn, he14, hst4, hu, ⟨a1, a2, a3, a4⟩, hS, hm, ⟨m1, m2, m3, m4⟩, h35, hN⟩
  · refine qPair_of hR 1 0 (by decide) ?_ ?_
    · rw [if_neg (by decide)]
      simp only [s138_0, s138_1, s138_2, qx_m10, a160t b1, List.length_cons, List.length_nil, Nat.zero_le, Nat.reduceAdd, Nat.reduceLeDiff, Option.bind_some, qx_kn_v, qx_kn_n, Nat.add_zero, Bool.false_eq_true, ↓reduceIte]
      exact qx_kn_t rfl rfl rfl
    · intro o
      refine ⟨nI 0, ?_, fun h => absurd h (by decide)⟩
      have h1 := fun (d : Nat) => b226a (L := L) (xs := xs) (d := d) (x := 0) (M := (M.1, o)) b2 b3 (by decide) z
      simp only [s308_0, s308_1, s308_2, s308_5, s308_8, s308_9, k1, h1, qbt, qbf, qi_z0, true_or, List.length_cons, List.length_nil, Nat.zero_le, Nat.reduceAdd, Nat.reduceLeDiff, Option.bind_some, qx_kn_v, qx_kn_n, Nat.add_zero, Bool.false_eq_true, ↓reduceIte]
  · have hn14 : n ≤ 14 := hp.1
    have hn0 : M.1 101 0 = nI n := hu.1
    by_cases hz : qOut n z
    · refine qPair_of hR 2 0 (by decide) ?_ ?_
      · rw [if_neg (by decide)]
        simp only [s138_0, s138_1, s138_2, qx_m10, a160o b1 hn0 hz, List.length_cons, List.length_nil, Nat.zero_le, Nat.reduceAdd, Nat.reduceLeDiff, Option.bind_some, qx_kn_v, qx_kn_n, Nat.add_zero, Bool.false_eq_true, ↓reduceIte]
        exact qx_kn_t rfl rfl rfl
      · intro o
        refine ⟨nI 0, ?_, fun h => absurd h (by decide)⟩
        have h1 := fun (d : Nat) => b226b (L := L) (xs := xs) (d := d) (x := 0) (M := (M.1, o)) b2 hm.1 hn14 hz
        simp only [s308_0, s308_1, s308_2, s308_5, s308_8, s308_9, k1, h1, qbt, qbf, qi_z0, true_or, List.length_cons, List.length_nil, Nat.zero_le, Nat.reduceAdd, Nat.reduceLeDiff, Option.bind_some, qx_kn_v, qx_kn_n, Nat.add_zero, Bool.false_eq_true, ↓reduceIte]
    obtain ⟨p, p1, p2⟩ := qOut_not (by omega) hz
    subst p2
    have hp14 : p < 14 := by omega
    have hneed := fun (d x : Nat) => a160 (L := L) (xs := xs) (d := d) (x := x) b1 hn0 hn14 p1
    have hmay := fun (o : (Nat → Int64) × (Nat → UInt64)) (d : Nat) => b226c (L := L) (xs := xs) (d := d) (x := 0) (M := (M.1, o)) b2 hm.1 hn14 p1
    have hZ : qx_Z 104 := qx_T100.2.2
    have hP : qx_P 101 := qx_T100.2.1
    have hst0 : M.1 104 0 = nI st := hS.1.1
    obtain ⟨g0, hg0⟩ := hR.2.1.2
    obtain ⟨M1, M2, k, g', t1, t2, t3, t4, t5, t6, t7⟩ := gTrial (L := L) (xs := xs) (d := d + 34) (x := 0) hp14 p1 hp hu hg0
    have t0 : M2.1 124 0 = nI g'.1.1 := t3.1.1
    have t02 : M2.1 124 2 = nI g'.1.2.2.1 := t3.1.2.2.1
    have hmp : M.1 401 (21 + p) = qz (mt p) := hm.2.2.2.2 p hp14
    have h7 : ∀ (o : (Nat → Int64) × (Nat → UInt64)) (d : Nat), Rs L xs (d + 2) 226 0 [some (.ref 400), some (.int (nI p))] [] (M2.1, o) 0 = some (.inl (some (.int (bI true))), qx_up (M2.1, o) 400 0 (nI 0), 0) := fun o d => b226c (L := L) (xs := xs) (d := d) (x := 0) (M := (M2.1, o)) (by show M2.1 400 6 = _; rw [t4.1 400 (by unfold qTf; omega), b2]) (by show M2.1 401 0 = _; rw [t4.1 401 (by unfold qTf; omega)]; exact hm.1) hn14 p1
    have e401 : M2.1 401 = M.1 401 := t4.1 401 (by unfold qTf; omega)
    by_cases z : mt p < 14
    · have hz := t6 z
      rw [qz_lt z] at hmp
      refine qPair_tr hR (-1) (M1 := M2) ?_ t4 ⟨_, t3⟩ (fun o => ⟨qx_up (M2.1, o) 400 0 (nI 0), ?_, fun k _ => rfl, qf_refl _ _⟩)
      · have h9 := g56 (L := L) (xs := xs) (d := d + 39) (x := 0) (t := 124) qx_T120.2.2 t0 t5
        rw [decide_eq_false (fun h => h hz)] at h9
        simp only [s138_0, s138_1, s138_2, s138_5, s138_6, s138_9, s138_10, s138_13, s138_16, s138_17, s138_20, s138_21, s138_24, s138_27, s138_28, s138_29, s138_32, s138_35, s138_38, s138_41, s138_42, s138_45, s138_48, s138_51, s138_54, s138_55, qx_m10, qx_T100.1, qx_T120.1, qx_T120.2.2.1, hneed, t1, t2, h9, qbf, List.length_cons, List.length_nil, Nat.zero_le, Nat.reduceAdd, Nat.reduceLeDiff, Option.bind_some, qx_kn_v, qx_kn_n, Nat.add_zero, Bool.false_eq_true, ↓reduceIte]
      · have e : (qx_up (M2.1, o) 400 0 (nI 0)).1 401 (21 + p) = nI (mt p) := by
          show M2.1 401 (21 + p) = _
          rw [e401, hmp]
        simp only [s308_0, s308_1, s308_2, s308_5, s308_8, s308_9, s308_10, s308_11, s308_12, s308_15, s308_16, s308_19, s308_20, k1, h7, qbt, m213 hp14, e, qi_n1 (show mt p < 2 ^ 31 by omega), List.length_cons, List.length_nil, Nat.zero_le, Nat.reduceAdd, Nat.reduceLeDiff, Option.bind_some, qx_kn_v, qx_kn_n, Nat.add_zero, Bool.false_eq_true, ↓reduceIte]
    · obtain ⟨mt', hk, hr, hne, hsp⟩ := t7 z
      rw [qz_ge z] at hmp
      refine qPair_tr hR (nI k) (M1 := M2) ?_ t4 ⟨_, t3⟩ (fun o => ?_)
      · have h9 := g56 (L := L) (xs := xs) (d := d + 39) (x := 0) (t := 124) qx_T120.2.2 t0 t5
        rw [decide_eq_true hne] at h9
        simp only [s138_0, s138_1, s138_2, s138_5, s138_6, s138_9, s138_10, s138_13, s138_16, s138_17, s138_20, s138_21, s138_24, s138_27, s138_28, s138_29, s138_32, s138_35, s138_38, s138_41, s138_42, s138_45, s138_48, s138_51, s138_54, s138_55, qx_m10, qx_T100.1, qx_T120.1, qx_T120.2.2.1, hneed, t1, t2, h9, qbt, t0, t02, hsp, List.length_cons, List.length_nil, Nat.zero_le, Nat.reduceAdd, Nat.reduceLeDiff, Option.bind_some, qx_kn_v, qx_kn_n, Nat.add_zero, Bool.false_eq_true, ↓reduceIte]
      · have e : (qx_up (M2.1, o) 400 0 (nI 0)).1 401 (21 + p) = -1 := by
          show M2.1 401 (21 + p) = _
          rw [e401, hmp]
        have hnp : nPu (qx_up (M2.1, o) 400 0 (nI 0)) n r q f mt := by
          unfold nPu nMt
          show M2.1 401 0 = _ ∧ M2.1 401 1 = _ ∧ M2.1 401 2 = _ ∧ (∀ p, p < 14 → M2.1 401 _ = _) ∧ (∀ p, p < 14 → M2.1 401 _ = _)
          rw [e401]
          exact hm
        obtain ⟨A1, A2, A3, u1, u2, u3, u4, u5⟩ := gThink (L := L) (xs := xs) (d := d + 33) (x := 0) g0.2.2.1 hp14 hnp hr
        obtain ⟨A4, u6, u7, u8⟩ := u5 (nI k)
        refine ⟨A4, ?_, u7, u8⟩
        simp only [s308_0, s308_1, s308_2, s308_5, s308_8, s308_9, s308_10, s308_11, s308_12, s308_15, s308_16, s308_19, s308_20, s308_21, s308_22, s308_25, s308_26, s308_27, s308_30, s308_31, s308_32, s308_35, s308_38, k1, k2, k3, h7, qbt, m213 hp14, e, eq_self, u1, u2, u3, u4, u6, (qn_c (35) (by omega)).1, (qn_c (35) (by omega)).2, List.length_cons, List.length_nil, Nat.zero_le, Nat.reduceAdd, Nat.reduceLeDiff, Option.bind_some, qx_kn_v, qx_kn_n, Nat.add_zero, Bool.false_eq_true, ↓reduceIte]
end QL
