/-! textByte, writeWay. -/
def wyL (w : List Nat) : Nat → Nat → List Nat → List Nat
  | 0, _, T => T
  | k + 1, i, T => wyL w k (i + 1) (sepl T 62 ++ dg (w.getD i 0))
theorem way_el {n : Nat} {mt : Nat → Nat} {st rt sp bm ou inn qb e as p : Nat} {qa bs lk nr fr : Nat → Nat} {wy : Nat → List Nat} (hT : st = 0 ∨ gT n mt ((st, rt, sp, bm), (ou, inn, qb, e, as), qa, bs, lk, nr, fr, wy)) (hne : st ≠ 0) (hn : n ≤ 14) : ∀ a, a ∈ wy p → a < 14 := by
  obtain ⟨mt0, tm, hGo, hmt0, _⟩ := gT_g hT hne
  intro a ha
  have hO : qO ou p := by
    unfold qO
    cases w : ou.testBit p with
    | true => rfl
    | false =>
      rw [gT_w hT p hne w] at ha
      cases ha
  obtain ⟨rr, r1, r2, r3, r4, r5, r6⟩ := qs_turn hGo.1 hGo.2.1 hGo.2.2.2.2.2.2 hO
  rw [r1] at ha
  have := (r4 a ha).1
  omega
theorem getD_el {w : List Nat} {i : Nat} (h : ∀ a, a ∈ w → a < 14) (hi : i < w.length) : w.getD i 0 < 14 := by
  rw [List.getD_eq_getElem?_getD, List.getElem?_eq_getElem hi]
  exact h _ (List.getElem_mem hi)
section QL
variable {L : Nat} {xs : Nat → Int32} {d x : Nat}
theorem z180t (M : qxM) : Rs L xs d 180 0 [some (.ref 400), some (.int (bI true)), some (.int (nI 1)), some (.int (nI 1))] [] M x = some (.inl (some (.int (bI true))), qx_up M 400 0 (nI 0), x) := a180 true true true
theorem z180u (M : qxM) : Rs L xs d 180 0 [some (.ref 400), some (.int (bI false)), some (.int (nI 1)), some (.int (nI 1))] [] M x = some (.inl (some (.int (bI false))), qx_up M 400 0 (nI 1), x) := a180 false true true
theorem j144 {M : qxM} (hR : qREL M) (z : Int32) : qPair L xs (d + 40) 144 [some (.ref 10), some (.int z)] 317 [some (.ref 400), some (.int z)] ke2 M := by
  obtain ⟨k1, k2, k3⟩ := qx_m400
  obtain ⟨y1, y2, y3, y4, y5⟩ := qx_m30
  obtain ⟨_, _, _, _, _, k, t1, t2, t3, t4⟩ := id hR
  have h178 := fun (o : (Nat → Int64) × (Nat → UInt64)) d => a178n (L := L) (xs := xs) (d := d) (x := 0) (M := (M.1, o)) (n := k) (by omega) z
  by_cases hz : qOut k z
  · refine qPair_of hR 1 0 (by decide) ?_ (fun o => ⟨nI 0, ?_, fun h => absurd h (by decide)⟩)
    · rw [if_neg (by decide)]
      by_cases h0 : z < 0
      · simp only [s144_0, s144_1, s144_4, s144_5, s144_6, s144_9, s144_12, s144_15, s144_16, s144_17, s144_20, s144_23, s144_24, s144_27, s144_30r, s144_30i, s144_38, s144_39, s144_42, s144_45, s144_46, s144_46z, s144_47, qx_m10, y1, h0, List.length_cons, List.length_nil, Nat.zero_le, Nat.reduceAdd, Nat.reduceLeDiff, Option.bind_some, qx_kn_v, qx_kn_n, Nat.add_zero, Bool.false_eq_true, ↓reduceIte]
        rfl
      · have h1 : nI k ≤ z := hz.resolve_left h0
        simp only [s144_0, s144_1, s144_4, s144_5, s144_6, s144_9, s144_12, s144_15, s144_16, s144_17, s144_20, s144_23, s144_24, s144_27, s144_30r, s144_30i, s144_38, s144_39, s144_42, s144_45, s144_46, s144_46z, s144_47, qx_m10, y1, t2, h0, h1, List.length_cons, List.length_nil, Nat.zero_le, Nat.reduceAdd, Nat.reduceLeDiff, Option.bind_some, qx_kn_v, qx_kn_n, Nat.add_zero, Bool.false_eq_true, ↓reduceIte]
        rfl
    · have h1 := fun d => h178 o d
      rw [decide_eq_true hz] at h1
      simp only [s317_0, s317_1, s317_2, s317_3, s317_4, s317_7, s317_8, s317_9, s317_12, s317_13, s317_14, s317_17, s317_20, s317_21, s317_24, s317_25, s317_25z, s317_26, s317_29, s317_30, k1, t3, h1, Bool.not_true, z180u, qbf, List.length_cons, List.length_nil, Nat.zero_le, Nat.reduceAdd, Nat.reduceLeDiff, Option.bind_some, qx_kn_v, qx_kn_n, Nat.add_zero, Bool.false_eq_true, ↓reduceIte]
  · obtain ⟨i, i1, i2⟩ := qOut_not (by omega) hz
    subst i2
    have h0 : ¬ nI i < 0 := nI_pos (by omega)
    have h1 : ¬ nI k ≤ nI i := nI_ge i1 (by omega)
    have h2 : nI i < nI 64 := nI_lt (by omega) (by decide)
    have h3 : qx_ib (nI i) 64 = true := qx_ib_of (by omega) (by decide)
    have h4 : (nI i).toNatClampNeg = i := nI_clamp (by omega)
    have h5 : qx_ib (nI i) 120 = true := qx_ib_of (by omega) (by decide)
    refine qPair_of hR 0 (M.1 31 i) (by decide) ?_ (fun o => ⟨M.1 31 i, ?_, fun _ => rfl⟩)
    · rw [if_pos rfl]
      simp only [s144_0, s144_1, s144_4, s144_5, s144_6, s144_9, s144_12, s144_15, s144_16, s144_17, s144_20, s144_23, s144_24, s144_27, s144_30r, s144_30i, s144_38, s144_39, s144_42, s144_45, s144_46, s144_46z, s144_47, qx_m10, y1, y2, y3, qx_16, t2, h0, h1, h2, h3, h4, List.length_cons, List.length_nil, Nat.zero_le, Nat.reduceAdd, Nat.reduceLeDiff, Option.bind_some, qx_kn_v, qx_kn_n, Nat.add_zero, Bool.false_eq_true, ↓reduceIte]
    · have h6 := fun d => h178 o d
      rw [decide_eq_false hz] at h6
      have h7 : (qx_up (M.1, o) 400 0 (nI 0)).1 410 i = M.1 31 i := by
        rw [qx_up_ne _ _ _ (by decide)]
        exact (t4 i i1).symm
      simp only [s317_0, s317_1, s317_2, s317_3, s317_4, s317_7, s317_8, s317_9, s317_12, s317_13, s317_14, s317_17, s317_20, s317_21, s317_24, s317_25, s317_25z, s317_26, s317_29, s317_30, k1, t3, h6, Bool.not_false, z180t, qbt, y4, y5, h4, h5, h7, List.length_cons, List.length_nil, Nat.zero_le, Nat.reduceAdd, Nat.reduceLeDiff, Option.bind_some, qx_kn_v, qx_kn_n, Nat.add_zero, Bool.false_eq_true, ↓reduceIte]
end QL
section QL
variable {L : Nat} {xs : Nat → Int32}
theorem a143l {d p : Nat} {wy : Nat → List Nat} (hp : p < 14) (hel : ∀ a, a ∈ wy p → a < 14) : ∀ (k i x : Nat) (M : qxM) (T : List Nat), i + k = (wy p).length → qW 110 M wy → cTx M T → T.length ≤ 3 * i →
    ∃ M', Rs L xs (d + 3) 143 26 [some (.ref 10), some (.int (nI p)), some (.int (nI (wy p).length)), some (.int (nI i))] [] M x = some (.inl (some (.int (nI (finl (wyL (wy p) k i T)).length))), M', x) ∧ cTx M' (finl (wyL (wy p) k i T)) ∧ qf qTX M M' ∧ (finl (wyL (wy p) k i T)).length ≤ 64 := by
  have hZ : qx_Z 104 := qx_T100.2.2
  have hY : qx_Y 110 := hZ.2.2
  intro k
  induction k with
  | zero =>
    intro i x M T hi hW hT hl
    have hl14 := (hW p hp).1
    have h1 : (nI (wy p).length ≤ nI i) = True := by rw [show i = (wy p).length by omega]; exact eq_true (Int32.le_refl _)
    obtain ⟨M1, g1, c1, f1⟩ := m84 (L := L) (xs := xs) (d := d + 1) (x := 0) hT (by omega)
    refine ⟨M1, ?_, c1, f1, finl_len (show (wyL (wy p) 0 i T).length ≤ 63 by show T.length ≤ 63; omega)⟩
    simp only [s143_26, s143_27, s143_28, s143_68, s143_69, s143_72, s143_75, qx_m10, qx_m30, h1, g1, wyL, List.length_cons, List.length_nil, Nat.zero_le, Nat.reduceAdd, Nat.reduceLeDiff, Option.bind_some, qx_kn_v, qx_kn_n, Nat.add_zero, Bool.false_eq_true, ↓reduceIte]
  | succ k ih =>
    intro i x M T hi hW hT hl
    have hl14 := (hW p hp).1
    have h1 : ¬ nI (wy p).length ≤ nI i := nI_ge (by omega) (by omega)
    have hv := getD_el hel (show i < (wy p).length by omega)
    have hi1 : nI i + nI 1 = nI (i + 1) := nI_add _ _
    have d1 := dg_len ((wy p).getD i 0)
    have l1 := sepl_len T 62
    obtain ⟨M1, g1, c1, f1⟩ := m83 (L := L) (xs := xs) (d := d + 1) (x := 0) (c := 62) hT (by omega) (by decide)
    have hW1 : qW 110 M1 wy := by
      unfold qW
      rw [f1.1 (110 + 1) (by unfold qTX; omega), f1.1 (110 + 2) (by unfold qTX; omega)]
      exact hW
    have h88 := m88 (L := L) (xs := xs) (d := d + 1) (x := 0) (M := M1) hY hp (hW1 p hp).2.1 hl14 (show i < (wy p).length by omega)
    rw [(hW1 p hp).2.2 i (by omega)] at h88
    obtain ⟨M2, g2, c2, f2⟩ := m81 (L := L) (xs := xs) (d := d + 1) (x := 0) (v := (wy p).getD i 0) c1 hv (by omega)
    have hW2 : qW 110 M2 wy := by
      unfold qW
      rw [f2.1 (110 + 1) (by unfold qTX; omega), f2.1 (110 + 2) (by unfold qTX; omega)]
      exact hW1
    obtain ⟨M5, g5, c5, f5, l5⟩ := ih (i + 1) x M2 (sepl T 62 ++ dg ((wy p).getD i 0)) (by omega) hW2 c2 (by rw [List.length_append]; omega)
    refine ⟨M5, ?_, c5, qf_trans f1 (qf_trans f2 f5), l5⟩
    simp only [s143_26, s143_27, s143_28, s143_31, s143_32, s143_35, s143_37, s143_40, s143_41, s143_44, s143_45, s143_48, s143_51, s143_54, s143_55, s143_56, s143_59, s143_62i, s143_62r, s143_62n, qx_m10, qx_m30, qx_T100.1, hZ.1, hY.1, h1, g1, h88, g2, hi1, List.length_cons, List.length_nil, Nat.zero_le, Nat.reduceAdd, Nat.reduceLeDiff, Option.bind_some, qx_kn_v, qx_kn_n, Nat.add_zero, Bool.false_eq_true, ↓reduceIte]
    rw [s143_65, g5]
    rfl
theorem m316l {d p st rt sp bm ou inn qb e as : Nat} {qa bs lk nr fr : Nat → Nat} {wy : Nat → List Nat} (hp : p < 14) (hel : ∀ a, a ∈ wy p → a < 14) (hst4 : st < 4) (hst : qs_tl st (wy p) = (wy p).length) (hwy : st ≠ 0 → ou.testBit p = false → wy p = []) (hl14 : (wy p).length ≤ 14) : ∀ (k i x : Nat) (M : qxM) (T : List Nat), i + k = (wy p).length → M.1 401 35 = nI st → (st ≠ 0 → nS M st rt sp bm ou inn qb e as qa bs lk nr fr wy) → (0 < (wy p).length → ∀ j, j < (wy p).length → M.1 401 (139 + 14 * p + j) = nI ((wy p).getD j 0)) → nTx M T → T.length ≤ 3 * i → (T.length = 0 ↔ i = 0) →
    ∃ M', Rs L xs (d + 3) 316 17 [some (.ref 400), some (.int (nI p)), some (.int (nI i))] [] M x = some (.inl (some (.int (nI (finl (wyL (wy p) k i T)).length))), M', x) ∧ nTx M' (finl (wyL (wy p) k i T)) ∧ nf M M' := by
  obtain ⟨k1, k2, k3⟩ := qx_m400
  intro k
  induction k with
  | zero =>
    intro i x M T hi h35 hN hv hT hl h0
    have h1 : (nI (wy p).length ≤ nI i) = True := by rw [show i = (wy p).length by omega]; exact eq_true (Int32.le_refl _)
    have h266 := g266 (L := L) (xs := xs) (d := d + 1) (x := 0) h35 hst4 hp hN hwy
    rw [hst] at h266
    obtain ⟨M1, c1, f1, g1, g2⟩ := m313e (L := L) (xs := xs) (d := d + 2) hT (by omega)
    refine ⟨M1, ?_, c1, f1⟩
    have hl1 := c1.1
    by_cases z : T.length = 0
    · have h0 : (nI T.length = 0) = True := by rw [z]; decide
      simp only [s316_17, s316_18, s316_19, s316_20, s316_23, s316_52, s316_53, s316_56, s316_59, s316_60, s316_62, s316_65, s316_66, s316_69, k1, h266, h1, hT.1, h0, g1 z, hl1, wyL, List.length_cons, List.length_nil, Nat.zero_le, Nat.reduceAdd, Nat.reduceLeDiff, Option.bind_some, qx_kn_v, qx_kn_n, Nat.add_zero, Bool.false_eq_true, ↓reduceIte]
    · have h0 : (nI T.length = 0) = False := eq_false (nI_ne0 (by omega) (by omega))
      rw [g2 z] at hl1 ⊢
      simp only [s316_17, s316_18, s316_19, s316_20, s316_23, s316_52, s316_53, s316_56, s316_59, s316_60, s316_62, s316_65, s316_66, s316_69, k1, h266, h1, hT.1, h0, wyL, List.length_cons, List.length_nil, Nat.zero_le, Nat.reduceAdd, Nat.reduceLeDiff, Option.bind_some, qx_kn_v, qx_kn_n, Nat.add_zero, Bool.false_eq_true, ↓reduceIte]
      rw [show finl T = T from if_neg z]
  | succ k ih =>
    intro i x M T hi h35 hN hv hT hl h0
    have h1 : ¬ nI (wy p).length ≤ nI i := nI_ge (by omega) (by omega)
    have h266 := g266 (L := L) (xs := xs) (d := d + 1) (x := 0) h35 hst4 hp hN hwy
    rw [hst] at h266
    have hi1 : nI i + nI 1 = nI (i + 1) := nI_add _ _
    have hd14 := getD_el hel (show i < (wy p).length by omega)
    have d1 := dg_len ((wy p).getD i 0)
    have l1 := sepl_len T 62
    have hsep : ∃ M1, nTx M1 (sepl T 62) ∧ nf M M1 ∧ (T.length = 0 → M1 = M) ∧ (T.length ≠ 0 → Rs L xs (d + 2) 311 0 [some (.ref 400), some (.int (nI 62))] [] M 0 = some (.inl none, M1, 0)) := by
      by_cases w : T.length = 0
      · exact ⟨M, by unfold sepl; rw [if_pos w]; exact hT, nf_refl M, fun _ => rfl, fun h => absurd w h⟩
      · obtain ⟨M2, g2, c2, f2⟩ := m311 (L := L) (xs := xs) (d := d + 2) (x := 0) (c := 62) hT (by omega) (by decide)
        exact ⟨M2, by unfold sepl; rw [if_neg w]; exact c2, f2, fun h => absurd h w, fun _ => g2⟩
    obtain ⟨M1, c1, f1, g1a, g1b⟩ := hsep
    have h235 := g235 (L := L) (xs := xs) (d := d + 2) (x := 0) (M := M1) hp (show i < 14 by omega)
    rw [f1.1 401 (by decide) (by decide), hv (by omega) i (by omega)] at h235
    obtain ⟨M2, g2, c2, f2⟩ := m312 (L := L) (xs := xs) (d := d + 1) (x := 0) (v := (wy p).getD i 0) c1 hd14 (by omega)
    have F := nf_trans f1 f2
    have e401 : M2.1 401 = M.1 401 := F.1 401 (by decide) (by decide)
    obtain ⟨M5, g5, c5, f5⟩ := ih (i + 1) x M2 (sepl T 62 ++ dg ((wy p).getD i 0)) (by omega) (by rw [e401, h35]) (fun hs => by
      have h := hN hs
      unfold nS nS1 nQ nLb nB nLk nNr nFr nW at h ⊢
      rw [e401]
      exact h) (fun h j hj => by rw [e401]; exact hv h j hj) c2 (by rw [List.length_append]; omega) (by
        rw [List.length_append]
        have : 0 < (dg ((wy p).getD i 0)).length := by
          unfold dg
          split <;> exact Nat.succ_pos _
        omega)
    refine ⟨M5, ?_, c5, nf_trans F f5⟩
    by_cases w : T.length = 0
    · have hz : (nI i ≤ 0) = True := by rw [h0.mp w]; decide
      have e1 := g1a w
      subst e1
      simp only [s316_17, s316_18, s316_19, s316_20, s316_23, s316_26, s316_27, s316_30, s316_31, s316_33, s316_36, s316_37, s316_38, s316_39, s316_40, s316_43, s316_46i, s316_46r, s316_46n, k1, h266, h1, hz, h235, g2, hi1, List.length_cons, List.length_nil, Nat.zero_le, Nat.reduceAdd, Nat.reduceLeDiff, Option.bind_some, qx_kn_v, qx_kn_n, Nat.add_zero, Bool.false_eq_true, ↓reduceIte]
      rw [s316_49, g5]
      rfl
    · have hz : (nI i ≤ 0) = False := eq_false (nI_nle (by omega) (by omega))
      simp only [s316_17, s316_18, s316_19, s316_20, s316_23, s316_26, s316_27, s316_30, s316_31, s316_33, s316_36, s316_37, s316_38, s316_39, s316_40, s316_43, s316_46i, s316_46r, s316_46n, k1, h266, h1, hz, g1b w, h235, g2, hi1, List.length_cons, List.length_nil, Nat.zero_le, Nat.reduceAdd, Nat.reduceLeDiff, Option.bind_some, qx_kn_v, qx_kn_n, Nat.add_zero, Bool.false_eq_true, ↓reduceIte]
      rw [s316_49, g5]
      rfl
end QL
section QL
variable {L : Nat} {xs : Nat → Int32} {d x : Nat}
theorem j143 {M : qxM} (hR : qREL M) (z : Int32) : qPair L xs (d + 40) 143 [some (.ref 10), some (.int z), none, none] 316 [some (.ref 400), some (.int z), none] ke02 M := by
  obtain ⟨k1, k2, k3⟩ := qx_m400
  rcases qREL_cmp hR with ⟨b1, b2, b3, b4⟩ | ⟨b1, b2, n, r, q, f, mt, s1, s2, s3, s4, st, rt, sp, bm, ou, inn, qb, e, as, qa, bs, lk, nr, fr, wy, hp, hn1, hT, hou, hinn, he14, hst4, hu, ⟨a1, a2, a3, a4⟩, hS, hm, ⟨m1, m2, m3, m4⟩, h35, hN⟩
  · refine qPair_of hR 1 0 (by decide) ?_ ?_
    · rw [if_neg (by decide)]
      simp only [s143_0, s143_1, s143_2, qx_m10, a160t b1, List.length_cons, List.length_nil, Nat.zero_le, Nat.reduceAdd, Nat.reduceLeDiff, Option.bind_some, qx_kn_v, qx_kn_n, Nat.add_zero, Bool.false_eq_true, ↓reduceIte]
      exact qx_kn_t rfl rfl rfl
    · intro o
      refine ⟨nI 0, ?_, fun h => absurd h (by decide)⟩
      have h1 := fun (d : Nat) => b226a (L := L) (xs := xs) (d := d) (x := 0) (M := (M.1, o)) b2 b3 (by decide) z
      simp only [s316_0, s316_1, s316_2, s316_5, s316_8, s316_9, k1, h1, qbt, qbf, qi_z0, true_or, List.length_cons, List.length_nil, Nat.zero_le, Nat.reduceAdd, Nat.reduceLeDiff, Option.bind_some, qx_kn_v, qx_kn_n, Nat.add_zero, Bool.false_eq_true, ↓reduceIte]
  · have hn14 : n ≤ 14 := hp.1
    have hn0 : M.1 101 0 = nI n := hu.1
    by_cases hz : qOut n z
    · refine qPair_of hR 2 0 (by decide) ?_ ?_
      · rw [if_neg (by decide)]
        simp only [s143_0, s143_1, s143_2, qx_m10, a160o b1 hn0 hz, List.length_cons, List.length_nil, Nat.zero_le, Nat.reduceAdd, Nat.reduceLeDiff, Option.bind_some, qx_kn_v, qx_kn_n, Nat.add_zero, Bool.false_eq_true, ↓reduceIte]
        exact qx_kn_t rfl rfl rfl
      · intro o
        refine ⟨nI 0, ?_, fun h => absurd h (by decide)⟩
        have h1 := fun (d : Nat) => b226b (L := L) (xs := xs) (d := d) (x := 0) (M := (M.1, o)) b2 hm.1 hn14 hz
        simp only [s316_0, s316_1, s316_2, s316_5, s316_8, s316_9, k1, h1, qbt, qbf, qi_z0, true_or, List.length_cons, List.length_nil, Nat.zero_le, Nat.reduceAdd, Nat.reduceLeDiff, Option.bind_some, qx_kn_v, qx_kn_n, Nat.add_zero, Bool.false_eq_true, ↓reduceIte]
    obtain ⟨p, p1, p2⟩ := qOut_not (by omega) hz
    subst p2
    have hp14 : p < 14 := by omega
    have hneed := fun (d x : Nat) => a160 (L := L) (xs := xs) (d := d) (x := x) b1 hn0 hn14 p1
    have hmay := fun (o : (Nat → Int64) × (Nat → UInt64)) (d : Nat) => b226c (L := L) (xs := xs) (d := d) (x := 0) (M := (M.1, o)) b2 hm.1 hn14 p1
    have hZ : qx_Z 104 := qx_T100.2.2
    have hP : qx_P 101 := qx_T100.2.1
    have hst0 : M.1 104 0 = nI st := hS.1.1
    have hW : qW 110 M wy := hS.2.2.2.2.2.2
    have c0 : cTx (qx_up M 30 1 (nI 0)) [] := ⟨by rw [qx_up_eq]; rfl, fun i h => absurd h (Nat.not_lt_zero i)⟩
    have f0 : qf qTX M (qx_up M 30 1 (nI 0)) := qf_up _ _ _ _ (Or.inl rfl)
    have h79 := m79 (L := L) (xs := xs) (d := d + 39) (x := 0) (M := M)
    have hW0 : qW 110 (qx_up M 30 1 (nI 0)) wy := by
      unfold qW
      rw [f0.1 (110 + 1) (by unfold qTX; omega), f0.1 (110 + 2) (by unfold qTX; omega)]
      exact hW
    have h62 := g62 (L := L) (xs := xs) (d := d + 38) (x := 0) (M := qx_up M 30 1 (nI 0)) (st := st) (wy := wy) (by rw [f0.1 104 (by unfold qTX; omega)]; exact hst0) hst4 hp14 hW0
    by_cases hst13 : st = 1 ∨ st = 3
    · have htl : qs_tl st (wy p) = (wy p).length := if_pos hst13
      have hne : st ≠ 0 := by omega
      have hel := way_el hT hne hn14 (p := p)
      have hl14 := (hW p hp14).1
      rw [htl] at h62
      obtain ⟨M1, g1, c1, f1, l1⟩ := a143l (L := L) (xs := xs) (d := d + 37) hp14 hel (wy p).length 0 0 (qx_up M 30 1 (nI 0)) [] (by omega) hW0 c0 (Nat.zero_le _)
      refine qPair_tx hR (nI (finl (wyL (wy p) (wy p).length 0 [])).length) l1 ?_ c1 (qf_trans f0 f1) (fun o => ?_)
      · simp only [s143_0, s143_1, s143_2, s143_5, s143_6, s143_9, s143_12, s143_13, s143_16, s143_19, s143_20, s143_23i, s143_23r, s143_23n, s143_24, s143_25i, s143_25r, s143_25n, qx_m10, qx_m30, qx_T100.1, hZ.1, hneed, h79, h62, List.length_cons, List.length_nil, Nat.zero_le, Nat.reduceAdd, Nat.reduceLeDiff, Option.bind_some, qx_kn_v, qx_kn_n, Nat.add_zero, Bool.false_eq_true, ↓reduceIte]
        exact g1
      · have F := qf_trans f0 f1
        have h226 : ∀ d, Rs L xs (d + 2) 226 0 [some (.ref 400), some (.int (nI p))] [] (M1.1, o) 0 = some (.inl (some (.int (bI true))), qx_up (M1.1, o) 400 0 (nI 0), 0) := fun d => b226c (L := L) (xs := xs) (d := d) (x := 0) (M := (M1.1, o)) (by show M1.1 400 6 = _; rw [F.1 400 (by unfold qTX; omega), b2]) (by show M1.1 401 0 = _; rw [F.1 401 (by unfold qTX; omega)]; exact hm.1) hn14 p1
        have n0 : nTx (qx_up (qx_up (M1.1, o) 400 0 (nI 0)) 400 21 (nI 0)) [] := ⟨by rw [qx_up_eq]; rfl, fun i h => absurd h (Nat.not_lt_zero i)⟩
        have nf0 : nf (qx_up (M1.1, o) 400 0 (nI 0)) (qx_up (qx_up (M1.1, o) 400 0 (nI 0)) 400 21 (nI 0)) := ⟨fun a h1 h2 => qx_up_ne _ _ _ h1, fun k hk => by rw [qx_up_at, if_neg (fun w => hk w.2)], rfl⟩
        have e401 : (qx_up (qx_up (M1.1, o) 400 0 (nI 0)) 400 21 (nI 0)).1 401 = M.1 401 := by
          rw [qx_up_ne _ _ _ (by decide), qx_up_ne _ _ _ (by decide)]
          exact F.1 401 (by unfold qTX; omega)
        have hN0 := hN hne
        obtain ⟨M2, g2, c2, f2⟩ := m316l (L := L) (xs := xs) (d := d + 37) (st := st) (rt := rt) (sp := sp) (bm := bm) (ou := ou) (inn := inn) (qb := qb) (e := e) (as := as) (qa := qa) (bs := bs) (lk := lk) (nr := nr) (fr := fr) (wy := wy) hp14 hel hst4 htl (gT_w hT p) hl14 (wy p).length 0 0 (qx_up (qx_up (M1.1, o) 400 0 (nI 0)) 400 21 (nI 0)) [] (by omega) (by rw [e401]; exact h35) (fun hs => by
          have h := hN hs
          unfold nS nS1 nQ nLb nB nLk nNr nFr nW at h ⊢
          rw [e401]
          exact h) (fun _ j hj => by rw [e401]; exact (hN0.2.2.2.2.2.2.2 p hp14).2.2 j hj) n0 (Nat.zero_le _) (by simp)
        refine ⟨M2, ?_, c2, nf_trans nf0 f2⟩
        simp only [s316_0, s316_1, s316_2, s316_5, s316_8, s316_9, s316_10, s316_11, s316_12, s316_15, s316_16i, s316_16r, s316_16n, k1, h226, qbt, List.length_cons, List.length_nil, Nat.zero_le, Nat.reduceAdd, Nat.reduceLeDiff, Option.bind_some, qx_kn_v, qx_kn_n, Nat.add_zero, Bool.false_eq_true, ↓reduceIte]
        exact g2
    · have htl : qs_tl st (wy p) = 0 := if_neg hst13
      rw [htl] at h62
      obtain ⟨M1, g1, c1, f1⟩ := m84 (L := L) (xs := xs) (d := d + 38) (x := 0) c0 (by decide)
      have hle : (nI 0 ≤ nI 0) = True := by decide
      refine qPair_tx hR (nI (finl []).length) (by decide) ?_ c1 (qf_trans f0 f1) (fun o => ?_)
      · simp only [s143_0, s143_1, s143_2, s143_5, s143_6, s143_9, s143_12, s143_13, s143_16, s143_19, s143_20, s143_23i, s143_23r, s143_23n, s143_24, s143_25i, s143_25r, s143_25n, s143_26, s143_27, s143_28, s143_31, s143_32, s143_35, s143_37, s143_40, s143_41, s143_44, s143_45, s143_48, s143_51, s143_54, s143_55, s143_56, s143_59, s143_62i, s143_62r, s143_62n, s143_65, s143_68, s143_69, s143_72, s143_75, qx_m10, qx_m30, qx_T100.1, hZ.1, hneed, h79, h62, hle, g1, List.length_cons, List.length_nil, Nat.zero_le, Nat.reduceAdd, Nat.reduceLeDiff, Option.bind_some, qx_kn_v, qx_kn_n, Nat.add_zero, Bool.false_eq_true, ↓reduceIte]
      · have F := qf_trans f0 f1
        have h226 : ∀ d, Rs L xs (d + 2) 226 0 [some (.ref 400), some (.int (nI p))] [] (M1.1, o) 0 = some (.inl (some (.int (bI true))), qx_up (M1.1, o) 400 0 (nI 0), 0) := fun d => b226c (L := L) (xs := xs) (d := d) (x := 0) (M := (M1.1, o)) (by show M1.1 400 6 = _; rw [F.1 400 (by unfold qTX; omega), b2]) (by show M1.1 401 0 = _; rw [F.1 401 (by unfold qTX; omega)]; exact hm.1) hn14 p1
        have n0 : nTx (qx_up (qx_up (M1.1, o) 400 0 (nI 0)) 400 21 (nI 0)) [] := ⟨by rw [qx_up_eq]; rfl, fun i h => absurd h (Nat.not_lt_zero i)⟩
        have nf0 : nf (qx_up (M1.1, o) 400 0 (nI 0)) (qx_up (qx_up (M1.1, o) 400 0 (nI 0)) 400 21 (nI 0)) := ⟨fun a h1 h2 => qx_up_ne _ _ _ h1, fun k hk => by rw [qx_up_at, if_neg (fun w => hk w.2)], rfl⟩
        have e401 : (qx_up (qx_up (M1.1, o) 400 0 (nI 0)) 400 21 (nI 0)).1 401 = M.1 401 := by
          rw [qx_up_ne _ _ _ (by decide), qx_up_ne _ _ _ (by decide)]
          exact F.1 401 (by unfold qTX; omega)
        have h266 := g266 (L := L) (xs := xs) (d := d + 38) (x := 0) (M := qx_up (qx_up (M1.1, o) 400 0 (nI 0)) 400 21 (nI 0)) (p := p) (rt := rt) (sp := sp) (bm := bm) (ou := ou) (inn := inn) (qb := qb) (e := e) (as := as) (qa := qa) (bs := bs) (lk := lk) (nr := nr) (fr := fr) (wy := wy) (by rw [e401]; exact h35) hst4 hp14 (fun hs => by
          have h := hN hs
          unfold nS nS1 nQ nLb nB nLk nNr nFr nW at h ⊢
          rw [e401]
          exact h) (gT_w hT p)
        rw [htl] at h266
        obtain ⟨M2, g2, c2, f2⟩ := m311 (L := L) (xs := xs) (d := d + 39) (x := 0) (c := 46) n0 (by decide) (by decide)
        have hl1 : M2.1 400 21 = nI (finl []).length := c2.1
        have h21 : (qx_up (qx_up (M1.1, o) 400 0 (nI 0)) 400 21 (nI 0)).1 400 21 = nI 0 := qx_up_eq _ _ _ _
        refine ⟨M2, ?_, c2, nf_trans nf0 f2⟩
        simp only [s316_0, s316_1, s316_2, s316_5, s316_8, s316_9, s316_10, s316_11, s316_12, s316_15, s316_16i, s316_16r, s316_16n, s316_17, s316_18, s316_19, s316_20, s316_23, s316_26, s316_27, s316_30, s316_31, s316_33, s316_36, s316_37, s316_38, s316_39, s316_40, s316_43, s316_46i, s316_46r, s316_46n, s316_49, s316_52, s316_53, s316_56, s316_59, s316_60, s316_62, s316_65, s316_66, s316_69, k1, h226, qbt, h266, hle, h21, qi_z0, g2, hl1, List.length_cons, List.length_nil, Nat.zero_le, Nat.reduceAdd, Nat.reduceLeDiff, Option.bind_some, qx_kn_v, qx_kn_n, Nat.add_zero, Bool.false_eq_true, ↓reduceIte]
end QL
