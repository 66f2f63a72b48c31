/-! writePairs, writeWay, textByte. -/
def tpS (mt : Nat → Nat) (p : Nat) (T : List Nat) : List Nat := if mt p < 14 ∧ p < mt p then (((sepl T 32) ++ dg p) ++ [45]) ++ dg (mt p) else T
def tpL (mt : Nat → Nat) : Nat → Nat → List Nat → List Nat
  | 0, _, T => T
  | k + 1, i, T => tpL mt k (i + 1) (tpS mt i T)
def tpB (mt : Nat → Nat) (p : Nat) : Bool := decide (mt p < 14 ∧ p < mt p)
theorem tpS_len (mt : Nat → Nat) (p : Nat) (T : List Nat) : (tpS mt p T).length ≤ T.length + 6 * (if tpB mt p = true then 1 else 0) := by
  unfold tpS tpB
  have h1 := sepl_len T 32
  have h2 := dg_len p
  have h3 := dg_len (mt p)
  by_cases z : mt p < 14 ∧ p < mt p
  · rw [if_pos z, if_pos (decide_eq_true z), List.length_append, List.length_append, List.length_append, List.length_singleton]
    omega
  · rw [if_neg z, if_neg (by rw [decide_eq_false z]; decide)]
    omega
theorem tpB_7 {n : Nat} {mt : Nat → Nat} (hn : n ≤ 14) (h : qm_ok n mt) {i : Nat} (hi : i ≤ n) : fb_ct (tpB mt) i ≤ 7 := by
  have h0 := fb_ct_mono (tpB mt) hi
  have h1 := fb_ct_inj (n := n) (f := mt) _ (tpB mt) (fun p => !tpB mt p) (Nat.le_refl _) (fun a ha hA => by
    have hA2 := of_decide_eq_true hA
    obtain ⟨m1, m2, m3, m4⟩ := h a (by omega) hA2.1
    refine ⟨m2, ?_⟩
    unfold tpB
    rw [m4, decide_eq_false (by omega)]
    rfl) (fun a b ha hb hA hB e => by
    have hA2 := of_decide_eq_true hA
    have hB2 := of_decide_eq_true hB
    obtain ⟨_, _, _, m4⟩ := h a (by omega) hA2.1
    obtain ⟨_, _, _, m5⟩ := h b (by omega) hB2.1
    rw [← m4, ← m5, e])
  have h2 := fb_ct_not (tpB mt) n
  omega
theorem qi_m1 {p : Nat} (h : p < 2 ^ 31) : (-1 : Int32) ≤ nI p := Int32.le_trans (show (-1 : Int32) ≤ 0 by decide) (nI_pos' h)
theorem qi_m1n {p : Nat} (h : p < 2 ^ 31) : (-1 : Int32) < nI p := by
  rcases Int32.lt_or_eq_of_le (qi_m1 h) with w | w
  · exact w
  · have := qi_n1 h
    rw [← w] at this
    exact (this ▸ rfl : False).elim
section QL
variable {L : Nat} {xs : Nat → Int32}
theorem a141l {d n : Nat} {mt : Nat → Nat} (hn14 : n ≤ 14) (hok : qm_ok n mt) : ∀ (k i x : Nat) (M : qxM) (T : List Nat) (a2 : Option Value), i + k = n → M.1 101 0 = nI n → qMt 101 M mt → cTx M T → T.length ≤ 6 * fb_ct (tpB mt) i →
    ∃ M', Rs L xs (d + 3) 141 13 [some (.ref 10), some (.int (nI i)), a2] [] M x = some (.inl (some (.int (nI (finl (tpL mt k i T)).length))), M', x) ∧ cTx M' (finl (tpL mt k i T)) ∧ qf qTX M M' ∧ (finl (tpL mt k i T)).length ≤ 64 := by
  have hP : qx_P 101 := qx_T100.2.1
  intro k
  induction k with
  | zero =>
    intro i x M T a2 hi hn hm hT hl
    have h1 : (nI n ≤ nI i) = True := by rw [show i = n by omega]; exact eq_true (Int32.le_refl _)
    have h7 := tpB_7 hn14 hok (show i ≤ n by omega)
    obtain ⟨M1, g1, c1, f1⟩ := m84 (L := L) (xs := xs) (d := d + 1) (x := 0) hT (by omega)
    refine ⟨M1, ?_, c1, f1, finl_len (show (tpL mt 0 i T).length ≤ 63 by show T.length ≤ 63; omega)⟩
    simp only [s141_13, s141_14, s141_15, s141_18, s141_21, s141_24, s141_84, s141_85, s141_88, s141_91, qx_m10, qx_T100.1, hP.1, hn, h1, g1, tpL, List.length_cons, List.length_nil, Nat.zero_le, Nat.reduceAdd, Nat.reduceLeDiff, Option.bind_some, qx_kn_v, qx_kn_n, Nat.add_zero, Bool.false_eq_true, ↓reduceIte]
  | succ k ih =>
    intro i x M T a2 hi hn hm hT hl
    have hi14 : i < 14 := by omega
    have h1 : ¬ nI n ≤ nI i := nI_ge (by omega) (by omega)
    have h7 := tpB_7 hn14 hok (show i ≤ n by omega)
    have h46 := m46 (L := L) (xs := xs) (d := d + 2) (x := 0) (M := M) hP hi14
    rw [show M.1 (101 + 2) i = qz (mt i) from hm i hi14] at h46
    have hi1 : nI i + nI 1 = nI (i + 1) := nI_add _ _
    have hlen := tpS_len mt i T
    have hct := fb_ct_succ (tpB mt) i
    by_cases z : mt i < 14 ∧ i < mt i
    · rw [qz_lt z.1] at h46
      have e : (nI (mt i) ≤ nI i) = False := by rw [qi_le (by omega) (by omega)]; exact eq_false (by omega)
      obtain ⟨M1, g1, c1, f1⟩ := m83 (L := L) (xs := xs) (d := d + 1) (x := 0) (c := 32) hT (by omega) (by decide)
      have l1 := sepl_len T 32
      have d1 := dg_len i
      have d2 := dg_len (mt i)
      obtain ⟨M2, g2, c2, f2⟩ := m81 (L := L) (xs := xs) (d := d + 1) (x := 0) (v := i) c1 hi14 (by omega)
      have l2 : (sepl T 32 ++ dg i).length ≤ T.length + 3 := by rw [List.length_append]; omega
      obtain ⟨M3, g3, c3, f3⟩ := m80 (L := L) (xs := xs) (d := d + 2) (x := 0) (c := 45) c2 (by omega) (by decide)
      have l3 : (sepl T 32 ++ dg i ++ [45]).length ≤ T.length + 4 := by rw [List.length_append, List.length_singleton]; omega
      obtain ⟨M4, g4, c4, f4⟩ := m81 (L := L) (xs := xs) (d := d + 1) (x := 0) (v := mt i) c3 z.1 (by omega)
      have F := qf_trans f1 (qf_trans f2 (qf_trans f3 f4))
      have hs : tpS mt i T = ((sepl T 32 ++ dg i) ++ [45]) ++ dg (mt i) := if_pos z
      rw [← hs] at c4
      obtain ⟨M5, g5, c5, f5, l5⟩ := ih (i + 1) x M4 (tpS mt i T) (some (.int (nI (mt i)))) (by omega) (by rw [F.1 101 (by unfold qTX; omega), hn]) (fun p hp => by rw [F.1 103 (by unfold qTX; omega)]; exact hm p hp) c4 (by omega)
      refine ⟨M5, ?_, c5, qf_trans F f5, l5⟩
      simp only [s141_13, s141_14, s141_15, s141_18, s141_21, s141_24, s141_27, s141_28, s141_31, s141_34, s141_35, s141_38i, s141_38r, s141_38n, s141_39, s141_40, s141_41, s141_44, s141_45, s141_48, s141_50, s141_53, s141_54, s141_57, s141_58, s141_61, s141_62, s141_65, s141_67, s141_70, s141_71, s141_74, s141_75, s141_78i, s141_78r, s141_78n, qx_m10, qx_T100.1, hP.1, hn, h1, h46, e, g1, g2, g3, g4, hi1, List.length_cons, List.length_nil, Nat.zero_le, Nat.reduceAdd, Nat.reduceLeDiff, Option.bind_some, qx_kn_v, qx_kn_n, Nat.add_zero, Bool.false_eq_true, ↓reduceIte]
      rw [s141_81, g5]
      rfl
    · have e : (qz (mt i) ≤ nI i) = True := by
        by_cases w : mt i < 14
        · rw [qz_lt w, qi_le (by omega) (by omega)]
          exact eq_true (by omega)
        · rw [qz_ge w]
          exact eq_true (qi_m1 (by omega))
      have hs : tpS mt i T = T := if_neg z
      rw [hs] at hlen
      obtain ⟨M5, g5, c5, f5, l5⟩ := ih (i + 1) x M T (some (.int (qz (mt i)))) (by omega) hn hm hT (by omega)
      have ht : tpL mt (k + 1) i T = tpL mt k (i + 1) T := by
        show tpL mt k (i + 1) (tpS mt i T) = _
        rw [hs]
      rw [ht]
      refine ⟨M5, ?_, c5, f5, l5⟩
      simp only [s141_13, s141_14, s141_15, s141_18, s141_21, s141_24, s141_27, s141_28, s141_31, s141_34, s141_35, s141_38i, s141_38r, s141_38n, s141_39, s141_40, s141_41, s141_44, s141_45, s141_48, s141_50, s141_53, s141_54, s141_57, s141_58, s141_61, s141_62, s141_65, s141_67, s141_70, s141_71, s141_74, s141_75, s141_78i, s141_78r, s141_78n, qx_m10, qx_T100.1, hP.1, hn, h1, h46, e, hi1, List.length_cons, List.length_nil, Nat.zero_le, Nat.reduceAdd, Nat.reduceLeDiff, Option.bind_some, qx_kn_v, qx_kn_n, Nat.add_zero, Bool.false_eq_true, ↓reduceIte]
      rw [s141_81, g5]
theorem m313e {d : Nat} {T : List Nat} {M : qxM} (hT : nTx M T) (hl : T.length < 64) : ∃ M', nTx M' (finl T) ∧ nf M M' ∧ (T.length = 0 → Rs L xs d 311 0 [some (.ref 400), some (.int (nI 46))] [] M 0 = some (.inl none, M', 0)) ∧ (T.length ≠ 0 → M' = M) := by
  by_cases z : T.length = 0
  · obtain ⟨M2, g2, c2, f2⟩ := m311 (L := L) (xs := xs) (d := d) (x := 0) (c := 46) hT hl (by decide)
    exact ⟨M2, by unfold finl; rw [if_pos z]; exact c2, f2, fun _ => g2, fun h => absurd z h⟩
  · exact ⟨M, by unfold finl; rw [if_neg z]; exact hT, nf_refl M, fun h => absurd h z, fun _ => rfl⟩
theorem m313l {d n : Nat} {mt : Nat → Nat} (hn14 : n ≤ 14) (hok : qm_ok n mt) : ∀ (k i x : Nat) (M : qxM) (T : List Nat), i + k = n → M.1 401 0 = nI n → nMt M mt → nTx M T → T.length ≤ 6 * fb_ct (tpB mt) i →
    ∃ M', Rs L xs (d + 3) 313 16 [some (.ref 400), some (.int (nI i))] [] M x = some (.inl (some (.int (nI (finl (tpL mt k i T)).length))), M', x) ∧ nTx M' (finl (tpL mt k i T)) ∧ nf M M' := by
  obtain ⟨k1, k2, k3⟩ := qx_m400
  intro k
  induction k with
  | zero =>
    intro i x M T hi hn hm hT hl
    have h1 : (nI n ≤ nI i) = True := by rw [show i = n by omega]; exact eq_true (Int32.le_refl _)
    have h7 := tpB_7 hn14 hok (show i ≤ n by omega)
    obtain ⟨M1, c1, f1, g1, g2⟩ := m313e (L := L) (xs := xs) (d := d + 2) hT (by omega)
    refine ⟨M1, ?_, c1, f1⟩
    have hl1 := c1.1
    by_cases z : T.length = 0
    · have h0 : (nI T.length = 0) = True := by rw [z]; decide
      simp only [s313_16, s313_17, s313_18, s313_21, s313_22, s313_23, s313_77, s313_78, s313_81, s313_84, s313_85, s313_87, s313_90, s313_91, s313_94, k1, k2, k3, hn, h1, hT.1, h0, g1 z, hl1, tpL, (qn_c (0) (by omega)).1, (qn_c (0) (by omega)).2, List.length_cons, List.length_nil, Nat.zero_le, Nat.reduceAdd, Nat.reduceLeDiff, Option.bind_some, qx_kn_v, qx_kn_n, Nat.add_zero, Bool.false_eq_true, ↓reduceIte]
    · have h0 : (nI T.length = 0) = False := eq_false (nI_ne0 (by omega) (by omega))
      rw [g2 z] at hl1 ⊢
      simp only [s313_16, s313_17, s313_18, s313_21, s313_22, s313_23, s313_77, s313_78, s313_81, s313_84, s313_85, s313_87, s313_90, s313_91, s313_94, k1, k2, k3, hn, h1, hT.1, h0, tpL, (qn_c (0) (by omega)).1, (qn_c (0) (by omega)).2, List.length_cons, List.length_nil, Nat.zero_le, Nat.reduceAdd, Nat.reduceLeDiff, Option.bind_some, qx_kn_v, qx_kn_n, Nat.add_zero, Bool.false_eq_true, ↓reduceIte]
      rw [show finl T = T from if_neg z]
  | succ k ih =>
    intro i x M T hi hn hm hT hl
    have hi14 : i < 14 := by omega
    have h1 : ¬ nI n ≤ nI i := nI_ge (by omega) (by omega)
    have h7 := tpB_7 hn14 hok (show i ≤ n by omega)
    have h213 := m213 (L := L) (xs := xs) (d := d + 2) (x := 0) (M := M) hi14
    rw [hm i hi14] at h213
    have hi1 : nI i + nI 1 = nI (i + 1) := nI_add _ _
    have hlen := tpS_len mt i T
    have hct := fb_ct_succ (tpB mt) i
    by_cases z : mt i < 14 ∧ i < mt i
    · rw [qz_lt z.1] at h213
      have e : (nI i ≤ nI (mt i)) = True := by rw [qi_le (by omega) (by omega)]; exact eq_true (by omega)
      have l1 := sepl_len T 32
      have d1 := dg_len i
      have d2 := dg_len (mt i)
      have hsep : ∃ M1, nTx M1 (sepl T 32) ∧ nf M M1 ∧ (T.length = 0 → M1 = M) ∧ (T.length ≠ 0 → Rs L xs (d + 2) 311 0 [some (.ref 400), some (.int (nI 32))] [] M 0 = some (.inl none, M1, 0)) := by
        by_cases w : T.length = 0
        · exact ⟨M, by unfold sepl; rw [if_pos w]; exact hT, nf_refl M, fun _ => rfl, fun h => absurd w h⟩
        · obtain ⟨M2, g2, c2, f2⟩ := m311 (L := L) (xs := xs) (d := d + 2) (x := 0) (c := 32) hT (by omega) (by decide)
          exact ⟨M2, by unfold sepl; rw [if_neg w]; exact c2, f2, fun h => absurd h w, fun _ => g2⟩
      obtain ⟨M1, c1, f1, g1a, g1b⟩ := hsep
      obtain ⟨M2, g2, c2, f2⟩ := m312 (L := L) (xs := xs) (d := d + 1) (x := 0) (v := i) c1 hi14 (by omega)
      have l2 : (sepl T 32 ++ dg i).length ≤ T.length + 3 := by rw [List.length_append]; omega
      obtain ⟨M3, g3, c3, f3⟩ := m311 (L := L) (xs := xs) (d := d + 2) (x := 0) (c := 45) c2 (by omega) (by decide)
      have l3 : (sepl T 32 ++ dg i ++ [45]).length ≤ T.length + 4 := by rw [List.length_append, List.length_singleton]; omega
      obtain ⟨M4, g4, c4, f4⟩ := m312 (L := L) (xs := xs) (d := d + 1) (x := 0) (v := mt i) c3 z.1 (by omega)
      have F3 := nf_trans f1 (nf_trans f2 f3)
      have F := nf_trans F3 f4
      have h213b := m213 (L := L) (xs := xs) (d := d + 2) (x := 0) (M := M3) hi14
      rw [F3.1 401 (by decide) (by decide), hm i hi14, qz_lt z.1] at h213b
      have hs : tpS mt i T = ((sepl T 32 ++ dg i) ++ [45]) ++ dg (mt i) := if_pos z
      rw [← hs] at c4
      obtain ⟨M5, g5, c5, f5⟩ := ih (i + 1) x M4 (tpS mt i T) (by omega) (by rw [F.1 401 (by decide) (by decide), hn]) (fun p hp => by rw [F.1 401 (by decide) (by decide)]; exact hm p hp) c4 (by omega)
      refine ⟨M5, ?_, c5, nf_trans F f5⟩
      by_cases w : T.length = 0
      · have h0 : (nI T.length ≤ 0) = True := by rw [w]; decide
        have e1 := g1a w
        subst e1
        simp only [s313_16, s313_17, s313_18, s313_21, s313_22, s313_23, s313_26, s313_27, s313_28, s313_31, s313_32, s313_35, s313_38, s313_39, s313_42, s313_45, s313_46, s313_48, s313_51, s313_52, s313_53, s313_56, s313_57, s313_59, s313_62, s313_63, s313_64, s313_65, s313_68, s313_71i, s313_71r, s313_71n, k1, k2, k3, hn, h1, h213, e, hT.1, h0, g2, g3, h213b, g4, hi1, (qn_c (0) (by omega)).1, (qn_c (0) (by omega)).2, List.length_cons, List.length_nil, Nat.zero_le, Nat.reduceAdd, Nat.reduceLeDiff, Option.bind_some, qx_kn_v, qx_kn_n, Nat.add_zero, Bool.false_eq_true, ↓reduceIte]
        rw [s313_74, g5]
        rfl
      · have h0 : (nI T.length ≤ 0) = False := eq_false (nI_nle (by omega) (by omega))
        simp only [s313_16, s313_17, s313_18, s313_21, s313_22, s313_23, s313_26, s313_27, s313_28, s313_31, s313_32, s313_35, s313_38, s313_39, s313_42, s313_45, s313_46, s313_48, s313_51, s313_52, s313_53, s313_56, s313_57, s313_59, s313_62, s313_63, s313_64, s313_65, s313_68, s313_71i, s313_71r, s313_71n, k1, k2, k3, hn, h1, h213, e, hT.1, h0, g1b w, g2, g3, h213b, g4, hi1, (qn_c (0) (by omega)).1, (qn_c (0) (by omega)).2, List.length_cons, List.length_nil, Nat.zero_le, Nat.reduceAdd, Nat.reduceLeDiff, Option.bind_some, qx_kn_v, qx_kn_n, Nat.add_zero, Bool.false_eq_true, ↓reduceIte]
        rw [s313_74, g5]
        rfl
    · have e : (nI i ≤ qz (mt i)) = False := by
        by_cases w : mt i < 14
        · have := (hok i hi14 w).2.2.1
          rw [qz_lt w, qi_le (by omega) (by omega)]
          exact eq_false (by omega)
        · rw [qz_ge w]
          exact eq_false (fun y => by
            rw [← i_nlt] at y
            exact y (qi_m1n (by omega)))
      have hs : tpS mt i T = T := if_neg z
      rw [hs] at hlen
      obtain ⟨M5, g5, c5, f5⟩ := ih (i + 1) x M T (by omega) hn hm hT (by omega)
      have ht : tpL mt (k + 1) i T = tpL mt k (i + 1) T := by
        show tpL mt k (i + 1) (tpS mt i T) = _
        rw [hs]
      rw [ht]
      refine ⟨M5, ?_, c5, f5⟩
      simp only [s313_16, s313_17, s313_18, s313_21, s313_22, s313_23, s313_26, s313_27, s313_28, s313_31, s313_32, s313_35, s313_38, s313_39, s313_42, s313_45, s313_46, s313_48, s313_51, s313_52, s313_53, s313_56, s313_57, s313_59, s313_62, s313_63, s313_64, s313_65, s313_68, s313_71i, s313_71r, s313_71n, k1, k2, k3, hn, h1, h213, e, hi1, (qn_c (0) (by omega)).1, (qn_c (0) (by omega)).2, List.length_cons, List.length_nil, Nat.zero_le, Nat.reduceAdd, Nat.reduceLeDiff, Option.bind_some, qx_kn_v, qx_kn_n, Nat.add_zero, Bool.false_eq_true, ↓reduceIte]
      rw [s313_74, g5]
end QL
section QL
variable {L : Nat} {xs : Nat → Int32} {d x : Nat}
theorem m79 {M : qxM} : Rs L xs (d) 79 0 [some (.ref (30))] [] (M) x = some (.inl (none), qx_up M 30 1 (nI 0), x) := by
  simp only [s79_0, s79_1, s79_2, s79_5, qx_m30, List.length_cons, List.length_nil, Nat.zero_le, Nat.reduceAdd, Nat.reduceLeDiff, Option.bind_some, qx_kn_v, qx_kn_n, Nat.add_zero, Bool.false_eq_true, ↓reduceIte]
theorem j141 {M : qxM} (hR : qREL M) : qPair L xs (d + 40) 141 [some (.ref 10), none, none] 313 [some (.ref 400), none] ke0 M := by
  obtain ⟨k1, k2, k3⟩ := qx_m400
  rcases qREL_cmp hR with ⟨b1, b2, b3, b4⟩ | ⟨b1, b2, n, r, q, f, mt, s1, s2, s3, s4, st, rt, sp, bm, ou, inn, qb, e, as, qa, bs, lk, nr, fr, wy, hp, hn1, hT, hou, hinn, he14, hst4, hu, ⟨a1, a2, a3, a4⟩, hS, hm, ⟨m1, m2, m3, m4⟩, h35, hN⟩
  · refine qPair_of hR 1 0 (by decide) ?_ ?_
    · rw [if_neg (by decide)]
      simp only [s141_0, s141_1, qx_m10, a159t b1, List.length_cons, List.length_nil, Nat.zero_le, Nat.reduceAdd, Nat.reduceLeDiff, Option.bind_some, qx_kn_v, qx_kn_n, Nat.add_zero, Bool.false_eq_true, ↓reduceIte]
      exact qx_kn_t rfl rfl rfl
    · intro o
      refine ⟨nI 0, ?_, fun h => absurd h (by decide)⟩
      have h1 := fun (d : Nat) => b263a (L := L) (xs := xs) (d := d) (x := 0) (M := (M.1, o)) b2
      simp only [s313_0, s313_1, s313_4, s313_7, s313_8, k1, h1, qbt, qbf, qi_z0, true_or, List.length_cons, List.length_nil, Nat.zero_le, Nat.reduceAdd, Nat.reduceLeDiff, Option.bind_some, qx_kn_v, qx_kn_n, Nat.add_zero, Bool.false_eq_true, ↓reduceIte]
  · have hn14 : n ≤ 14 := hp.1
    have hn0 : M.1 101 0 = nI n := hu.1
    have hneed := fun (d x : Nat) => a159 (L := L) (xs := xs) (d := d) (x := x) b1
    have hmay := fun (o : (Nat → Int64) × (Nat → UInt64)) (d : Nat) => b263c (L := L) (xs := xs) (d := d) (x := 0) (M := (M.1, o)) b2
    have hZ : qx_Z 104 := qx_T100.2.2
    have hP : qx_P 101 := qx_T100.2.1
    have hst0 : M.1 104 0 = nI st := hS.1.1
    have c0 : cTx (qx_up M 30 1 (nI 0)) [] := ⟨by rw [qx_up_eq]; rfl, fun i h => absurd h (Nat.not_lt_zero i)⟩
    have f0 : qf qTX M (qx_up M 30 1 (nI 0)) := qf_up _ _ _ _ (Or.inl rfl)
    obtain ⟨M1, g1, c1, f1, l1⟩ := a141l (L := L) (xs := xs) (d := d + 37) hn14 hp.2.2.2.2.2 n 0 0 (qx_up M 30 1 (nI 0)) [] none (by omega) (by rw [f0.1 101 (by unfold qTX; omega)]; exact hn0) (fun p h => by rw [f0.1 103 (by unfold qTX; omega)]; exact hu.2.2.2.2 p h) c0 (Nat.zero_le _)
    refine qPair_tx hR (nI (finl (tpL mt n 0 [])).length) l1 ?_ c1 (qf_trans f0 f1) (fun o => ?_)
    · have h79 := m79 (L := L) (xs := xs) (d := d + 39) (x := 0) (M := M)
      simp only [s141_0, s141_1, s141_4, s141_5, s141_8, s141_11, s141_12i, s141_12r, s141_12n, qx_m10, hneed, h79, List.length_cons, List.length_nil, Nat.zero_le, Nat.reduceAdd, Nat.reduceLeDiff, Option.bind_some, qx_kn_v, qx_kn_n, Nat.add_zero, Bool.false_eq_true, ↓reduceIte]
      exact g1
    · have F := qf_trans f0 f1
      have h263 : ∀ d, Rs L xs (d + 1) 263 0 [some (.ref 400)] [] (M1.1, o) 0 = some (.inl (some (.int (bI true))), qx_up (M1.1, o) 400 0 (nI 0), 0) := fun d => b263c (L := L) (xs := xs) (d := d) (x := 0) (M := (M1.1, o)) (by show M1.1 400 6 = _; rw [F.1 400 (by unfold qTX; omega), b2])
      have n0 : nTx (qx_up (qx_up (M1.1, o) 400 0 (nI 0)) 400 21 (nI 0)) [] := ⟨by rw [qx_up_eq]; rfl, fun i h => absurd h (Nat.not_lt_zero i)⟩
      have nf0 : nf (qx_up (M1.1, o) 400 0 (nI 0)) (qx_up (qx_up (M1.1, o) 400 0 (nI 0)) 400 21 (nI 0)) := ⟨fun a h1 h2 => qx_up_ne _ _ _ h1, fun k hk => by rw [qx_up_at, if_neg (fun w => hk w.2)], rfl⟩
      have e401 : (qx_up (qx_up (M1.1, o) 400 0 (nI 0)) 400 21 (nI 0)).1 401 = M.1 401 := by
        rw [qx_up_ne _ _ _ (by decide), qx_up_ne _ _ _ (by decide)]
        exact F.1 401 (by unfold qTX; omega)
      obtain ⟨M2, g2, c2, f2⟩ := m313l (L := L) (xs := xs) (d := d + 37) hn14 hp.2.2.2.2.2 n 0 0 _ [] (by omega) (by rw [e401]; exact hm.1) (fun p h => by rw [e401]; exact hm.2.2.2.2 p h) n0 (Nat.zero_le _)
      refine ⟨M2, ?_, c2, nf_trans nf0 f2⟩
      simp only [s313_0, s313_1, s313_4, s313_7, s313_8, s313_9, s313_10, s313_11, s313_14, s313_15i, s313_15r, s313_15n, k1, h263, qbt, List.length_cons, List.length_nil, Nat.zero_le, Nat.reduceAdd, Nat.reduceLeDiff, Option.bind_some, qx_kn_v, qx_kn_n, Nat.add_zero, Bool.false_eq_true, ↓reduceIte]
      exact g2
end QL
