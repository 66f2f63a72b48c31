/-! writeGroups: the calls. -/
section QL
variable {L : Nat} {xs : Nat → Int32}
theorem a142l {d n st ou inn : Nat} {bs : Nat → Nat} {M0 : qxM} (hn14 : n ≤ 14) (hs : st ≠ 0) (hst4 : st < 4) (hou : ou < 16384) (hinn : inn < 16384) (hn : M0.1 101 0 = nI n) (hst : M0.1 104 0 = nI st) (ho : M0.1 104 4 = nI ou) (hi5 : M0.1 104 5 = nI inn) (hb : qB 104 M0 bs) (hb2 : ∀ p, p < 14 → bs p < 14) :
    ∀ (k i x : Nat) (M : qxM) (T : List Nat) (a2 a3 : Option Value), i + k = n → qf qTX M0 M → cTx M T → T.length ≤ i + 3 * fb_ct (dn bs i) 14 →
    ∃ M', Rs L xs (d + 4) 142 13 [some (.ref 10), some (.int (nI i)), a2, a3] [] M x = some (.inl (some (.int (nI (finl (tgL bs (qs_lb ou inn) k i T)).length))), M', x) ∧ cTx M' (finl (tgL bs (qs_lb ou inn) k i T)) ∧ qf qTX M M' ∧ (finl (tgL bs (qs_lb ou inn) k i T)).length ≤ 64 := by
  have hP : qx_P 101 := qx_T100.2.1
  have hZ : qx_Z 104 := qx_T100.2.2
  intro k
  induction k with
  | zero =>
    intro i x M T a2 a3 hi hf hT hl
    have h1 : (nI n ≤ nI i) = True := by rw [show i = n by omega]; exact eq_true (Int32.le_refl _)
    have h7 := fb_ct_le (dn bs i) 14
    have hn' : M.1 101 0 = nI n := by rw [hf.1 101 (by unfold qTX; omega), hn]
    obtain ⟨M1, g1, c1, f1⟩ := m84 (L := L) (xs := xs) (d := d + 2) (x := 0) hT (by omega)
    refine ⟨M1, ?_, c1, f1, finl_len (show (tgL bs (qs_lb ou inn) 0 i T).length ≤ 63 by show T.length ≤ 63; omega)⟩
    simp only [s142_13, s142_14, s142_15, s142_18, s142_21, s142_24, s142_99, s142_100, s142_103, s142_106, qx_m10, qx_m30, qx_T100.1, hP.1, hn', h1, g1, tgL, List.length_cons, List.length_nil, Nat.zero_le, Nat.reduceAdd, Nat.reduceLeDiff, Option.bind_some, qx_kn_v, qx_kn_n, Nat.add_zero, Bool.false_eq_true, ↓reduceIte]
  | succ k ih =>
    intro i x M T a2 a3 hi hf hT hl
    have hi14 : i < 14 := by omega
    have h1 : ¬ nI n ≤ nI i := nI_ge (by omega) (by omega)
    have h7 := fb_ct_le (dn bs i) 14
    have hn' : M.1 101 0 = nI n := by rw [hf.1 101 (by unfold qTX; omega), hn]
    have e104 : M.1 104 = M0.1 104 := hf.1 104 (by unfold qTX; omega)
    have hb' : qB 104 M bs := by
      unfold qB
      rw [hf.1 (104 + 2) (by unfold qTX; omega)]
      exact hb
    have h106 := a106 (L := L) (xs := xs) (d := d) (x := 0) (M := M) hi14 (by rw [e104, hst]) hst4 hb' (fun _ => hb2)
    rw [if_neg hs] at h106
    have h106' : Rs L xs (d + 3) 106 0 [some (.ref 10), some (.int (nI i))] [] M 0 = some (.inl (some (.int (nI (gr bs i)))), M, 0) := h106
    have h57 := m57 (L := L) (xs := xs) (d := d + 2) (x := 0) (M := M) hZ hi14 (by rw [e104, ho]) hou (by rw [e104, hi5]) hinn
    have h57' : Rs L xs (d + 3) 57 0 [some (.ref 104), some (.int (nI i))] [] M 0 = some (.inl (some (.int (nI (qs_lb ou inn i)))), M, 0) := h57
    have h172 := m172 (L := L) (xs := xs) (d := d + 2) (x := 0) (M := M) (gr_lt (bs := bs) (p := i)) hi14
    have hbit : (gr bs i).testBit i = true := gr_bit.mpr ⟨hi14, rfl⟩
    have hsm : decide (gr bs i % 2 ^ i = 0) = rep bs i := by
      unfold rep
      refine decide_eq_decide.mpr ?_
      rw [qb_mod0]
      constructor
      · intro h q hq e
        have := h q hq
        rw [gr_bit.mpr ⟨by omega, e⟩] at this
        cases this
      · intro h q hq
        cases y : (gr bs i).testBit q
        · rfl
        · exact absurd (gr_bit.mp y).2 (h q hq)
    rw [hbit, Bool.true_and, hsm] at h172
    have hi1 : nI i + nI 1 = nI (i + 1) := nI_add _ _
    have hlen := tgS_len (lab := qs_lb ou inn) hi14 hl
    have hlab : qs_lb ou inn i < 3 := by
      unfold qs_lb
      split
      · decide
      · split <;> decide
    have e0 : (nI (qs_lb ou inn i) = 0) = (qs_lb ou inn i = 0) := qi_eq0 (by omega)
    have skip : ¬ (rep bs i = true ∧ qs_lb ou inn i ≠ 0) → (Rs L xs (d + 4) 142 13 [some (.ref 10), some (.int (nI i)), a2, a3] [] M x = Rs L xs (d + 4) 142 96 [some (.ref 10), some (.int (nI (i + 1))), some (.int (nI (gr bs i))), some (.int (nI (qs_lb ou inn i)))] [] M x) →
        ∃ M', Rs L xs (d + 4) 142 13 [some (.ref 10), some (.int (nI i)), a2, a3] [] M x = some (.inl (some (.int (nI (finl (tgL bs (qs_lb ou inn) (k + 1) i T)).length))), M', x) ∧ cTx M' (finl (tgL bs (qs_lb ou inn) (k + 1) i T)) ∧ qf qTX M M' ∧ (finl (tgL bs (qs_lb ou inn) (k + 1) i T)).length ≤ 64 := by
      intro z g
      have hs : tgS bs (qs_lb ou inn) i T = T := if_neg z
      rw [hs] at hlen
      obtain ⟨M5, g5, c5, f5, l5⟩ := ih (i + 1) x M T (some (.int (nI (gr bs i)))) (some (.int (nI (qs_lb ou inn i)))) (by omega) hf hT hlen
      have ht : tgL bs (qs_lb ou inn) (k + 1) i T = tgL bs (qs_lb ou inn) k (i + 1) T := by
        show tgL bs (qs_lb ou inn) k (i + 1) (tgS bs (qs_lb ou inn) i T) = _
        rw [hs]
      rw [ht]
      exact ⟨M5, by rw [g, s142_96, g5], c5, f5, l5⟩
    cases hr : rep bs i
    · rw [hr] at h172
      refine skip (by rw [hr]; exact fun w => absurd w.1 (by decide)) ?_
      simp only [s142_13, s142_14, s142_15, s142_18, s142_21, s142_24, s142_27, s142_28, s142_29, s142_32i, s142_32r, s142_32n, s142_33, s142_34, s142_37, s142_40, s142_41, s142_44i, s142_44r, s142_44n, s142_45, s142_46, s142_47, s142_50, s142_53, s142_54, s142_57, s142_58, s142_61, s142_63, s142_66, s142_67, s142_70, s142_71, s142_74, s142_75, s142_78, s142_79, s142_80, s142_83, s142_85, s142_88, s142_90, s142_93i, s142_93r, s142_93n, qx_m10, qx_T100.1, hP.1, hZ.1, hn', h1, h106', h57', h172, qbf, hi1, List.length_cons, List.length_nil, Nat.zero_le, Nat.reduceAdd, Nat.reduceLeDiff, Option.bind_some, qx_kn_v, qx_kn_n, Nat.add_zero, Bool.false_eq_true, ↓reduceIte]
    · rw [hr] at h172
      by_cases hl0 : qs_lb ou inn i = 0
      · have t : (nI (qs_lb ou inn i) = 0) = True := by rw [e0]; exact eq_true hl0
        refine skip (fun w => w.2 hl0) ?_
        simp only [s142_13, s142_14, s142_15, s142_18, s142_21, s142_24, s142_27, s142_28, s142_29, s142_32i, s142_32r, s142_32n, s142_33, s142_34, s142_37, s142_40, s142_41, s142_44i, s142_44r, s142_44n, s142_45, s142_46, s142_47, s142_50, s142_53, s142_54, s142_57, s142_58, s142_61, s142_63, s142_66, s142_67, s142_70, s142_71, s142_74, s142_75, s142_78, s142_79, s142_80, s142_83, s142_85, s142_88, s142_90, s142_93i, s142_93r, s142_93n, qx_m10, qx_T100.1, hP.1, hZ.1, hn', h1, h106', h57', h172, qbt, t, hi1, List.length_cons, List.length_nil, Nat.zero_le, Nat.reduceAdd, Nat.reduceLeDiff, Option.bind_some, qx_kn_v, qx_kn_n, Nat.add_zero, Bool.false_eq_true, ↓reduceIte]
      · have t : (nI (qs_lb ou inn i) = 0) = False := by rw [e0]; exact eq_false hl0
        have hz : rep bs i = true ∧ qs_lb ou inn i ≠ 0 := ⟨hr, hl0⟩
        have hdn := dn_next hi14 hr
        have hd14 := fb_ct_le (dn bs (i + 1)) 14
        have l1 := sepl_len T 32
        obtain ⟨M1, g1, c1, f1⟩ := m83 (L := L) (xs := xs) (d := d + 2) (x := 0) (c := 32) hT (by omega) (by decide)
        obtain ⟨M2, g2, c2, f2⟩ := a82 (L := L) (xs := xs) (d := d + 1) (x := 0) (s := gr bs i) gr_lt c1 (by omega)
        have hl2 : (stx (gr bs i) 14 (gr bs i) (sepl T 32)).length + 1 ≤ (sepl T 32).length + 3 * qb_pc (gr bs i) := stx_len1 (s := gr bs i) 13 (sepl T 32) gr_lt (grp_0 hi14)
        have e1 : (nI (qs_lb ou inn i) = nI 1) = (qs_lb ou inn i = 1) := qi_eq (by omega) (by decide)
        have hs : tgS bs (qs_lb ou inn) i T = stx (gr bs i) 14 (gr bs i) (sepl T 32) ++ [if qs_lb ou inn i = 1 then 111 else 105] := if_pos hz
        have fin : ∀ M3, cTx M3 (tgS bs (qs_lb ou inn) i T) → qf qTX M M3 → (Rs L xs (d + 4) 142 13 [some (.ref 10), some (.int (nI i)), a2, a3] [] M x = Rs L xs (d + 4) 142 96 [some (.ref 10), some (.int (nI (i + 1))), some (.int (nI (gr bs i))), some (.int (nI (qs_lb ou inn i)))] [] M3 x) →
            ∃ M', Rs L xs (d + 4) 142 13 [some (.ref 10), some (.int (nI i)), a2, a3] [] M x = some (.inl (some (.int (nI (finl (tgL bs (qs_lb ou inn) (k + 1) i T)).length))), M', x) ∧ cTx M' (finl (tgL bs (qs_lb ou inn) (k + 1) i T)) ∧ qf qTX M M' ∧ (finl (tgL bs (qs_lb ou inn) (k + 1) i T)).length ≤ 64 := by
          intro M3 c3 F g
          obtain ⟨M5, g5, c5, f5, l5⟩ := ih (i + 1) x M3 (tgS bs (qs_lb ou inn) i T) (some (.int (nI (gr bs i)))) (some (.int (nI (qs_lb ou inn i)))) (by omega) (qf_trans hf F) c3 hlen
          exact ⟨M5, by rw [g, s142_96, g5]; rfl, c5, qf_trans F f5, l5⟩
        by_cases hi1' : qs_lb ou inn i = 1
        · have t1 : (nI (qs_lb ou inn i) = nI 1) = True := by rw [e1]; exact eq_true hi1'
          rw [if_pos hi1'] at hs
          obtain ⟨M3, g3, c3, f3⟩ := m80 (L := L) (xs := xs) (d := d + 3) (x := 0) (c := 111) c2 (by omega) (by decide)
          rw [← hs] at c3
          refine fin M3 c3 (qf_trans f1 (qf_trans f2 f3)) ?_
          simp only [s142_13, s142_14, s142_15, s142_18, s142_21, s142_24, s142_27, s142_28, s142_29, s142_32i, s142_32r, s142_32n, s142_33, s142_34, s142_37, s142_40, s142_41, s142_44i, s142_44r, s142_44n, s142_45, s142_46, s142_47, s142_50, s142_53, s142_54, s142_57, s142_58, s142_61, s142_63, s142_66, s142_67, s142_70, s142_71, s142_74, s142_75, s142_78, s142_79, s142_80, s142_83, s142_85, s142_88, s142_90, s142_93i, s142_93r, s142_93n, qx_m10, qx_m30, qx_T100.1, hP.1, hZ.1, hn', h1, h106', h57', h172, qbt, t, g1, g2, t1, g3, hi1, List.length_cons, List.length_nil, Nat.zero_le, Nat.reduceAdd, Nat.reduceLeDiff, Option.bind_some, qx_kn_v, qx_kn_n, Nat.add_zero, Bool.false_eq_true, ↓reduceIte]
        · have t1 : (nI (qs_lb ou inn i) = nI 1) = False := by rw [e1]; exact eq_false hi1'
          rw [if_neg hi1'] at hs
          obtain ⟨M3, g3, c3, f3⟩ := m80 (L := L) (xs := xs) (d := d + 3) (x := 0) (c := 105) c2 (by omega) (by decide)
          rw [← hs] at c3
          refine fin M3 c3 (qf_trans f1 (qf_trans f2 f3)) ?_
          simp only [s142_13, s142_14, s142_15, s142_18, s142_21, s142_24, s142_27, s142_28, s142_29, s142_32i, s142_32r, s142_32n, s142_33, s142_34, s142_37, s142_40, s142_41, s142_44i, s142_44r, s142_44n, s142_45, s142_46, s142_47, s142_50, s142_53, s142_54, s142_57, s142_58, s142_61, s142_63, s142_66, s142_67, s142_70, s142_71, s142_74, s142_75, s142_78, s142_79, s142_80, s142_83, s142_85, s142_88, s142_90, s142_93i, s142_93r, s142_93n, qx_m10, qx_m30, qx_T100.1, hP.1, hZ.1, hn', h1, h106', h57', h172, qbt, t, g1, g2, t1, g3, hi1, List.length_cons, List.length_nil, Nat.zero_le, Nat.reduceAdd, Nat.reduceLeDiff, Option.bind_some, qx_kn_v, qx_kn_n, Nat.add_zero, Bool.false_eq_true, ↓reduceIte]
theorem a142z {d n st ou inn : Nat} {bs : Nat → Nat} {M : qxM} (hn14 : n ≤ 14) (hs : st = 0) (hou : ou < 16384) (hinn : inn < 16384) (hn : M.1 101 0 = nI n) (hst : M.1 104 0 = nI st) (ho : M.1 104 4 = nI ou) (hi5 : M.1 104 5 = nI inn) (hb : qB 104 M bs) (hT : cTx M []) :
    ∀ (k i x : Nat) (a2 a3 : Option Value), i + k = n →
    ∃ M', Rs L xs (d + 4) 142 13 [some (.ref 10), some (.int (nI i)), a2, a3] [] M x = some (.inl (some (.int (nI (finl []).length))), M', x) ∧ cTx M' (finl []) ∧ qf qTX M M' := by
  have hP : qx_P 101 := qx_T100.2.1
  have hZ : qx_Z 104 := qx_T100.2.2
  intro k
  induction k with
  | zero =>
    intro i x a2 a3 hi
    have h1 : (nI n ≤ nI i) = True := by rw [show i = n by omega]; exact eq_true (Int32.le_refl _)
    obtain ⟨M1, g1, c1, f1⟩ := m84 (L := L) (xs := xs) (d := d + 2) (x := 0) hT (by decide)
    refine ⟨M1, ?_, c1, f1⟩
    simp only [s142_13, s142_14, s142_15, s142_18, s142_21, s142_24, s142_99, s142_100, s142_103, s142_106, qx_m10, qx_m30, qx_T100.1, hP.1, hn, h1, g1, List.length_cons, List.length_nil, Nat.zero_le, Nat.reduceAdd, Nat.reduceLeDiff, Option.bind_some, qx_kn_v, qx_kn_n, Nat.add_zero, Bool.false_eq_true, ↓reduceIte]
  | succ k ih =>
    intro i x a2 a3 hi
    have hi14 : i < 14 := by omega
    have h1 : ¬ nI n ≤ nI i := nI_ge (by omega) (by omega)
    have h106 := a106 (L := L) (xs := xs) (d := d) (x := 0) (M := M) hi14 hst (by omega) hb (fun h => absurd hs h)
    rw [if_pos hs] at h106
    have h57 := m57 (L := L) (xs := xs) (d := d + 2) (x := 0) (M := M) hZ hi14 ho hou hi5 hinn
    have h172 := m172 (L := L) (xs := xs) (d := d + 2) (x := 0) (M := M) (s := 0) (by decide) hi14
    rw [Nat.zero_testBit, Bool.false_and] at h172
    have hi1 : nI i + nI 1 = nI (i + 1) := nI_add _ _
    obtain ⟨M5, g5, c5, f5⟩ := ih (i + 1) x (some (.int (nI 0))) (some (.int (nI (if ou.testBit i then 1 else if inn.testBit i then 2 else 0)))) (by omega)
    refine ⟨M5, ?_, c5, f5⟩
    simp only [s142_13, s142_14, s142_15, s142_18, s142_21, s142_24, s142_27, s142_28, s142_29, s142_32i, s142_32r, s142_32n, s142_33, s142_34, s142_37, s142_40, s142_41, s142_44i, s142_44r, s142_44n, s142_45, s142_46, s142_47, s142_50, s142_53, s142_54, s142_57, s142_58, s142_61, s142_63, s142_66, s142_67, s142_70, s142_71, s142_74, s142_75, s142_78, s142_79, s142_80, s142_83, s142_85, s142_88, s142_90, s142_93i, s142_93r, s142_93n, qx_m10, qx_T100.1, hP.1, hZ.1, hn, h1, h106, h57, h172, qbf, hi1, List.length_cons, List.length_nil, Nat.zero_le, Nat.reduceAdd, Nat.reduceLeDiff, Option.bind_some, qx_kn_v, qx_kn_n, Nat.add_zero, Bool.false_eq_true, ↓reduceIte]
    rw [s142_96, g5]
theorem m315l {d n st ou inn : Nat} {bs : Nat → Nat} {M0 : qxM} (hn14 : n ≤ 14) (hs : st ≠ 0) (hst4 : st < 4) (hn : M0.1 401 0 = nI n) (h35 : M0.1 401 35 = nI st) (hb : nB M0 bs) (hlb : nLb M0 ou inn) (hb1 : ∀ p, p < n → bs p < n) (hb2 : ∀ j, n ≤ j → bs j = j) :
    ∀ (k i x : Nat) (M : qxM) (T : List Nat) (a2 : Option Value), i + k = n → nf M0 M → nTx M T → T.length ≤ i + 3 * fb_ct (dn bs i) 14 →
    ∃ M', Rs L xs (d + 4) 315 16 [some (.ref 400), some (.int (nI i)), a2] [] M x = some (.inl (some (.int (nI (finl (tgL bs (qs_lb ou inn) k i T)).length))), M', x) ∧ nTx M' (finl (tgL bs (qs_lb ou inn) k i T)) ∧ nf M M' := by
  obtain ⟨k1, k2, k3⟩ := qx_m400
  intro k
  induction k with
  | zero =>
    intro i x M T a2 hi hf hT hl
    have h1 : (nI n ≤ nI i) = True := by rw [show i = n by omega]; exact eq_true (Int32.le_refl _)
    have h7 := fb_ct_le (dn bs i) 14
    have hn' : M.1 401 0 = nI n := by rw [hf.1 401 (by decide) (by decide), hn]
    obtain ⟨M1, c1, f1, g1, g2⟩ := m313e (L := L) (xs := xs) (d := d + 3) hT (by omega)
    refine ⟨M1, ?_, c1, f1⟩
    have hl1 := c1.1
    by_cases z : T.length = 0
    · have h0 : (nI T.length = 0) = True := by rw [z]; decide
      simp only [s315_16, s315_17, s315_18, s315_21, s315_22, s315_23, s315_87, s315_88, s315_91, s315_94, s315_95, s315_97, s315_100, s315_101, s315_104, k1, k2, k3, hn', h1, hT.1, h0, g1 z, hl1, tgL, (qn_c (0) (by omega)).1, (qn_c (0) (by omega)).2, List.length_cons, List.length_nil, Nat.zero_le, Nat.reduceAdd, Nat.reduceLeDiff, Option.bind_some, qx_kn_v, qx_kn_n, Nat.add_zero, Bool.false_eq_true, ↓reduceIte]
    · have h0 : (nI T.length = 0) = False := eq_false (nI_ne0 (by omega) (by omega))
      rw [g2 z] at hl1 ⊢
      simp only [s315_16, s315_17, s315_18, s315_21, s315_22, s315_23, s315_87, s315_88, s315_91, s315_94, s315_95, s315_97, s315_100, s315_101, s315_104, k1, k2, k3, hn', h1, hT.1, h0, tgL, (qn_c (0) (by omega)).1, (qn_c (0) (by omega)).2, List.length_cons, List.length_nil, Nat.zero_le, Nat.reduceAdd, Nat.reduceLeDiff, Option.bind_some, qx_kn_v, qx_kn_n, Nat.add_zero, Bool.false_eq_true, ↓reduceIte]
      rw [show finl T = T from if_neg z]
  | succ k ih =>
    intro i x M T a2 hi hf hT hl
    have hi14 : i < 14 := by omega
    have hin : i < n := by omega
    have h1 : ¬ nI n ≤ nI i := nI_ge hin (by omega)
    have h7 := fb_ct_le (dn bs i) 14
    have e401 : M.1 401 = M0.1 401 := hf.1 401 (by decide) (by decide)
    have hn' : M.1 401 0 = nI n := by rw [e401, hn]
    have h255 := g255 (L := L) (xs := xs) (d := d + 3) (x := 0) (M := M) (by rw [e401]; exact h35) hst4
    rw [qD_t hs] at h255
    have hbi : M.1 401 (69 + i) = nI (bs i) := by rw [e401]; exact hb i hi14
    have hli : M.1 401 (55 + i) = nI (qs_lb ou inn i) := by rw [e401]; exact hlb i hi14
    have h253 := g253 (L := L) (xs := xs) (d := d + 2) (x := 0) (M := M) hn14 hn' (by unfold nB; rw [e401]; exact hb) hb1 (hb1 i hin)
    rw [← qb_of_n hn14 (hb1 i hin) hb2] at h253
    have h253' : Rs L xs (d + 3) 253 0 [some (.ref 400), some (.int (nI (bs i))), none, none] [] M 0 = some (.inl (some (.int (nI (gr bs i)))), M, 0) := h253
    have h210 := m210 (L := L) (xs := xs) (d := d + 2) (x := 0) (M := M) (gr_lt (bs := bs) (p := i)) (Nat.pos_of_ne_zero (grp_0 hi14))
    have hlo14 := (qb_lw_ok (gr_lt (bs := bs) (p := i)) (Nat.pos_of_ne_zero (grp_0 hi14))).1
    have e2 : (nI (qb_lo (gr bs i)) = nI i) = (rep bs i = true) := by rw [qi_eq (by omega) (by omega), gr_lo hi14]
    have hi1 : nI i + nI 1 = nI (i + 1) := nI_add _ _
    have hlen := tgS_len (lab := qs_lb ou inn) hi14 hl
    have hlab : qs_lb ou inn i < 3 := by
      unfold qs_lb
      split
      · decide
      · split <;> decide
    have e0 : (nI (qs_lb ou inn i) = 0) = (qs_lb ou inn i = 0) := qi_eq0 (by omega)
    have skip : ¬ (rep bs i = true ∧ qs_lb ou inn i ≠ 0) → (Rs L xs (d + 4) 315 16 [some (.ref 400), some (.int (nI i)), a2] [] M x = Rs L xs (d + 4) 315 84 [some (.ref 400), some (.int (nI (i + 1))), some (.int (nI (gr bs i)))] [] M x) →
        ∃ M', Rs L xs (d + 4) 315 16 [some (.ref 400), some (.int (nI i)), a2] [] M x = some (.inl (some (.int (nI (finl (tgL bs (qs_lb ou inn) (k + 1) i T)).length))), M', x) ∧ nTx M' (finl (tgL bs (qs_lb ou inn) (k + 1) i T)) ∧ nf M M' := by
      intro z g
      have hs : tgS bs (qs_lb ou inn) i T = T := if_neg z
      rw [hs] at hlen
      obtain ⟨M5, g5, c5, f5⟩ := ih (i + 1) x M T (some (.int (nI (gr bs i)))) (by omega) hf hT hlen
      have ht : tgL bs (qs_lb ou inn) (k + 1) i T = tgL bs (qs_lb ou inn) k (i + 1) T := by
        show tgL bs (qs_lb ou inn) k (i + 1) (tgS bs (qs_lb ou inn) i T) = _
        rw [hs]
      rw [ht]
      exact ⟨M5, by rw [g, s315_84, g5], c5, f5⟩
    cases hr : rep bs i
    · have t2 : (nI (qb_lo (gr bs i)) = nI i) = False := by rw [e2, hr]; exact eq_false (by decide)
      refine skip (by rw [hr]; exact fun w => absurd w.1 (by decide)) ?_
      simp only [s315_16, s315_17, s315_18, s315_21, s315_22, s315_23, s315_26, s315_27, s315_30, s315_33, s315_34, s315_35, s315_38, s315_40, s315_41, s315_42, s315_43, s315_46i, s315_46r, s315_46n, s315_47, s315_48, s315_51, s315_52, s315_55, s315_56, s315_59, s315_61, s315_62, s315_63, s315_64, s315_67, s315_68, s315_69, s315_70, s315_73, s315_75, s315_76, s315_77, s315_78, s315_81i, s315_81r, s315_81n, k1, k2, k3, hn', h1, h255, qbt, hbi, h253', h210, t2, nI_add, (qn_c (0) (by omega)).1, (qn_c (0) (by omega)).2, (qn_c (69 + i) (by omega)).1, (qn_c (69 + i) (by omega)).2, List.length_cons, List.length_nil, Nat.zero_le, Nat.reduceAdd, Nat.reduceLeDiff, Option.bind_some, qx_kn_v, qx_kn_n, Nat.add_zero, Bool.false_eq_true, ↓reduceIte]
    · have t2 : (nI (qb_lo (gr bs i)) = nI i) = True := by rw [e2, hr]; exact eq_true rfl
      by_cases hl0 : qs_lb ou inn i = 0
      · have t : (nI (qs_lb ou inn i) = 0) = True := by rw [e0]; exact eq_true hl0
        refine skip (fun w => w.2 hl0) ?_
        simp only [s315_16, s315_17, s315_18, s315_21, s315_22, s315_23, s315_26, s315_27, s315_30, s315_33, s315_34, s315_35, s315_38, s315_40, s315_41, s315_42, s315_43, s315_46i, s315_46r, s315_46n, s315_47, s315_48, s315_51, s315_52, s315_55, s315_56, s315_59, s315_61, s315_62, s315_63, s315_64, s315_67, s315_68, s315_69, s315_70, s315_73, s315_75, s315_76, s315_77, s315_78, s315_81i, s315_81r, s315_81n, k1, k2, k3, hn', h1, h255, qbt, hbi, hli, h253', h210, t2, t, nI_add, (qn_c (0) (by omega)).1, (qn_c (0) (by omega)).2, (qn_c (69 + i) (by omega)).1, (qn_c (69 + i) (by omega)).2, (qn_c (55 + i) (by omega)).1, (qn_c (55 + i) (by omega)).2, List.length_cons, List.length_nil, Nat.zero_le, Nat.reduceAdd, Nat.reduceLeDiff, Option.bind_some, qx_kn_v, qx_kn_n, Nat.add_zero, Bool.false_eq_true, ↓reduceIte]
      · have t : (nI (qs_lb ou inn i) = 0) = False := by rw [e0]; exact eq_false hl0
        have hz : rep bs i = true ∧ qs_lb ou inn i ≠ 0 := ⟨hr, hl0⟩
        have hdn := dn_next hi14 hr
        have hd14 := fb_ct_le (dn bs (i + 1)) 14
        obtain ⟨M3, g3, c3, f3⟩ := m314 (L := L) (xs := xs) (d := d + 1) (x := 0) (s := gr bs i) gr_lt (grp_0 hi14) hlab hT (by omega)
        have hs : tgS bs (qs_lb ou inn) i T = stx (gr bs i) 14 (gr bs i) (sepl T 32) ++ [if qs_lb ou inn i = 1 then 111 else 105] := if_pos hz
        rw [← hs] at c3
        obtain ⟨M5, g5, c5, f5⟩ := ih (i + 1) x M3 (tgS bs (qs_lb ou inn) i T) (some (.int (nI (gr bs i)))) (by omega) (nf_trans hf f3) c3 hlen
        refine ⟨M5, ?_, c5, nf_trans f3 f5⟩
        simp only [s315_16, s315_17, s315_18, s315_21, s315_22, s315_23, s315_26, s315_27, s315_30, s315_33, s315_34, s315_35, s315_38, s315_40, s315_41, s315_42, s315_43, s315_46i, s315_46r, s315_46n, s315_47, s315_48, s315_51, s315_52, s315_55, s315_56, s315_59, s315_61, s315_62, s315_63, s315_64, s315_67, s315_68, s315_69, s315_70, s315_73, s315_75, s315_76, s315_77, s315_78, s315_81i, s315_81r, s315_81n, k1, k2, k3, hn', h1, h255, qbt, hbi, hli, h253', h210, t2, t, g3, nI_add, (qn_c (0) (by omega)).1, (qn_c (0) (by omega)).2, (qn_c (69 + i) (by omega)).1, (qn_c (69 + i) (by omega)).2, (qn_c (55 + i) (by omega)).1, (qn_c (55 + i) (by omega)).2, List.length_cons, List.length_nil, Nat.zero_le, Nat.reduceAdd, Nat.reduceLeDiff, Option.bind_some, qx_kn_v, qx_kn_n, Nat.add_zero, Bool.false_eq_true, ↓reduceIte]
        rw [s315_84, g5]
        rfl
end QL
section QL
variable {L : Nat} {xs : Nat → Int32} {d x : Nat}
theorem j142 {M : qxM} (hR : qREL M) : qPair L xs (d + 40) 142 [some (.ref 10), none, none, none] 315 [some (.ref 400), none, none] ke0 M := by
  obtain ⟨k1, k2, k3⟩ := qx_m400
  rcases qREL_cmp hR with ⟨b1, b2, b3, b4⟩ | ⟨b1, b2, n, r, q, f, mt, s1, s2, s3, s4, st, rt, sp, bm, ou, inn, qb, e, as, qa, bs, lk, nr, fr, wy, hp, hn1, hT, hou, hinn, he14, hst4, hu, ⟨a1, a2, a3, a4⟩, hS, hm, ⟨m1, m2, m3, m4⟩, h35, hN⟩
  · refine qPair_of hR 1 0 (by decide) ?_ ?_
    · rw [if_neg (by decide)]
      simp only [s142_0, s142_1, qx_m10, a159t b1, List.length_cons, List.length_nil, Nat.zero_le, Nat.reduceAdd, Nat.reduceLeDiff, Option.bind_some, qx_kn_v, qx_kn_n, Nat.add_zero, Bool.false_eq_true, ↓reduceIte]
      exact qx_kn_t rfl rfl rfl
    · intro o
      refine ⟨nI 0, ?_, fun h => absurd h (by decide)⟩
      have h1 := fun (d : Nat) => b263a (L := L) (xs := xs) (d := d) (x := 0) (M := (M.1, o)) b2
      simp only [s315_0, s315_1, s315_4, s315_7, s315_8, k1, h1, qbt, qbf, qi_z0, true_or, List.length_cons, List.length_nil, Nat.zero_le, Nat.reduceAdd, Nat.reduceLeDiff, Option.bind_some, qx_kn_v, qx_kn_n, Nat.add_zero, Bool.false_eq_true, ↓reduceIte]
  · have hn14 : n ≤ 14 := hp.1
    have hn0 : M.1 101 0 = nI n := hu.1
    have hneed := fun (d x : Nat) => a159 (L := L) (xs := xs) (d := d) (x := x) b1
    have hmay := fun (o : (Nat → Int64) × (Nat → UInt64)) (d : Nat) => b263c (L := L) (xs := xs) (d := d) (x := 0) (M := (M.1, o)) b2
    have hZ : qx_Z 104 := qx_T100.2.2
    have hP : qx_P 101 := qx_T100.2.1
    have hst0 : M.1 104 0 = nI st := hS.1.1
    have c0 : cTx (qx_up M 30 1 (nI 0)) [] := ⟨by rw [qx_up_eq]; rfl, fun i h => absurd h (Nat.not_lt_zero i)⟩
    have f0 : qf qTX M (qx_up M 30 1 (nI 0)) := qf_up _ _ _ _ (Or.inl rfl)
    have h79 := m79 (L := L) (xs := xs) (d := d + 39) (x := 0) (M := M)
    have e101 : (qx_up M 30 1 (nI 0)).1 101 = M.1 101 := f0.1 101 (by unfold qTX; omega)
    have e104 : (qx_up M 30 1 (nI 0)).1 104 = M.1 104 := f0.1 104 (by unfold qTX; omega)
    have hb0 : qB 104 (qx_up M 30 1 (nI 0)) bs := by
      unfold qB
      rw [f0.1 (104 + 2) (by unfold qTX; omega)]
      exact hS.2.2.1
    have hno : ∀ (M1 : qxM) (o : (Nat → Int64) × (Nat → UInt64)), nTx (qx_up (qx_up (M1.1, o) 400 0 (nI 0)) 400 21 (nI 0)) [] ∧ nf (qx_up (M1.1, o) 400 0 (nI 0)) (qx_up (qx_up (M1.1, o) 400 0 (nI 0)) 400 21 (nI 0)) := fun M1 o => ⟨⟨by rw [qx_up_eq]; rfl, fun i h => absurd h (Nat.not_lt_zero i)⟩, ⟨fun a h1 h2 => qx_up_ne _ _ _ h1, fun k hk => by rw [qx_up_at, if_neg (fun w => hk w.2)], rfl⟩⟩
    by_cases hs : st = 0
    · obtain ⟨M1, g1, c1, f1⟩ := a142z (L := L) (xs := xs) (d := d + 36) (bs := bs) hn14 hs hou hinn (by rw [e101]; exact hn0) (by rw [e104]; exact hst0) (by rw [e104]; exact hS.1.2.2.2.2.1) (by rw [e104]; exact hS.1.2.2.2.2.2.1) hb0 c0 n 0 0 none none (by omega)
      refine qPair_tx hR (nI (finl []).length) (by decide) ?_ c1 (qf_trans f0 f1) (fun o => ?_)
      · simp only [s142_0, s142_1, s142_4, s142_5, s142_8, s142_11, s142_12i, s142_12r, s142_12n, qx_m10, hneed, h79, List.length_cons, List.length_nil, Nat.zero_le, Nat.reduceAdd, Nat.reduceLeDiff, Option.bind_some, qx_kn_v, qx_kn_n, Nat.add_zero, Bool.false_eq_true, ↓reduceIte]
        exact g1
      · have F := qf_trans f0 f1
        have h263 : ∀ d, Rs L xs (d + 1) 263 0 [some (.ref 400)] [] (M1.1, o) 0 = some (.inl (some (.int (bI true))), qx_up (M1.1, o) 400 0 (nI 0), 0) := fun d => b263c (L := L) (xs := xs) (d := d) (x := 0) (M := (M1.1, o)) (by show M1.1 400 6 = _; rw [F.1 400 (by unfold qTX; omega), b2])
        obtain ⟨n0, nf0⟩ := hno M1 o
        have e401 : (qx_up (qx_up (M1.1, o) 400 0 (nI 0)) 400 21 (nI 0)).1 401 = M.1 401 := by
          rw [qx_up_ne _ _ _ (by decide), qx_up_ne _ _ _ (by decide)]
          exact F.1 401 (by unfold qTX; omega)
        have hn3 : (qx_up (qx_up (M1.1, o) 400 0 (nI 0)) 400 21 (nI 0)).1 401 0 = nI n := by rw [e401]; exact hm.1
        have h255 := g255 (L := L) (xs := xs) (d := d + 39) (x := 0) (M := qx_up (qx_up (M1.1, o) 400 0 (nI 0)) 400 21 (nI 0)) (by rw [e401]; exact h35) hst4
        rw [qD_f hs] at h255
        obtain ⟨M2, g2, c2, f2⟩ := m311 (L := L) (xs := xs) (d := d + 39) (x := 0) (c := 46) n0 (by decide) (by decide)
        have hl1 : M2.1 400 21 = nI (finl []).length := c2.1
        have h21 : (qx_up (qx_up (M1.1, o) 400 0 (nI 0)) 400 21 (nI 0)).1 400 21 = nI 0 := qx_up_eq _ _ _ _
        have hle : ¬ nI n ≤ nI 0 := nI_ge (by omega) (by omega)
        refine ⟨M2, ?_, c2, nf_trans nf0 f2⟩
        simp only [s315_0, s315_1, s315_4, s315_7, s315_8, s315_9, s315_10, s315_11, s315_14, s315_15i, s315_15r, s315_15n, s315_16, s315_17, s315_18, s315_21, s315_22, s315_23, s315_26, s315_27, s315_30, s315_33, s315_34, s315_35, s315_38, s315_40, s315_41, s315_42, s315_43, s315_46i, s315_46r, s315_46n, s315_47, s315_48, s315_51, s315_52, s315_55, s315_56, s315_59, s315_61, s315_62, s315_63, s315_64, s315_67, s315_68, s315_69, s315_70, s315_73, s315_75, s315_76, s315_77, s315_78, s315_81i, s315_81r, s315_81n, s315_84, s315_87, s315_88, s315_91, s315_94, s315_95, s315_97, s315_100, s315_101, s315_104, k1, k2, k3, h263, qbt, hn3, hle, h255, qbf, h21, qi_z0, g2, hl1, (qn_c (0) (by omega)).1, (qn_c (0) (by omega)).2, List.length_cons, List.length_nil, Nat.zero_le, Nat.reduceAdd, Nat.reduceLeDiff, Option.bind_some, qx_kn_v, qx_kn_n, Nat.add_zero, Bool.false_eq_true, ↓reduceIte]
    · obtain ⟨mt0, tm, hG, _⟩ := gT_g hT hs
      obtain ⟨q1, q2, q3, q4⟩ := qg_bsn hG
      obtain ⟨hN1, hN2, hN3, hN4, hN5, hN6, hN7, hN8⟩ := hN hs
      obtain ⟨M1, g1, c1, f1, l1⟩ := a142l (L := L) (xs := xs) (d := d + 36) (bs := bs) (M0 := qx_up M 30 1 (nI 0)) hn14 hs hst4 hou hinn (by rw [e101]; exact hn0) (by rw [e104]; exact hst0) (by rw [e104]; exact hS.1.2.2.2.2.1) (by rw [e104]; exact hS.1.2.2.2.2.2.1) hb0 (fun p h => qg_bs hG h) n 0 0 (qx_up M 30 1 (nI 0)) [] none none (by omega) (qf_refl _ _) c0 (Nat.zero_le _)
      refine qPair_tx hR (nI (finl (tgL bs (qs_lb ou inn) n 0 [])).length) l1 ?_ c1 (qf_trans f0 f1) (fun o => ?_)
      · simp only [s142_0, s142_1, s142_4, s142_5, s142_8, s142_11, s142_12i, s142_12r, s142_12n, qx_m10, hneed, h79, List.length_cons, List.length_nil, Nat.zero_le, Nat.reduceAdd, Nat.reduceLeDiff, Option.bind_some, qx_kn_v, qx_kn_n, Nat.add_zero, Bool.false_eq_true, ↓reduceIte]
        exact g1
      · have F := qf_trans f0 f1
        have h263 : ∀ d, Rs L xs (d + 1) 263 0 [some (.ref 400)] [] (M1.1, o) 0 = some (.inl (some (.int (bI true))), qx_up (M1.1, o) 400 0 (nI 0), 0) := fun d => b263c (L := L) (xs := xs) (d := d) (x := 0) (M := (M1.1, o)) (by show M1.1 400 6 = _; rw [F.1 400 (by unfold qTX; omega), b2])
        obtain ⟨n0, nf0⟩ := hno M1 o
        have e401 : (qx_up (qx_up (M1.1, o) 400 0 (nI 0)) 400 21 (nI 0)).1 401 = M.1 401 := by
          rw [qx_up_ne _ _ _ (by decide), qx_up_ne _ _ _ (by decide)]
          exact F.1 401 (by unfold qTX; omega)
        obtain ⟨M2, g2, c2, f2⟩ := m315l (L := L) (xs := xs) (d := d + 36) (bs := bs) (ou := ou) (inn := inn) (M0 := qx_up (qx_up (M1.1, o) 400 0 (nI 0)) 400 21 (nI 0)) hn14 hs hst4 (by rw [e401]; exact hm.1) (by rw [e401]; exact h35) (by unfold nB; rw [e401]; exact hN4) (by unfold nLb; rw [e401]; exact hN3) q1 q2 n 0 0 _ [] none (by omega) (nf_refl _) n0 (Nat.zero_le _)
        refine ⟨M2, ?_, c2, nf_trans nf0 f2⟩
        simp only [s315_0, s315_1, s315_4, s315_7, s315_8, s315_9, s315_10, s315_11, s315_14, s315_15i, s315_15r, s315_15n, k1, h263, qbt, List.length_cons, List.length_nil, Nat.zero_le, Nat.reduceAdd, Nat.reduceLeDiff, Option.bind_some, qx_kn_v, qx_kn_n, Nat.add_zero, Bool.false_eq_true, ↓reduceIte]
        exact g2
end QL
