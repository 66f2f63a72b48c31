/-! Calls that look: search, friendAt. -/
theorem s256_34_0 {L : Nat} {xs : Nat → Int32} {d x : Nat} {M : qxM} {st : List Value} {ls : qxL} : Rs L xs (d) 256 34 ls (.int (nI 0) :: st) M x = Rs L xs (d) 256 90 ls st M x := Rs_next c256_34 rfl
theorem s256_34_1 {L : Nat} {xs : Nat → Int32} {d x : Nat} {M : qxM} {st : List Value} {ls : qxL} : Rs L xs (d) 256 34 ls (.int (nI 1) :: st) M x = Rs L xs (d) 256 90 ls st M x := Rs_next c256_34 rfl
theorem s256_34_2 {L : Nat} {xs : Nat → Int32} {d x : Nat} {M : qxM} {st : List Value} {ls : qxL} : Rs L xs (d) 256 34 ls (.int (nI 2) :: st) M x = Rs L xs (d) 256 90 ls st M x := Rs_next c256_34 rfl
section QL
variable {L : Nat} {xs : Nat → Int32} {d x : Nat} {M : qxM}
theorem g252l {n its : Nat} {ou inn : Nat} (hits : its ≤ 2) (hn14 : n ≤ 14) (hn : M.1 401 0 = nI n) (hl : nLb M ou inn) : ∀ (k i : Nat), i + k = n →
    Rs L xs (d + 1) 252 4 [some (.ref (400)), some (.int (nI its)), some (.int (nI (fb_ct (fun p => decide (qs_lb ou inn p = its)) i))), some (.int (nI i))] [] (M) x = some (.inl (some (.int (nI (fb_ct (fun p => decide (qs_lb ou inn p = its)) n)))), M, x) := by
  obtain ⟨k1, k2, k3⟩ := qx_m400
  have e1 := fun d => m179 (L := L) (xs := xs) (d := d) (x := 0) (M := M) true
  have e0 := fun d => m179 (L := L) (xs := xs) (d := d) (x := 0) (M := M) false
  simp only [← bI_t, ← bI_f] at e1 e0
  intro k
  induction k with
  | zero =>
    intro i hi
    have h1 : (nI n ≤ nI i) = True := by rw [show i = n by omega]; exact eq_true (Int32.le_refl _)
    rw [show i = n by omega] at h1 ⊢
    simp only [s252_0, s252_1i, s252_1r, s252_1n, s252_2, s252_3i, s252_3r, s252_3n, s252_4, s252_5, s252_6, s252_9, s252_10, s252_11, s252_14, s252_15, s252_16, s252_19, s252_21, s252_22, s252_23, s252_24, s252_25, s252_28, s252_29, s252_32, s252_33, s252_36, s252_37i, s252_37r, s252_37n, s252_38i, s252_38r, s252_38n, s252_44, s252_45, k1, k2, k3, hn, h1, (qn_c (0) (by omega)).1, (qn_c (0) (by omega)).2, ↓reduceIte]
  | succ k ih =>
    intro i hi
    have h1 : ¬ nI n ≤ nI i := nI_ge (by omega) (by omega)
    have hli := hl i (by omega)
    have hlb : qs_lb ou inn i ≤ 2 := by
      unfold qs_lb
      split
      · decide
      · split <;> decide
    have he : (nI (qs_lb ou inn i) = nI its) = (qs_lb ou inn i = its) := qi_eq (by omega) (by omega)
    have h2 := ih (i + 1) (by omega)
    rw [fb_ct_succ] at h2
    by_cases z : qs_lb ou inn i = its
    · rw [if_pos (decide_eq_true z)] at h2
      have he' : (nI (qs_lb ou inn i) = nI its) = True := by rw [he]; exact eq_true z
      simp only [s252_0, s252_1i, s252_1r, s252_1n, s252_2, s252_3i, s252_3r, s252_3n, s252_4, s252_5, s252_6, s252_9, s252_10, s252_11, s252_14, s252_15, s252_16, s252_19, s252_21, s252_22, s252_23, s252_24, s252_25, s252_28, s252_29, s252_32, s252_33, s252_36, s252_37i, s252_37r, s252_37n, s252_38i, s252_38r, s252_38n, s252_44, s252_45, k1, k2, k3, hn, h1, hli, he', e1, nI_add, (qn_c (0) (by omega)).1, (qn_c (0) (by omega)).2, (qn_c (55 + i) (by omega)).1, (qn_c (55 + i) (by omega)).2, List.length_cons, List.length_nil, Nat.zero_le, Nat.reduceAdd, Nat.reduceLeDiff, Option.bind_some, qx_kn_v, qx_kn_n, Nat.add_zero, Bool.false_eq_true, ↓reduceIte]
      rw [s252_41, h2]
    · rw [if_neg (by rw [decide_eq_false z]; decide)] at h2
      simp only [Nat.add_zero] at h2
      simp only [s252_0, s252_1i, s252_1r, s252_1n, s252_2, s252_3i, s252_3r, s252_3n, s252_4, s252_5, s252_6, s252_9, s252_10, s252_11, s252_14, s252_15, s252_16, s252_19, s252_21, s252_22, s252_23, s252_24, s252_25, s252_28, s252_29, s252_32, s252_33, s252_36, s252_37i, s252_37r, s252_37n, s252_38i, s252_38r, s252_38n, s252_44, s252_45, k1, k2, k3, hn, h1, hli, he, z, e0, nI_add, (qn_c (0) (by omega)).1, (qn_c (0) (by omega)).2, (qn_c (55 + i) (by omega)).1, (qn_c (55 + i) (by omega)).2, List.length_cons, List.length_nil, Nat.zero_le, Nat.reduceAdd, Nat.reduceLeDiff, Option.bind_some, qx_kn_v, qx_kn_n, Nat.add_zero, Bool.false_eq_true, ↓reduceIte]
      rw [s252_41, h2]
theorem g252 {n its : Nat} {ou inn : Nat} (hits : its ≤ 2) (hn14 : n ≤ 14) (hn : M.1 401 0 = nI n) (hl : nLb M ou inn) :
    Rs L xs (d + 1) 252 0 [some (.ref (400)), some (.int (nI its)), none, none] [] (M) x = some (.inl (some (.int (nI (fb_ct (fun p => decide (qs_lb ou inn p = its)) n)))), M, x) := by
  have h := g252l (L := L) (xs := xs) (d := d) (x := x) hits hn14 hn hl n 0 (by omega)
  simp only [s252_0, s252_1i, s252_1r, s252_1n, s252_2, s252_3i, s252_3r, s252_3n]
  exact h
theorem qb_pc_n {s n : Nat} (hn : n ≤ 14) (h : ∀ j, n ≤ j → s.testBit j = false) : qb_pc s = fb_ct s.testBit n := by
  unfold qb_pc
  have := fb_ct_past (s := s.testBit) (n := n) h (14 - n)
  rw [show n + (14 - n) = 14 by omega] at this
  exact this
theorem qg_lab {n rt : Nat} {mt : Nat → Nat} {ou inn qb e as : Nat} {qa tm bs lk : Nat → Nat} {wy : Nat → List Nat} (h : qg_ok n rt mt ou inn qb e as qa tm bs lk wy) :
    fb_ct (fun p => decide (qs_lb ou inn p = 1)) n = qb_pc ou ∧ fb_ct (fun p => decide (qs_lb ou inn p = 2)) n = qb_pc inn := by
  obtain ⟨h1, h2, h3, h4, h5, h6, a1, a2, a3, a4, a5, a6, a7, a8, a9⟩ := h
  have ho : ∀ j, n ≤ j → ou.testBit j = false := fun j hj => by
    cases z : ou.testBit j with
    | false => rfl
    | true => have := (a1 j z).1; omega
  have hi : ∀ j, n ≤ j → inn.testBit j = false := fun j hj => by
    cases z : inn.testBit j with
    | false => rfl
    | true => have := (a3 j z).1; omega
  rw [qb_pc_n h1 ho, qb_pc_n h1 hi]
  refine ⟨fb_ct_cong ?_, fb_ct_cong ?_⟩
  · intro k hk
    unfold qs_lb
    cases z : ou.testBit k <;> cases y : inn.testBit k <;> simp
  · intro k hk
    unfold qs_lb
    cases z : ou.testBit k <;> cases y : inn.testBit k
    · simp
    · simp
    · simp
    · exact absurd y (a1 k z).2.1
theorem j103 {M : qxM} (hR : qREL M) (z : Int32) : qPair L xs (d + 40) 103 [some (.ref 10), some (.int z), none] 256 [some (.ref 400), some (.int z)] ke01 M := by
  obtain ⟨k1, k2, k3⟩ := qx_m400
  rcases qREL_cmp hR with ⟨b1, b2, b3, b4⟩ | ⟨b1, b2, n, r, q, f, mt, s1, s2, s3, s4, st, rt, sp, bm, ou, inn, qb, e, as, qa, bs, lk, nr, fr, wy, hp, hn1, hT, hou, hinn, he14, hst4, hu, ⟨a1, a2, a3, a4⟩, hS, hm, ⟨m1, m2, m3, m4⟩, h35, hN⟩
  · refine qPair_of hR 1 0 (by decide) ?_ ?_
    · rw [if_neg (by decide)]
      simp only [s103_0, s103_1, s103_4, s103_5, s103_6, s103_8, qx_m10, a159t b1, List.length_cons, List.length_nil, Nat.zero_le, Nat.reduceAdd, Nat.reduceLeDiff, Option.bind_some, qx_kn_v, qx_kn_n, Nat.add_zero, Bool.false_eq_true, ↓reduceIte]
      exact qx_kn_t rfl rfl rfl
    · intro o
      refine ⟨nI 0, ?_, fun h => absurd h (by decide)⟩
      have h2 := fun (d : Nat) => a178k (L := L) (xs := xs) (d := d) (x := 0) (M := (M.1, o)) (k := 7) (by decide) z
      have h3 := fun (d : Nat) => c181a (L := L) (xs := xs) (d := d) (x := 0) (M := (M.1, o)) (!decide (qOut (7 + 1) z))
      simp only [Nat.reduceAdd] at h2 h3
      simp only [s256_0, s256_1, s256_2, s256_5, s256_6, s256_7, s256_9, s256_12, s256_15, s256_18, s256_19, k1, b2, h2, h3, bI_z, qbf, qi_z0, true_or, List.length_cons, List.length_nil, Nat.zero_le, Nat.reduceAdd, Nat.reduceLeDiff, Option.bind_some, qx_kn_v, qx_kn_n, Nat.add_zero, Bool.false_eq_true, ↓reduceIte]
  · have hn14 : n ≤ 14 := hp.1
    have hn0 : M.1 101 0 = nI n := hu.1
    have hZ : qx_Z 104 := qx_T100.2.2
    have hP : qx_P 101 := qx_T100.2.1
    have hst0 : M.1 104 0 = nI st := hS.1.1
    have hneed := fun (d x : Nat) => a159 (L := L) (xs := xs) (d := d) (x := x) b1
    by_cases hz : qOut (7 + 1) z
    · refine qPair_of hR 2 0 (by decide) ?_ ?_
      · rw [if_neg (by decide)]
        simp only [s103_0, s103_1, s103_4, s103_5, s103_6, s103_8, qx_m10, hneed, a162t (k := 7) (by decide) hz, List.length_cons, List.length_nil, Nat.zero_le, Nat.reduceAdd, Nat.reduceLeDiff, Option.bind_some, qx_kn_v, qx_kn_n, Nat.add_zero, Bool.false_eq_true, ↓reduceIte]
        exact qx_kn_t rfl rfl rfl
      · intro o
        refine ⟨nI 0, ?_, fun h => absurd h (by decide)⟩
        have h2 := fun (d : Nat) => a178k (L := L) (xs := xs) (d := d) (x := 0) (M := (M.1, o)) (k := 7) (by decide) z
        rw [decide_eq_true hz] at h2
        have h3 := fun (d : Nat) => c181b (L := L) (xs := xs) (d := d) (x := 0) (M := (M.1, o))
        simp only [s256_0, s256_1, s256_2, s256_5, s256_6, s256_7, s256_9, s256_12, s256_15, s256_18, s256_19, k1, b2, h2, h3, Bool.not_true, qbt, qbf, qi_z0, true_or, List.length_cons, List.length_nil, Nat.zero_le, Nat.reduceAdd, Nat.reduceLeDiff, Option.bind_some, qx_kn_v, qx_kn_n, Nat.add_zero, Bool.false_eq_true, ↓reduceIte]
    obtain ⟨p0, p3, p4⟩ := qOut_not (by decide) hz
    subst p4
    have hrange := fun (d x : Nat) => a162 (L := L) (xs := xs) (d := d) (x := x) (M := M) (k := 7) (p := p0) (by decide) (by omega)
    have hin := fun (o : (Nat → Int64) × (Nat → UInt64)) (d : Nat) => show Rs L xs d 178 0 [some (.int (nI p0)), some (.int (nI 0)), some (.int (nI 7))] [] (M.1, o) 0 = some (.inl (some (.int (bI true))), (M.1, o), 0) by
      have h := a178k (L := L) (xs := xs) (d := d) (x := 0) (M := (M.1, o)) (k := 7) (by decide) (nI p0)
      rw [decide_eq_false hz] at h
      exact h
    have hmay := fun (o : (Nat → Int64) × (Nat → UInt64)) (d : Nat) => c181c (L := L) (xs := xs) (d := d) (x := 0) (M := (M.1, o))
    have hb6 : ∀ o : (Nat → Int64) × (Nat → UInt64), (M.1, o).1 400 6 = bI true := fun o => b2
    have hg1 := fun o d => g255 (L := L) (xs := xs) (d := d) (x := 0) (M := qx_up (M.1, o) 400 0 (nI 0)) (show _ = nI st from h35) hst4
    have h350 : ∀ o : (Nat → Int64) × (Nat → UInt64), (qx_up (M.1, o) 400 0 (nI 0)).1 401 35 = nI st := fun o => h35
    by_cases hp0 : p0 = 0
    · subst hp0
      refine qPair_of hR 0 (nI st) (by decide) ?_ (fun o => ⟨nI st, ?_, fun _ => rfl⟩)
      · simp only [s103_0, s103_1, s103_4, s103_5, s103_6, s103_8, s103_11, s103_12, s103_15, s103_18i, s103_18r, s103_18n, s103_19, s103_20, s103_23, s103_24, s103_27, s103_28, s103_29, s103_32, s103_35, s103_36, s103_37, s103_38_0, s103_38_1, s103_38_2, s103_38_3, s103_38_4, s103_38_5, s103_38_6, s103_38_7, s103_76, s103_77, s103_80, s103_81, s103_82, s103_85, s103_86, s103_87, s103_90, s103_91, s103_92, s103_95, s103_98, s103_99, s103_100, s103_103, s103_106, s103_107, s103_108, s103_111, s103_112, s103_113, s103_114, s103_117, qx_m10, qx_T100.1, hZ.1, hneed, hrange, hst0, qi_z0, List.length_cons, List.length_nil, Nat.zero_le, Nat.reduceAdd, Nat.reduceLeDiff, Option.bind_some, qx_kn_v, qx_kn_n, Nat.add_zero, Bool.false_eq_true, ↓reduceIte]
      · have h00 : (nI 0 ≤ 0) = True := by decide
        simp only [s256_0, s256_1, s256_2, s256_5, s256_6, s256_7, s256_9, s256_12, s256_15, s256_18, s256_19, s256_20, s256_21, s256_24, s256_25, s256_28, s256_31, s256_32, s256_33, s256_34_3, s256_34_4, s256_34_5, s256_34_6, s256_34_7, s256_34_8, s256_64, s256_65, s256_66, s256_69, s256_70, s256_71, s256_72, s256_75, s256_76, s256_77, s256_80, s256_82, s256_83, s256_84, s256_85, s256_86, s256_89, s256_90, s256_91, s256_94, s256_96, s256_97, s256_98, s256_99, k1, k2, k3, b2, hin, hmay, qbt, h00, s256_34_0, nI_add, h350, (qn_c (35) (by omega)).1, (qn_c (35) (by omega)).2, List.length_cons, List.length_nil, Nat.zero_le, Nat.reduceAdd, Nat.reduceLeDiff, Option.bind_some, qx_kn_v, qx_kn_n, Nat.add_zero, Bool.false_eq_true, ↓reduceIte]
    · have hnz : ¬ nI p0 = 0 := nI_ne0 (by omega) (by omega)
      have hnle : ¬ nI p0 ≤ 0 := nI_nle (by omega) (by omega)
      by_cases hs : st = 0
      · refine qPair_of hR 0 (-1) (by decide) ?_ (fun o => ⟨-1, ?_, fun _ => rfl⟩)
        · simp only [s103_0, s103_1, s103_4, s103_5, s103_6, s103_8, s103_11, s103_12, s103_15, s103_18i, s103_18r, s103_18n, s103_19, s103_20, s103_23, s103_24, s103_27, s103_28, s103_29, s103_32, s103_35, s103_36, qx_m10, qx_T100.1, hZ.1, hneed, hrange, hnz, g56 hZ hst0 hst4, qD_f hs, qbf, List.length_cons, List.length_nil, Nat.zero_le, Nat.reduceAdd, Nat.reduceLeDiff, Option.bind_some, qx_kn_v, qx_kn_n, Nat.add_zero, Bool.false_eq_true, ↓reduceIte]
        · simp only [s256_0, s256_1, s256_2, s256_5, s256_6, s256_7, s256_9, s256_12, s256_15, s256_18, s256_19, s256_20, s256_21, s256_24, s256_25, s256_28, s256_31, s256_32, k1, b2, hin, hmay, qbt, hnle, hg1, qD_f hs, qbf, List.length_cons, List.length_nil, Nat.zero_le, Nat.reduceAdd, Nat.reduceLeDiff, Option.bind_some, qx_kn_v, qx_kn_n, Nat.add_zero, Bool.false_eq_true, ↓reduceIte]
      · obtain ⟨hN1, hN2, hN3, hN4, hN5, hN6, hN7, hN8⟩ := hN hs
        obtain ⟨mt0, tm, hG, _⟩ := gT_g hT hs
        obtain ⟨q1, q2, q3, q4⟩ := qg_bsn hG
        obtain ⟨w1, w2⟩ := qg_lab hG
        have hqe : qb ≤ e := hG.2.2.2.2.1
        have hb2 : st ≠ 0 → ∀ p, p < 14 → bs p < 14 := fun _ p hp => qg_bs hG hp
        have hcom : ∀ d x, Rs L xs (d + 40) 103 0 [some (.ref 10), some (.int (nI p0)), none] [] M x = Rs L xs (d + 40) 103 38 [some (.ref 10), some (.int (nI p0)), some (.ref 104)] [.int (nI p0)] M x := by
          intro d x
          simp only [s103_0, s103_1, s103_4, s103_5, s103_6, s103_8, s103_11, s103_12, s103_15, s103_18i, s103_18r, s103_18n, s103_19, s103_20, s103_23, s103_24, s103_27, s103_28, s103_29, s103_32, s103_35, s103_36, s103_37, qx_m10, qx_T100.1, hZ.1, hneed, hrange, hnz, g56 hZ hst0 hst4, qD_t hs, qbt, List.length_cons, List.length_nil, Nat.zero_le, Nat.reduceAdd, Nat.reduceLeDiff, Option.bind_some, qx_kn_v, qx_kn_n, Nat.add_zero, Bool.false_eq_true, ↓reduceIte]
        have hmod : ∀ o d, Rs L xs (d + 40) 256 0 [some (.ref 400), some (.int (nI p0))] [] (M.1, o) 0 = Rs L xs (d + 40) 256 34 [some (.ref 400), some (.int (nI p0))] [.int (nI p0)] (qx_up (M.1, o) 400 0 (nI 0)) 0 := by
          intro o d
          simp only [s256_0, s256_1, s256_2, s256_5, s256_6, s256_7, s256_9, s256_12, s256_15, s256_18, s256_19, s256_20, s256_21, s256_24, s256_25, s256_28, s256_31, s256_32, s256_33, k1, b2, hin, hmay, qbt, hnle, hg1, qD_t hs, List.length_cons, List.length_nil, Nat.zero_le, Nat.reduceAdd, Nat.reduceLeDiff, Option.bind_some, qx_kn_v, qx_kn_n, Nat.add_zero, Bool.false_eq_true, ↓reduceIte]
        obtain ⟨t0, t1, t2, t3, t4, t5, t6, t7, t8⟩ := hS.1
        have hl : p0 = 1 ∨ p0 = 2 ∨ p0 = 3 ∨ p0 = 4 ∨ p0 = 5 ∨ p0 = 6 ∨ p0 = 7 := by omega
        rcases hl with e0 | e0 | e0 | e0 | e0 | e0 | e0 <;> subst e0
        · refine qPair_of hR 0 (nI rt) (by decide) ?_ (fun o => ⟨nI rt, ?_, fun _ => rfl⟩)
          · rw [hcom]
            simp only [s103_38_0, s103_38_1, s103_38_2, s103_38_3, s103_38_4, s103_38_5, s103_38_6, s103_38_7, s103_76, s103_77, s103_80, s103_81, s103_82, s103_85, s103_86, s103_87, s103_90, s103_91, s103_92, s103_95, s103_98, s103_99, s103_100, s103_103, s103_106, s103_107, s103_108, s103_111, s103_112, s103_113, s103_114, s103_117, hZ.1, t1, List.length_cons, List.length_nil, Nat.zero_le, Nat.reduceAdd, Nat.reduceLeDiff, Option.bind_some, qx_kn_v, qx_kn_n, Nat.add_zero, Bool.false_eq_true, ↓reduceIte]
          · have h2 : (qx_up (M.1, o) 400 0 (nI 0)).1 401 36 = nI rt := hN1.2.1
            rw [hmod, s256_34_1]
            simp only [s256_34_3, s256_34_4, s256_34_5, s256_34_6, s256_34_7, s256_34_8, s256_64, s256_65, s256_66, s256_69, s256_70, s256_71, s256_72, s256_75, s256_76, s256_77, s256_80, s256_82, s256_83, s256_84, s256_85, s256_86, s256_89, s256_90, s256_91, s256_94, s256_96, s256_97, s256_98, s256_99, k1, k2, k3, nI_add, h2, (qn_c (36) (by omega)).1, (qn_c (36) (by omega)).2, List.length_cons, List.length_nil, Nat.zero_le, Nat.reduceAdd, Nat.reduceLeDiff, Option.bind_some, qx_kn_v, qx_kn_n, Nat.add_zero, Bool.false_eq_true, ↓reduceIte]
        · refine qPair_of hR 0 (nI sp) (by decide) ?_ (fun o => ⟨nI sp, ?_, fun _ => rfl⟩)
          · rw [hcom]
            simp only [s103_38_0, s103_38_1, s103_38_2, s103_38_3, s103_38_4, s103_38_5, s103_38_6, s103_38_7, s103_76, s103_77, s103_80, s103_81, s103_82, s103_85, s103_86, s103_87, s103_90, s103_91, s103_92, s103_95, s103_98, s103_99, s103_100, s103_103, s103_106, s103_107, s103_108, s103_111, s103_112, s103_113, s103_114, s103_117, hZ.1, t2, List.length_cons, List.length_nil, Nat.zero_le, Nat.reduceAdd, Nat.reduceLeDiff, Option.bind_some, qx_kn_v, qx_kn_n, Nat.add_zero, Bool.false_eq_true, ↓reduceIte]
          · have h2 : (qx_up (M.1, o) 400 0 (nI 0)).1 401 37 = nI sp := hN1.2.2.1
            rw [hmod, s256_34_2]
            simp only [s256_34_3, s256_34_4, s256_34_5, s256_34_6, s256_34_7, s256_34_8, s256_64, s256_65, s256_66, s256_69, s256_70, s256_71, s256_72, s256_75, s256_76, s256_77, s256_80, s256_82, s256_83, s256_84, s256_85, s256_86, s256_89, s256_90, s256_91, s256_94, s256_96, s256_97, s256_98, s256_99, k1, k2, k3, nI_add, h2, (qn_c (37) (by omega)).1, (qn_c (37) (by omega)).2, List.length_cons, List.length_nil, Nat.zero_le, Nat.reduceAdd, Nat.reduceLeDiff, Option.bind_some, qx_kn_v, qx_kn_n, Nat.add_zero, Bool.false_eq_true, ↓reduceIte]
        · refine qPair_of hR 0 (nI bm) (by decide) ?_ (fun o => ⟨nI bm, ?_, fun _ => rfl⟩)
          · rw [hcom]
            simp only [s103_38_0, s103_38_1, s103_38_2, s103_38_3, s103_38_4, s103_38_5, s103_38_6, s103_38_7, s103_76, s103_77, s103_80, s103_81, s103_82, s103_85, s103_86, s103_87, s103_90, s103_91, s103_92, s103_95, s103_98, s103_99, s103_100, s103_103, s103_106, s103_107, s103_108, s103_111, s103_112, s103_113, s103_114, s103_117, hZ.1, t3, List.length_cons, List.length_nil, Nat.zero_le, Nat.reduceAdd, Nat.reduceLeDiff, Option.bind_some, qx_kn_v, qx_kn_n, Nat.add_zero, Bool.false_eq_true, ↓reduceIte]
          · have h2 : (qx_up (M.1, o) 400 0 (nI 0)).1 401 38 = nI bm := hN1.2.2.2.1
            rw [hmod]
            simp only [s256_34_3, s256_34_4, s256_34_5, s256_34_6, s256_34_7, s256_34_8, s256_64, s256_65, s256_66, s256_69, s256_70, s256_71, s256_72, s256_75, s256_76, s256_77, s256_80, s256_82, s256_83, s256_84, s256_85, s256_86, s256_89, s256_90, s256_91, s256_94, s256_96, s256_97, s256_98, s256_99, k1, k2, k3, nI_add, h2, (qn_c (38) (by omega)).1, (qn_c (38) (by omega)).2, List.length_cons, List.length_nil, Nat.zero_le, Nat.reduceAdd, Nat.reduceLeDiff, Option.bind_some, qx_kn_v, qx_kn_n, Nat.add_zero, Bool.false_eq_true, ↓reduceIte]
        · refine qPair_of hR 0 (nI (qb_pc ou)) (by decide) ?_ (fun o => ⟨nI (qb_pc ou), ?_, fun _ => rfl⟩)
          · rw [hcom]
            simp only [s103_38_0, s103_38_1, s103_38_2, s103_38_3, s103_38_4, s103_38_5, s103_38_6, s103_38_7, s103_76, s103_77, s103_80, s103_81, s103_82, s103_85, s103_86, s103_87, s103_90, s103_91, s103_92, s103_95, s103_98, s103_99, s103_100, s103_103, s103_106, s103_107, s103_108, s103_111, s103_112, s103_113, s103_114, s103_117, hZ.1, t4, m334, qb_bc_ok hou, List.length_cons, List.length_nil, Nat.zero_le, Nat.reduceAdd, Nat.reduceLeDiff, Option.bind_some, qx_kn_v, qx_kn_n, Nat.add_zero, Bool.false_eq_true, ↓reduceIte]
          · have h2 := fun d => g252 (L := L) (xs := xs) (d := d) (x := 0) (M := qx_up (M.1, o) 400 0 (nI 0)) (its := 1) (by decide) hn14 (show _ = nI n from hm.1) hN3
            rw [w1] at h2
            rw [hmod]
            simp only [s256_34_3, s256_34_4, s256_34_5, s256_34_6, s256_34_7, s256_34_8, s256_64, s256_65, s256_66, s256_69, s256_70, s256_71, s256_72, s256_75, s256_76, s256_77, s256_80, s256_82, s256_83, s256_84, s256_85, s256_86, s256_89, s256_90, s256_91, s256_94, s256_96, s256_97, s256_98, s256_99, k1, h2, List.length_cons, List.length_nil, Nat.zero_le, Nat.reduceAdd, Nat.reduceLeDiff, Option.bind_some, qx_kn_v, qx_kn_n, Nat.add_zero, Bool.false_eq_true, ↓reduceIte]
        · refine qPair_of hR 0 (nI (qb_pc inn)) (by decide) ?_ (fun o => ⟨nI (qb_pc inn), ?_, fun _ => rfl⟩)
          · rw [hcom]
            simp only [s103_38_0, s103_38_1, s103_38_2, s103_38_3, s103_38_4, s103_38_5, s103_38_6, s103_38_7, s103_76, s103_77, s103_80, s103_81, s103_82, s103_85, s103_86, s103_87, s103_90, s103_91, s103_92, s103_95, s103_98, s103_99, s103_100, s103_103, s103_106, s103_107, s103_108, s103_111, s103_112, s103_113, s103_114, s103_117, hZ.1, t5, m334, qb_bc_ok hinn, List.length_cons, List.length_nil, Nat.zero_le, Nat.reduceAdd, Nat.reduceLeDiff, Option.bind_some, qx_kn_v, qx_kn_n, Nat.add_zero, Bool.false_eq_true, ↓reduceIte]
          · have h2 := fun d => g252 (L := L) (xs := xs) (d := d) (x := 0) (M := qx_up (M.1, o) 400 0 (nI 0)) (its := 2) (by decide) hn14 (show _ = nI n from hm.1) hN3
            rw [w2] at h2
            rw [hmod]
            simp only [s256_34_3, s256_34_4, s256_34_5, s256_34_6, s256_34_7, s256_34_8, s256_64, s256_65, s256_66, s256_69, s256_70, s256_71, s256_72, s256_75, s256_76, s256_77, s256_80, s256_82, s256_83, s256_84, s256_85, s256_86, s256_89, s256_90, s256_91, s256_94, s256_96, s256_97, s256_98, s256_99, k1, h2, List.length_cons, List.length_nil, Nat.zero_le, Nat.reduceAdd, Nat.reduceLeDiff, Option.bind_some, qx_kn_v, qx_kn_n, Nat.add_zero, Bool.false_eq_true, ↓reduceIte]
        · refine qPair_of hR 0 (nI (e - qb)) (by decide) ?_ (fun o => ⟨nI (e - qb), ?_, fun _ => rfl⟩)
          · rw [hcom]
            simp only [s103_38_0, s103_38_1, s103_38_2, s103_38_3, s103_38_4, s103_38_5, s103_38_6, s103_38_7, s103_76, s103_77, s103_80, s103_81, s103_82, s103_85, s103_86, s103_87, s103_90, s103_91, s103_92, s103_95, s103_98, s103_99, s103_100, s103_103, s103_106, s103_107, s103_108, s103_111, s103_112, s103_113, s103_114, s103_117, hZ.1, m60 hZ, t6, t7, pk_sub hqe, List.length_cons, List.length_nil, Nat.zero_le, Nat.reduceAdd, Nat.reduceLeDiff, Option.bind_some, qx_kn_v, qx_kn_n, Nat.add_zero, Bool.false_eq_true, ↓reduceIte]
          · have h2 : (qx_up (M.1, o) 400 0 (nI 0)).1 401 40 = nI (e - qb) := hN1.2.2.2.2.2
            rw [hmod]
            simp only [s256_34_3, s256_34_4, s256_34_5, s256_34_6, s256_34_7, s256_34_8, s256_64, s256_65, s256_66, s256_69, s256_70, s256_71, s256_72, s256_75, s256_76, s256_77, s256_80, s256_82, s256_83, s256_84, s256_85, s256_86, s256_89, s256_90, s256_91, s256_94, s256_96, s256_97, s256_98, s256_99, k1, k2, k3, h2, (qn_c (40) (by omega)).1, (qn_c (40) (by omega)).2, List.length_cons, List.length_nil, Nat.zero_le, Nat.reduceAdd, Nat.reduceLeDiff, Option.bind_some, qx_kn_v, qx_kn_n, Nat.add_zero, Bool.false_eq_true, ↓reduceIte]
        · have ha := fun d x => a115 (L := L) (xs := xs) (d := d) (x := x) (k0 := 1) hn14 (by decide) hn0 hst0 hst4 hS.2.2.1 hb2
          simp only [hs, ↓reduceIte] at ha
          refine qPair_of hR 0 (nI (fb_ct (fun p => decide (∀ q, q < p → bs q ≠ bs p) && decide (1 ≤ qb_pc (qb_of (fun q => bs q == bs p) 14))) n)) (by decide) ?_ (fun o => ⟨nI (fb_ct (fun p => decide (∀ q, q < p → bs q ≠ bs p) && decide (1 ≤ qb_pc (qb_of (fun q => bs q == bs p) 14))) n), ?_, fun _ => rfl⟩)
          · rw [hcom]
            simp only [s103_38_0, s103_38_1, s103_38_2, s103_38_3, s103_38_4, s103_38_5, s103_38_6, s103_38_7, s103_76, s103_77, s103_80, s103_81, s103_82, s103_85, s103_86, s103_87, s103_90, s103_91, s103_92, s103_95, s103_98, s103_99, s103_100, s103_103, s103_106, s103_107, s103_108, s103_111, s103_112, s103_113, s103_114, s103_117, qx_m10, ha, List.length_cons, List.length_nil, Nat.zero_le, Nat.reduceAdd, Nat.reduceLeDiff, Option.bind_some, qx_kn_v, qx_kn_n, Nat.add_zero, Bool.false_eq_true, ↓reduceIte]
          · have h2 := fun d => g254 (L := L) (xs := xs) (d := d) (x := 0) (M := qx_up (M.1, o) 400 0 (nI 0)) (k0 := 1) hn14 (by decide) (show _ = nI n from hm.1) hN4 q1 q3 q2
            rw [hmod]
            simp only [s256_34_3, s256_34_4, s256_34_5, s256_34_6, s256_34_7, s256_34_8, s256_64, s256_65, s256_66, s256_69, s256_70, s256_71, s256_72, s256_75, s256_76, s256_77, s256_80, s256_82, s256_83, s256_84, s256_85, s256_86, s256_89, s256_90, s256_91, s256_94, s256_96, s256_97, s256_98, s256_99, k1, h2, List.length_cons, List.length_nil, Nat.zero_le, Nat.reduceAdd, Nat.reduceLeDiff, Option.bind_some, qx_kn_v, qx_kn_n, Nat.add_zero, Bool.false_eq_true, ↓reduceIte]
end QL
