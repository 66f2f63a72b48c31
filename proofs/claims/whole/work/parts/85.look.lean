/-! Calls that look: count, pupil. -/
theorem fb_ct_drop (p : Nat → Bool) {i n : Nat} (hi : i < n) (hp : p i = true) : fb_ct (fun k => if k = i then false else p k) n + 1 = fb_ct p n := by
  have h := fb_ct_upd p false hi
  rw [if_pos hp, if_neg (by decide), Nat.add_zero] at h
  exact h
theorem qm_even {n : Nat} (hn : n ≤ 14) : ∀ (m : Nat) (mt : Nat → Nat), qm_ok n mt → fb_ct (fun p => decide (mt p < 14)) n ≤ m → fb_ct (fun p => decide (mt p < 14)) n % 2 = 0 := by
  intro m
  induction m with
  | zero =>
    intro mt h hm
    rw [show fb_ct (fun p => decide (mt p < 14)) n = 0 by omega]
  | succ m ih =>
    intro mt h hm
    by_cases z : 0 < fb_ct (fun p => decide (mt p < 14)) n
    · obtain ⟨i, i1, i2⟩ := fb_ct_pos.mp z
      have i3 : mt i < 14 := by simpa using i2
      have hi := h i (by omega) i3
      have h1 := qm_unjoin hn h (show i < 14 by omega) i3
      have e1 : fb_ct (fun p => decide (qu (qu mt (mt i) 14) i 14 p < 14)) n = fb_ct (fun k => if k = i then false else (if k = mt i then false else decide (mt k < 14))) n := by
        apply fb_ct_cong
        intro k _
        unfold qu
        by_cases y : k = i
        · simp [y]
        · by_cases x : k = mt i
          · simp [x, y]
          · simp [x, y]
      have e2 : fb_ct (fun k => if k = i then false else (if k = mt i then false else decide (mt k < 14))) n + 1 = fb_ct (fun k => if k = mt i then false else decide (mt k < 14)) n := fb_ct_drop (fun k => if k = mt i then false else decide (mt k < 14)) i1 (by
        show (if i = mt i then false else decide (mt i < 14)) = true
        rw [if_neg (fun w => hi.2.2.1 w.symm)]
        exact i2)
      have e3 : fb_ct (fun k => if k = mt i then false else decide (mt k < 14)) n + 1 = fb_ct (fun p => decide (mt p < 14)) n := fb_ct_drop (fun k => decide (mt k < 14)) hi.2.1 (by
        show decide (mt (mt i) < 14) = true
        rw [hi.2.2.2]
        exact decide_eq_true (by omega))
      have h2 := ih _ h1 (by omega)
      omega
    · omega
section QL
variable {L : Nat} {xs : Nat → Int32} {d x : Nat} {M : qxM}
theorem g222l {n r q : Nat} {f mt : Nat → Nat} (hp : qp_ok n r q f mt) (hu : nPu M n r q f mt) (by_ : Bool) : ∀ (k i a : Nat), i + k = n → a + 14 * k ≤ 1000 →
    Rs L xs (d + 4) 222 4 [some (.ref (400)), some (.int (bI by_)), some (.int (nI a)), some (.int (nI i))] [] (M) x = some (.inl (some (.int (nI ((a + qp_sm (fun p => qb_pc (if by_ then qp_al r q (f p) p else f p)) i k) / 2)))), M, x) := by
  obtain ⟨k1, k2, k3⟩ := qx_m400
  have hn14 := hp.1
  intro k
  induction k with
  | zero =>
    intro i a hi ha
    have h1 : (nI n ≤ nI i) = True := by rw [show i = n by omega]; exact eq_true (Int32.le_refl _)
    have h2 : nI a / nI 2 = nI (a / 2) := pk_div (by omega) (by decide) (by decide)
    have h3 : ¬ nI 2 = 0 := by decide
    simp only [s222_0, s222_1i, s222_1r, s222_1n, s222_2, s222_3i, s222_3r, s222_3n, s222_4, s222_5, s222_6, s222_9, s222_10, s222_11, s222_14, s222_15, s222_16, s222_19, s222_20, s222_21, s222_24, s222_27, s222_28, s222_31, s222_33, s222_34, s222_35, s222_36, s222_39, s222_40i, s222_40r, s222_40n, s222_41i, s222_41r, s222_41n, s222_47, s222_48, s222_49, s222_50, k1, k2, k3, hu.1, h1, h2, h3, (qn_c (0) (by omega)).1, (qn_c (0) (by omega)).2, List.length_cons, List.length_nil, Nat.zero_le, Nat.reduceAdd, Nat.reduceLeDiff, Option.bind_some, qx_kn_v, qx_kn_n, Nat.add_zero, Bool.false_eq_true, ↓reduceIte, not_false_eq_true, ne_eq]
    rfl
  | succ k ih =>
    intro i a hi ha
    have h1 : ¬ nI n ≤ nI i := nI_ge (by omega) (by omega)
    have hi14 : i < 14 := by omega
    have hf14 := qp_f14 hp hi14
    have hal := qp_al_lt (r := r) (k := q) (p := i) hf14
    rw [qp_sm_succ, ← Nat.add_assoc]
    have hle : ∀ s, qb_pc s ≤ 14 := qb_pc_le
    cases by_
    · have h2 := ih (i + 1) (a + qb_pc (f i)) (by omega) (by have := hle (f i); omega)
      simp only [s222_0, s222_1i, s222_1r, s222_1n, s222_2, s222_3i, s222_3r, s222_3n, s222_4, s222_5, s222_6, s222_9, s222_10, s222_11, s222_14, s222_15, s222_16, s222_19, s222_20, s222_21, s222_24, s222_27, s222_28, s222_31, s222_33, s222_34, s222_35, s222_36, s222_39, s222_40i, s222_40r, s222_40n, s222_41i, s222_41r, s222_41n, s222_47, s222_48, s222_49, s222_50, k1, k2, k3, hu.1, h1, qbf, hu.2.2.2.1 i hi14, m209 hf14, nI_add, (qn_c (0) (by omega)).1, (qn_c (0) (by omega)).2, (qn_c (7 + i) (by omega)).1, (qn_c (7 + i) (by omega)).2, List.length_cons, List.length_nil, Nat.zero_le, Nat.reduceAdd, Nat.reduceLeDiff, Option.bind_some, qx_kn_v, qx_kn_n, Nat.add_zero, Bool.false_eq_true, ↓reduceIte]
      rw [s222_44, h2]
      rfl
    · have h2 := ih (i + 1) (a + qb_pc (qp_al r q (f i) i)) (by omega) (by have := hle (qp_al r q (f i) i); omega)
      simp only [s222_0, s222_1i, s222_1r, s222_1n, s222_2, s222_3i, s222_3r, s222_3n, s222_4, s222_5, s222_6, s222_9, s222_10, s222_11, s222_14, s222_15, s222_16, s222_19, s222_20, s222_21, s222_24, s222_27, s222_28, s222_31, s222_33, s222_34, s222_35, s222_36, s222_39, s222_40i, s222_40r, s222_40n, s222_41i, s222_41r, s222_41n, s222_47, s222_48, s222_49, s222_50, k1, k2, k3, hu.1, h1, qbt, m220 hi14 hu.1 hn14 (hu.2.2.2.1 i hi14) (hp.2.2.2.1 i hi14).1 hu.2.1 hp.2.1 hu.2.2.1 hp.2.2.1, m209 hal, nI_add, (qn_c (0) (by omega)).1, (qn_c (0) (by omega)).2, List.length_cons, List.length_nil, Nat.zero_le, Nat.reduceAdd, Nat.reduceLeDiff, Option.bind_some, qx_kn_v, qx_kn_n, Nat.add_zero, Bool.false_eq_true, ↓reduceIte]
      rw [s222_44, h2]
      rfl
theorem g222 {n r q : Nat} {f mt : Nat → Nat} (hp : qp_ok n r q f mt) (hu : nPu M n r q f mt) (by_ : Bool) :
    Rs L xs (d + 4) 222 0 [some (.ref (400)), some (.int (bI by_)), none, none] [] (M) x = some (.inl (some (.int (nI (qp_sm (fun p => qb_pc (if by_ then qp_al r q (f p) p else f p)) 0 n / 2)))), M, x) := by
  have hn14 := hp.1
  have h := g222l (L := L) (xs := xs) (d := d) (x := x) hp hu by_ n 0 0 (by omega) (by omega)
  rw [Nat.zero_add] at h
  simp only [s222_0, s222_1i, s222_1r, s222_1n, s222_2, s222_3i, s222_3r, s222_3n]
  exact h
theorem qPu_f {u n r q : Nat} {f mt : Nat → Nat} (hp : qp_ok n r q f mt) (hu : qPu u M n r q f mt) : ∀ p, p < 14 → M.1 (u + 1) p = nI (f p) ∧ f p < 16384 := fun p h => ⟨hu.2.2.2.1 p h, qp_f14 hp h⟩
theorem j97 {M : qxM} (hR : qREL M) (z : Int32) : qPair L xs (d + 40) 97 [some (.ref 10), some (.int z), none] 225 [some (.ref 400), some (.int z)] ke01 M := by
  obtain ⟨k1, k2, k3⟩ := qx_m400
  rcases qREL_cmp hR with ⟨b1, b2, b3, b4⟩ | ⟨b1, b2, n, r, q, f, mt, s1, s2, s3, s4, st, rt, sp, bm, ou, inn, qb, e, as, qa, bs, lk, nr, fr, wy, hp, hn1, hT, hou, hinn, he14, hst4, hu, ⟨a1, a2, a3, a4⟩, hS, hm, ⟨m1, m2, m3, m4⟩, h35, hN⟩
  · refine qPair_of hR 1 0 (by decide) ?_ ?_
    · rw [if_neg (by decide)]
      simp only [s97_0, s97_1, s97_4, s97_5, s97_6, s97_8, qx_m10, a159t b1, List.length_cons, List.length_nil, Nat.zero_le, Nat.reduceAdd, Nat.reduceLeDiff, Option.bind_some, qx_kn_v, qx_kn_n, Nat.add_zero, Bool.false_eq_true, ↓reduceIte]
      exact qx_kn_t rfl rfl rfl
    · intro o
      refine ⟨nI 0, ?_, fun h => absurd h (by decide)⟩
      have h2 := fun (d : Nat) => a178k (L := L) (xs := xs) (d := d) (x := 0) (M := (M.1, o)) (k := 10) (by decide) z
      have h3 := fun (d : Nat) => c181a (L := L) (xs := xs) (d := d) (x := 0) (M := (M.1, o)) (!decide (qOut (10 + 1) z))
      simp only [Nat.reduceAdd] at h2 h3
      simp only [s225_0, s225_1, s225_2, s225_5, s225_6, s225_7, s225_9, s225_12, s225_15, s225_18, s225_19, k1, b2, h2, h3, bI_z, qbf, qi_z0, true_or, List.length_cons, List.length_nil, Nat.zero_le, Nat.reduceAdd, Nat.reduceLeDiff, Option.bind_some, qx_kn_v, qx_kn_n, Nat.add_zero, Bool.false_eq_true, ↓reduceIte]
  · have hn14 : n ≤ 14 := hp.1
    have hn0 : M.1 101 0 = nI n := hu.1
    have hZ : qx_Z 104 := qx_T100.2.2
    have hP : qx_P 101 := qx_T100.2.1
    have hst0 : M.1 104 0 = nI st := hS.1.1
    have hneed := fun (d x : Nat) => a159 (L := L) (xs := xs) (d := d) (x := x) b1
    by_cases hz : qOut (10 + 1) z
    · refine qPair_of hR 2 0 (by decide) ?_ ?_
      · rw [if_neg (by decide)]
        simp only [s97_0, s97_1, s97_4, s97_5, s97_6, s97_8, qx_m10, hneed, a162t (k := 10) (by decide) hz, List.length_cons, List.length_nil, Nat.zero_le, Nat.reduceAdd, Nat.reduceLeDiff, Option.bind_some, qx_kn_v, qx_kn_n, Nat.add_zero, Bool.false_eq_true, ↓reduceIte]
        exact qx_kn_t rfl rfl rfl
      · intro o
        refine ⟨nI 0, ?_, fun h => absurd h (by decide)⟩
        have h2 := fun (d : Nat) => a178k (L := L) (xs := xs) (d := d) (x := 0) (M := (M.1, o)) (k := 10) (by decide) z
        rw [decide_eq_true hz] at h2
        have h3 := fun (d : Nat) => c181b (L := L) (xs := xs) (d := d) (x := 0) (M := (M.1, o))
        simp only [s225_0, s225_1, s225_2, s225_5, s225_6, s225_7, s225_9, s225_12, s225_15, s225_18, s225_19, k1, b2, h2, h3, Bool.not_true, qbt, qbf, qi_z0, true_or, List.length_cons, List.length_nil, Nat.zero_le, Nat.reduceAdd, Nat.reduceLeDiff, Option.bind_some, qx_kn_v, qx_kn_n, Nat.add_zero, Bool.false_eq_true, ↓reduceIte]
    obtain ⟨p0, p3, p4⟩ := qOut_not (by decide) hz
    subst p4
    have hrange := fun (d x : Nat) => a162 (L := L) (xs := xs) (d := d) (x := x) (M := M) (k := 10) (p := p0) (by decide) (by omega)
    have hin := fun (o : (Nat → Int64) × (Nat → UInt64)) (d : Nat) => show Rs L xs d 178 0 [some (.int (nI p0)), some (.int (nI 0)), some (.int (nI 10))] [] (M.1, o) 0 = some (.inl (some (.int (bI true))), (M.1, o), 0) by
      have h := a178k (L := L) (xs := xs) (d := d) (x := 0) (M := (M.1, o)) (k := 10) (by decide) (nI p0)
      rw [decide_eq_false hz] at h
      exact h
    have hmay := fun (o : (Nat → Int64) × (Nat → UInt64)) (d : Nat) => c181c (L := L) (xs := xs) (d := d) (x := 0) (M := (M.1, o))
    have hb6 : ∀ o : (Nat → Int64) × (Nat → UInt64), (M.1, o).1 400 6 = bI true := fun o => b2
    have hf := qPu_f hp hu
    have hc1 := hin
    have hst : ∀ o : (Nat → Int64) × (Nat → UInt64), (qx_up (M.1, o) 400 0 (nI 0)).1 401 = M.1 401 := fun o => rfl
    have hnp : ∀ o : (Nat → Int64) × (Nat → UInt64), nPu (qx_up (M.1, o) 400 0 (nI 0)) n r q f mt := fun o => hm
    have hl : p0 = 0 ∨ p0 = 1 ∨ p0 = 2 ∨ p0 = 3 ∨ p0 = 4 ∨ p0 = 5 ∨ p0 = 6 ∨ p0 = 7 ∨ p0 = 8 ∨ p0 = 9 ∨ p0 = 10 := by omega
    have hq2 := hp.2.2.1
    rcases hl with e | e | e | e | e | e | e | e | e | e | e <;> subst e
    · refine qPair_of hR 0 (nI n) (by decide) ?_ (fun o => ⟨nI n, ?_, fun _ => rfl⟩)
      · simp only [s97_0, s97_1, s97_4, s97_5, s97_6, s97_8, s97_11, s97_12, s97_15, s97_18i, s97_18r, s97_18n, s97_19, s97_20_0, s97_20_1, s97_20_2, s97_20_3, s97_20_4, s97_20_5, s97_20_6, s97_20_7, s97_20_8, s97_20_9, s97_20_10, s97_76, s97_77, s97_80, s97_81, s97_82, s97_85, s97_86, s97_87, s97_90, s97_91, s97_92, s97_95, s97_96, s97_97, s97_100, s97_101, s97_102, s97_105, s97_106, s97_107, s97_108, s97_109, s97_112, s97_113, s97_114, s97_117, s97_120, s97_121, s97_122, s97_125, s97_128, s97_129, s97_130, s97_133, s97_136, s97_137, s97_138, s97_141, s97_144, s97_145, s97_146, s97_149, s97_152, qx_m10, qx_T100.1, hP.1, hneed, hrange, hn0, List.length_cons, List.length_nil, Nat.zero_le, Nat.reduceAdd, Nat.reduceLeDiff, Option.bind_some, qx_kn_v, qx_kn_n, Nat.add_zero, Bool.false_eq_true, ↓reduceIte]
      · simp only [s225_0, s225_1, s225_2, s225_5, s225_6, s225_7, s225_9, s225_12, s225_15, s225_18, s225_19, s225_20, s225_21_0, s225_21_1, s225_21_2, s225_21_3, s225_21_4, s225_21_5, s225_21_6, s225_21_7, s225_21_8, s225_21_9, s225_21_10, s225_76, s225_77, s225_80, s225_81, s225_82, s225_83, s225_84, s225_85, s225_88, s225_89, s225_90, s225_91, s225_94, s225_95, s225_96, s225_99, s225_100, s225_101, s225_104, s225_107, s225_108, s225_109, s225_112, s225_113, s225_114, s225_115, s225_116, s225_119, s225_120, s225_121, s225_124, s225_125, s225_126, s225_129, s225_130, s225_131, s225_132, s225_133, s225_136, s225_137, s225_138, s225_139, s225_140, s225_143, s225_144, s225_145, s225_146, s225_147, s225_150, s225_152, s225_153, k1, k2, k3, b2, hin, hmay, qbt, (hnp o).1, (qn_c (0) (by omega)).1, (qn_c (0) (by omega)).2, List.length_cons, List.length_nil, Nat.zero_le, Nat.reduceAdd, Nat.reduceLeDiff, Option.bind_some, qx_kn_v, qx_kn_n, Nat.add_zero, Bool.false_eq_true, ↓reduceIte]
    · refine qPair_of hR 0 (nI (qp_sm (fun p => qb_pc (f p)) 0 n / 2)) (by decide) ?_ (fun o => ⟨nI (qp_sm (fun p => qb_pc (f p)) 0 n / 2), ?_, fun _ => rfl⟩)
      · simp only [s97_0, s97_1, s97_4, s97_5, s97_6, s97_8, s97_11, s97_12, s97_15, s97_18i, s97_18r, s97_18n, s97_19, s97_20_0, s97_20_1, s97_20_2, s97_20_3, s97_20_4, s97_20_5, s97_20_6, s97_20_7, s97_20_8, s97_20_9, s97_20_10, s97_76, s97_77, s97_80, s97_81, s97_82, s97_85, s97_86, s97_87, s97_90, s97_91, s97_92, s97_95, s97_96, s97_97, s97_100, s97_101, s97_102, s97_105, s97_106, s97_107, s97_108, s97_109, s97_112, s97_113, s97_114, s97_117, s97_120, s97_121, s97_122, s97_125, s97_128, s97_129, s97_130, s97_133, s97_136, s97_137, s97_138, s97_141, s97_144, s97_145, s97_146, s97_149, s97_152, qx_m10, qx_T100.1, hP.1, hneed, hrange, m44 hP hn0 hn14 hf, List.length_cons, List.length_nil, Nat.zero_le, Nat.reduceAdd, Nat.reduceLeDiff, Option.bind_some, qx_kn_v, qx_kn_n, Nat.add_zero, Bool.false_eq_true, ↓reduceIte]
      · have h2 : ∀ d, Rs L xs (d + 4) 222 0 [some (.ref 400), some (.int (nI 0)), none, none] [] (qx_up (M.1, o) 400 0 (nI 0)) 0 = some (.inl (some (.int (nI (qp_sm (fun p => qb_pc (f p)) 0 n / 2)))), qx_up (M.1, o) 400 0 (nI 0), 0) := fun d => g222 (L := L) (xs := xs) (d := d) (x := 0) hp (hnp o) false
        simp only [s225_0, s225_1, s225_2, s225_5, s225_6, s225_7, s225_9, s225_12, s225_15, s225_18, s225_19, s225_20, s225_21_0, s225_21_1, s225_21_2, s225_21_3, s225_21_4, s225_21_5, s225_21_6, s225_21_7, s225_21_8, s225_21_9, s225_21_10, s225_76, s225_77, s225_80, s225_81, s225_82, s225_83, s225_84, s225_85, s225_88, s225_89, s225_90, s225_91, s225_94, s225_95, s225_96, s225_99, s225_100, s225_101, s225_104, s225_107, s225_108, s225_109, s225_112, s225_113, s225_114, s225_115, s225_116, s225_119, s225_120, s225_121, s225_124, s225_125, s225_126, s225_129, s225_130, s225_131, s225_132, s225_133, s225_136, s225_137, s225_138, s225_139, s225_140, s225_143, s225_144, s225_145, s225_146, s225_147, s225_150, s225_152, s225_153, k1, b2, hin, hmay, qbt, h2, List.length_cons, List.length_nil, Nat.zero_le, Nat.reduceAdd, Nat.reduceLeDiff, Option.bind_some, qx_kn_v, qx_kn_n, Nat.add_zero, Bool.false_eq_true, ↓reduceIte]
    · refine qPair_of hR 0 (nI (qp_sm (fun p => qb_pc (qp_al r q (f p) p)) 0 n / 2)) (by decide) ?_ (fun o => ⟨nI (qp_sm (fun p => qb_pc (qp_al r q (f p) p)) 0 n / 2), ?_, fun _ => rfl⟩)
      · simp only [s97_0, s97_1, s97_4, s97_5, s97_6, s97_8, s97_11, s97_12, s97_15, s97_18i, s97_18r, s97_18n, s97_19, s97_20_0, s97_20_1, s97_20_2, s97_20_3, s97_20_4, s97_20_5, s97_20_6, s97_20_7, s97_20_8, s97_20_9, s97_20_10, s97_76, s97_77, s97_80, s97_81, s97_82, s97_85, s97_86, s97_87, s97_90, s97_91, s97_92, s97_95, s97_96, s97_97, s97_100, s97_101, s97_102, s97_105, s97_106, s97_107, s97_108, s97_109, s97_112, s97_113, s97_114, s97_117, s97_120, s97_121, s97_122, s97_125, s97_128, s97_129, s97_130, s97_133, s97_136, s97_137, s97_138, s97_141, s97_144, s97_145, s97_146, s97_149, s97_152, qx_m10, qx_T100.1, hP.1, hneed, hrange, m45 hP hn0 hn14 hp.2.1 hu.2.1 hu.2.2.1 hp.2.2.1 hf, List.length_cons, List.length_nil, Nat.zero_le, Nat.reduceAdd, Nat.reduceLeDiff, Option.bind_some, qx_kn_v, qx_kn_n, Nat.add_zero, Bool.false_eq_true, ↓reduceIte]
      · have h2 : ∀ d, Rs L xs (d + 4) 222 0 [some (.ref 400), some (.int (nI 1)), none, none] [] (qx_up (M.1, o) 400 0 (nI 0)) 0 = some (.inl (some (.int (nI (qp_sm (fun p => qb_pc (qp_al r q (f p) p)) 0 n / 2)))), qx_up (M.1, o) 400 0 (nI 0), 0) := fun d => g222 (L := L) (xs := xs) (d := d) (x := 0) hp (hnp o) true
        simp only [s225_0, s225_1, s225_2, s225_5, s225_6, s225_7, s225_9, s225_12, s225_15, s225_18, s225_19, s225_20, s225_21_0, s225_21_1, s225_21_2, s225_21_3, s225_21_4, s225_21_5, s225_21_6, s225_21_7, s225_21_8, s225_21_9, s225_21_10, s225_76, s225_77, s225_80, s225_81, s225_82, s225_83, s225_84, s225_85, s225_88, s225_89, s225_90, s225_91, s225_94, s225_95, s225_96, s225_99, s225_100, s225_101, s225_104, s225_107, s225_108, s225_109, s225_112, s225_113, s225_114, s225_115, s225_116, s225_119, s225_120, s225_121, s225_124, s225_125, s225_126, s225_129, s225_130, s225_131, s225_132, s225_133, s225_136, s225_137, s225_138, s225_139, s225_140, s225_143, s225_144, s225_145, s225_146, s225_147, s225_150, s225_152, s225_153, k1, b2, hin, hmay, qbt, h2, List.length_cons, List.length_nil, Nat.zero_le, Nat.reduceAdd, Nat.reduceLeDiff, Option.bind_some, qx_kn_v, qx_kn_n, Nat.add_zero, Bool.false_eq_true, ↓reduceIte]
    · refine qPair_of hR 0 (nI (qm_np n mt)) (by decide) ?_ (fun o => ⟨nI (qm_np n mt), ?_, fun _ => rfl⟩)
      · simp only [s97_0, s97_1, s97_4, s97_5, s97_6, s97_8, s97_11, s97_12, s97_15, s97_18i, s97_18r, s97_18n, s97_19, s97_20_0, s97_20_1, s97_20_2, s97_20_3, s97_20_4, s97_20_5, s97_20_6, s97_20_7, s97_20_8, s97_20_9, s97_20_10, s97_76, s97_77, s97_80, s97_81, s97_82, s97_85, s97_86, s97_87, s97_90, s97_91, s97_92, s97_95, s97_96, s97_97, s97_100, s97_101, s97_102, s97_105, s97_106, s97_107, s97_108, s97_109, s97_112, s97_113, s97_114, s97_117, s97_120, s97_121, s97_122, s97_125, s97_128, s97_129, s97_130, s97_133, s97_136, s97_137, s97_138, s97_141, s97_144, s97_145, s97_146, s97_149, s97_152, qx_m10, qx_T100.1, hP.1, hneed, hrange, g48 hP hn14 hn0 hu.2.2.2.2, List.length_cons, List.length_nil, Nat.zero_le, Nat.reduceAdd, Nat.reduceLeDiff, Option.bind_some, qx_kn_v, qx_kn_n, Nat.add_zero, Bool.false_eq_true, ↓reduceIte]
      · simp only [s225_0, s225_1, s225_2, s225_5, s225_6, s225_7, s225_9, s225_12, s225_15, s225_18, s225_19, s225_20, s225_21_0, s225_21_1, s225_21_2, s225_21_3, s225_21_4, s225_21_5, s225_21_6, s225_21_7, s225_21_8, s225_21_9, s225_21_10, s225_76, s225_77, s225_80, s225_81, s225_82, s225_83, s225_84, s225_85, s225_88, s225_89, s225_90, s225_91, s225_94, s225_95, s225_96, s225_99, s225_100, s225_101, s225_104, s225_107, s225_108, s225_109, s225_112, s225_113, s225_114, s225_115, s225_116, s225_119, s225_120, s225_121, s225_124, s225_125, s225_126, s225_129, s225_130, s225_131, s225_132, s225_133, s225_136, s225_137, s225_138, s225_139, s225_140, s225_143, s225_144, s225_145, s225_146, s225_147, s225_150, s225_152, s225_153, k1, b2, hin, hmay, qbt, g224 hn14 (hnp o).1 (hnp o).2.2.2.2, List.length_cons, List.length_nil, Nat.zero_le, Nat.reduceAdd, Nat.reduceLeDiff, Option.bind_some, qx_kn_v, qx_kn_n, Nat.add_zero, Bool.false_eq_true, ↓reduceIte]
    · have hev := qm_even hn14 _ mt hp.2.2.2.2.2 (Nat.le_refl _)
      have hle := fb_ct_le (fun p => decide (mt p < 14)) n
      have hnot := fb_ct_not (fun p => decide (mt p < 14)) n
      have hval : nI n - nI (2 * qm_np n mt) = nI (fb_ct (fun p => !decide (mt p < 14)) n) := by
        unfold qm_np
        rw [pk_sub (by omega)]
        congr 1
        omega
      refine qPair_of hR 0 (nI (fb_ct (fun p => !decide (mt p < 14)) n)) (by decide) ?_ (fun o => ⟨nI (fb_ct (fun p => !decide (mt p < 14)) n), ?_, fun _ => rfl⟩)
      · simp only [s97_0, s97_1, s97_4, s97_5, s97_6, s97_8, s97_11, s97_12, s97_15, s97_18i, s97_18r, s97_18n, s97_19, s97_20_0, s97_20_1, s97_20_2, s97_20_3, s97_20_4, s97_20_5, s97_20_6, s97_20_7, s97_20_8, s97_20_9, s97_20_10, s97_76, s97_77, s97_80, s97_81, s97_82, s97_85, s97_86, s97_87, s97_90, s97_91, s97_92, s97_95, s97_96, s97_97, s97_100, s97_101, s97_102, s97_105, s97_106, s97_107, s97_108, s97_109, s97_112, s97_113, s97_114, s97_117, s97_120, s97_121, s97_122, s97_125, s97_128, s97_129, s97_130, s97_133, s97_136, s97_137, s97_138, s97_141, s97_144, s97_145, s97_146, s97_149, s97_152, qx_m10, qx_T100.1, hP.1, hneed, hrange, g48 hP hn14 hn0 hu.2.2.2.2, hn0, pk_mul, hval, List.length_cons, List.length_nil, Nat.zero_le, Nat.reduceAdd, Nat.reduceLeDiff, Option.bind_some, qx_kn_v, qx_kn_n, Nat.add_zero, Bool.false_eq_true, ↓reduceIte]
      · simp only [s225_0, s225_1, s225_2, s225_5, s225_6, s225_7, s225_9, s225_12, s225_15, s225_18, s225_19, s225_20, s225_21_0, s225_21_1, s225_21_2, s225_21_3, s225_21_4, s225_21_5, s225_21_6, s225_21_7, s225_21_8, s225_21_9, s225_21_10, s225_76, s225_77, s225_80, s225_81, s225_82, s225_83, s225_84, s225_85, s225_88, s225_89, s225_90, s225_91, s225_94, s225_95, s225_96, s225_99, s225_100, s225_101, s225_104, s225_107, s225_108, s225_109, s225_112, s225_113, s225_114, s225_115, s225_116, s225_119, s225_120, s225_121, s225_124, s225_125, s225_126, s225_129, s225_130, s225_131, s225_132, s225_133, s225_136, s225_137, s225_138, s225_139, s225_140, s225_143, s225_144, s225_145, s225_146, s225_147, s225_150, s225_152, s225_153, k1, b2, hin, hmay, qbt, g223 hn14 (hnp o).1 (hnp o).2.2.2.2, m209 (qb_of_lt14 (fun p => !decide (mt p < 14)) hn14), qb_pc_of _ hn14, List.length_cons, List.length_nil, Nat.zero_le, Nat.reduceAdd, Nat.reduceLeDiff, Option.bind_some, qx_kn_v, qx_kn_n, Nat.add_zero, Bool.false_eq_true, ↓reduceIte]
    · refine qPair_of hR 0 (nI r) (by decide) ?_ (fun o => ⟨nI r, ?_, fun _ => rfl⟩)
      · simp only [s97_0, s97_1, s97_4, s97_5, s97_6, s97_8, s97_11, s97_12, s97_15, s97_18i, s97_18r, s97_18n, s97_19, s97_20_0, s97_20_1, s97_20_2, s97_20_3, s97_20_4, s97_20_5, s97_20_6, s97_20_7, s97_20_8, s97_20_9, s97_20_10, s97_76, s97_77, s97_80, s97_81, s97_82, s97_85, s97_86, s97_87, s97_90, s97_91, s97_92, s97_95, s97_96, s97_97, s97_100, s97_101, s97_102, s97_105, s97_106, s97_107, s97_108, s97_109, s97_112, s97_113, s97_114, s97_117, s97_120, s97_121, s97_122, s97_125, s97_128, s97_129, s97_130, s97_133, s97_136, s97_137, s97_138, s97_141, s97_144, s97_145, s97_146, s97_149, s97_152, qx_m10, qx_T100.1, hP.1, hneed, hrange, show M.1 101 1 = nI r from hu.2.1, List.length_cons, List.length_nil, Nat.zero_le, Nat.reduceAdd, Nat.reduceLeDiff, Option.bind_some, qx_kn_v, qx_kn_n, Nat.add_zero, Bool.false_eq_true, ↓reduceIte]
      · simp only [s225_0, s225_1, s225_2, s225_5, s225_6, s225_7, s225_9, s225_12, s225_15, s225_18, s225_19, s225_20, s225_21_0, s225_21_1, s225_21_2, s225_21_3, s225_21_4, s225_21_5, s225_21_6, s225_21_7, s225_21_8, s225_21_9, s225_21_10, s225_76, s225_77, s225_80, s225_81, s225_82, s225_83, s225_84, s225_85, s225_88, s225_89, s225_90, s225_91, s225_94, s225_95, s225_96, s225_99, s225_100, s225_101, s225_104, s225_107, s225_108, s225_109, s225_112, s225_113, s225_114, s225_115, s225_116, s225_119, s225_120, s225_121, s225_124, s225_125, s225_126, s225_129, s225_130, s225_131, s225_132, s225_133, s225_136, s225_137, s225_138, s225_139, s225_140, s225_143, s225_144, s225_145, s225_146, s225_147, s225_150, s225_152, s225_153, k1, k2, k3, b2, hin, hmay, qbt, (hnp o).2.1, (qn_c (1) (by omega)).1, (qn_c (1) (by omega)).2, List.length_cons, List.length_nil, Nat.zero_le, Nat.reduceAdd, Nat.reduceLeDiff, Option.bind_some, qx_kn_v, qx_kn_n, Nat.add_zero, Bool.false_eq_true, ↓reduceIte]
    · refine qPair_of hR 0 (nI (qb_pc q)) (by decide) ?_ (fun o => ⟨nI (qb_pc q), ?_, fun _ => rfl⟩)
      · simp only [s97_0, s97_1, s97_4, s97_5, s97_6, s97_8, s97_11, s97_12, s97_15, s97_18i, s97_18r, s97_18n, s97_19, s97_20_0, s97_20_1, s97_20_2, s97_20_3, s97_20_4, s97_20_5, s97_20_6, s97_20_7, s97_20_8, s97_20_9, s97_20_10, s97_76, s97_77, s97_80, s97_81, s97_82, s97_85, s97_86, s97_87, s97_90, s97_91, s97_92, s97_95, s97_96, s97_97, s97_100, s97_101, s97_102, s97_105, s97_106, s97_107, s97_108, s97_109, s97_112, s97_113, s97_114, s97_117, s97_120, s97_121, s97_122, s97_125, s97_128, s97_129, s97_130, s97_133, s97_136, s97_137, s97_138, s97_141, s97_144, s97_145, s97_146, s97_149, s97_152, qx_m10, qx_T100.1, hP.1, hneed, hrange, show M.1 101 2 = nI q from hu.2.2.1, m334, qb_bc_ok hq2, List.length_cons, List.length_nil, Nat.zero_le, Nat.reduceAdd, Nat.reduceLeDiff, Option.bind_some, qx_kn_v, qx_kn_n, Nat.add_zero, Bool.false_eq_true, ↓reduceIte]
      · simp only [s225_0, s225_1, s225_2, s225_5, s225_6, s225_7, s225_9, s225_12, s225_15, s225_18, s225_19, s225_20, s225_21_0, s225_21_1, s225_21_2, s225_21_3, s225_21_4, s225_21_5, s225_21_6, s225_21_7, s225_21_8, s225_21_9, s225_21_10, s225_76, s225_77, s225_80, s225_81, s225_82, s225_83, s225_84, s225_85, s225_88, s225_89, s225_90, s225_91, s225_94, s225_95, s225_96, s225_99, s225_100, s225_101, s225_104, s225_107, s225_108, s225_109, s225_112, s225_113, s225_114, s225_115, s225_116, s225_119, s225_120, s225_121, s225_124, s225_125, s225_126, s225_129, s225_130, s225_131, s225_132, s225_133, s225_136, s225_137, s225_138, s225_139, s225_140, s225_143, s225_144, s225_145, s225_146, s225_147, s225_150, s225_152, s225_153, k1, k2, k3, b2, hin, hmay, qbt, (hnp o).2.2.1, m209 hq2, (qn_c (2) (by omega)).1, (qn_c (2) (by omega)).2, List.length_cons, List.length_nil, Nat.zero_le, Nat.reduceAdd, Nat.reduceLeDiff, Option.bind_some, qx_kn_v, qx_kn_n, Nat.add_zero, Bool.false_eq_true, ↓reduceIte]
    · refine qPair_of hR 0 s1 (by decide) ?_ (fun o => ⟨s1, ?_, fun _ => rfl⟩)
      · simp only [s97_0, s97_1, s97_4, s97_5, s97_6, s97_8, s97_11, s97_12, s97_15, s97_18i, s97_18r, s97_18n, s97_19, s97_20_0, s97_20_1, s97_20_2, s97_20_3, s97_20_4, s97_20_5, s97_20_6, s97_20_7, s97_20_8, s97_20_9, s97_20_10, s97_76, s97_77, s97_80, s97_81, s97_82, s97_85, s97_86, s97_87, s97_90, s97_91, s97_92, s97_95, s97_96, s97_97, s97_100, s97_101, s97_102, s97_105, s97_106, s97_107, s97_108, s97_109, s97_112, s97_113, s97_114, s97_117, s97_120, s97_121, s97_122, s97_125, s97_128, s97_129, s97_130, s97_133, s97_136, s97_137, s97_138, s97_141, s97_144, s97_145, s97_146, s97_149, s97_152, qx_m10, qx_T100.1, hP.1, hneed, hrange, a1, List.length_cons, List.length_nil, Nat.zero_le, Nat.reduceAdd, Nat.reduceLeDiff, Option.bind_some, qx_kn_v, qx_kn_n, Nat.add_zero, Bool.false_eq_true, ↓reduceIte]
      · simp only [s225_0, s225_1, s225_2, s225_5, s225_6, s225_7, s225_9, s225_12, s225_15, s225_18, s225_19, s225_20, s225_21_0, s225_21_1, s225_21_2, s225_21_3, s225_21_4, s225_21_5, s225_21_6, s225_21_7, s225_21_8, s225_21_9, s225_21_10, s225_76, s225_77, s225_80, s225_81, s225_82, s225_83, s225_84, s225_85, s225_88, s225_89, s225_90, s225_91, s225_94, s225_95, s225_96, s225_99, s225_100, s225_101, s225_104, s225_107, s225_108, s225_109, s225_112, s225_113, s225_114, s225_115, s225_116, s225_119, s225_120, s225_121, s225_124, s225_125, s225_126, s225_129, s225_130, s225_131, s225_132, s225_133, s225_136, s225_137, s225_138, s225_139, s225_140, s225_143, s225_144, s225_145, s225_146, s225_147, s225_150, s225_152, s225_153, k1, k2, k3, b2, hin, hmay, qbt, hst o, m1, (qn_c (3) (by omega)).1, (qn_c (3) (by omega)).2, List.length_cons, List.length_nil, Nat.zero_le, Nat.reduceAdd, Nat.reduceLeDiff, Option.bind_some, qx_kn_v, qx_kn_n, Nat.add_zero, Bool.false_eq_true, ↓reduceIte]
    · refine qPair_of hR 0 s2 (by decide) ?_ (fun o => ⟨s2, ?_, fun _ => rfl⟩)
      · simp only [s97_0, s97_1, s97_4, s97_5, s97_6, s97_8, s97_11, s97_12, s97_15, s97_18i, s97_18r, s97_18n, s97_19, s97_20_0, s97_20_1, s97_20_2, s97_20_3, s97_20_4, s97_20_5, s97_20_6, s97_20_7, s97_20_8, s97_20_9, s97_20_10, s97_76, s97_77, s97_80, s97_81, s97_82, s97_85, s97_86, s97_87, s97_90, s97_91, s97_92, s97_95, s97_96, s97_97, s97_100, s97_101, s97_102, s97_105, s97_106, s97_107, s97_108, s97_109, s97_112, s97_113, s97_114, s97_117, s97_120, s97_121, s97_122, s97_125, s97_128, s97_129, s97_130, s97_133, s97_136, s97_137, s97_138, s97_141, s97_144, s97_145, s97_146, s97_149, s97_152, qx_m10, qx_T100.1, hP.1, hneed, hrange, a2, List.length_cons, List.length_nil, Nat.zero_le, Nat.reduceAdd, Nat.reduceLeDiff, Option.bind_some, qx_kn_v, qx_kn_n, Nat.add_zero, Bool.false_eq_true, ↓reduceIte]
      · simp only [s225_0, s225_1, s225_2, s225_5, s225_6, s225_7, s225_9, s225_12, s225_15, s225_18, s225_19, s225_20, s225_21_0, s225_21_1, s225_21_2, s225_21_3, s225_21_4, s225_21_5, s225_21_6, s225_21_7, s225_21_8, s225_21_9, s225_21_10, s225_76, s225_77, s225_80, s225_81, s225_82, s225_83, s225_84, s225_85, s225_88, s225_89, s225_90, s225_91, s225_94, s225_95, s225_96, s225_99, s225_100, s225_101, s225_104, s225_107, s225_108, s225_109, s225_112, s225_113, s225_114, s225_115, s225_116, s225_119, s225_120, s225_121, s225_124, s225_125, s225_126, s225_129, s225_130, s225_131, s225_132, s225_133, s225_136, s225_137, s225_138, s225_139, s225_140, s225_143, s225_144, s225_145, s225_146, s225_147, s225_150, s225_152, s225_153, k1, k2, k3, b2, hin, hmay, qbt, hst o, m2, (qn_c (4) (by omega)).1, (qn_c (4) (by omega)).2, List.length_cons, List.length_nil, Nat.zero_le, Nat.reduceAdd, Nat.reduceLeDiff, Option.bind_some, qx_kn_v, qx_kn_n, Nat.add_zero, Bool.false_eq_true, ↓reduceIte]
    · refine qPair_of hR 0 s3 (by decide) ?_ (fun o => ⟨s3, ?_, fun _ => rfl⟩)
      · simp only [s97_0, s97_1, s97_4, s97_5, s97_6, s97_8, s97_11, s97_12, s97_15, s97_18i, s97_18r, s97_18n, s97_19, s97_20_0, s97_20_1, s97_20_2, s97_20_3, s97_20_4, s97_20_5, s97_20_6, s97_20_7, s97_20_8, s97_20_9, s97_20_10, s97_76, s97_77, s97_80, s97_81, s97_82, s97_85, s97_86, s97_87, s97_90, s97_91, s97_92, s97_95, s97_96, s97_97, s97_100, s97_101, s97_102, s97_105, s97_106, s97_107, s97_108, s97_109, s97_112, s97_113, s97_114, s97_117, s97_120, s97_121, s97_122, s97_125, s97_128, s97_129, s97_130, s97_133, s97_136, s97_137, s97_138, s97_141, s97_144, s97_145, s97_146, s97_149, s97_152, qx_m10, qx_T100.1, hP.1, hneed, hrange, a3, List.length_cons, List.length_nil, Nat.zero_le, Nat.reduceAdd, Nat.reduceLeDiff, Option.bind_some, qx_kn_v, qx_kn_n, Nat.add_zero, Bool.false_eq_true, ↓reduceIte]
      · simp only [s225_0, s225_1, s225_2, s225_5, s225_6, s225_7, s225_9, s225_12, s225_15, s225_18, s225_19, s225_20, s225_21_0, s225_21_1, s225_21_2, s225_21_3, s225_21_4, s225_21_5, s225_21_6, s225_21_7, s225_21_8, s225_21_9, s225_21_10, s225_76, s225_77, s225_80, s225_81, s225_82, s225_83, s225_84, s225_85, s225_88, s225_89, s225_90, s225_91, s225_94, s225_95, s225_96, s225_99, s225_100, s225_101, s225_104, s225_107, s225_108, s225_109, s225_112, s225_113, s225_114, s225_115, s225_116, s225_119, s225_120, s225_121, s225_124, s225_125, s225_126, s225_129, s225_130, s225_131, s225_132, s225_133, s225_136, s225_137, s225_138, s225_139, s225_140, s225_143, s225_144, s225_145, s225_146, s225_147, s225_150, s225_152, s225_153, k1, k2, k3, b2, hin, hmay, qbt, hst o, m3, (qn_c (5) (by omega)).1, (qn_c (5) (by omega)).2, List.length_cons, List.length_nil, Nat.zero_le, Nat.reduceAdd, Nat.reduceLeDiff, Option.bind_some, qx_kn_v, qx_kn_n, Nat.add_zero, Bool.false_eq_true, ↓reduceIte]
    · refine qPair_of hR 0 s4 (by decide) ?_ (fun o => ⟨s4, ?_, fun _ => rfl⟩)
      · simp only [s97_0, s97_1, s97_4, s97_5, s97_6, s97_8, s97_11, s97_12, s97_15, s97_18i, s97_18r, s97_18n, s97_19, s97_20_0, s97_20_1, s97_20_2, s97_20_3, s97_20_4, s97_20_5, s97_20_6, s97_20_7, s97_20_8, s97_20_9, s97_20_10, s97_76, s97_77, s97_80, s97_81, s97_82, s97_85, s97_86, s97_87, s97_90, s97_91, s97_92, s97_95, s97_96, s97_97, s97_100, s97_101, s97_102, s97_105, s97_106, s97_107, s97_108, s97_109, s97_112, s97_113, s97_114, s97_117, s97_120, s97_121, s97_122, s97_125, s97_128, s97_129, s97_130, s97_133, s97_136, s97_137, s97_138, s97_141, s97_144, s97_145, s97_146, s97_149, s97_152, qx_m10, qx_T100.1, hP.1, hneed, hrange, a4, List.length_cons, List.length_nil, Nat.zero_le, Nat.reduceAdd, Nat.reduceLeDiff, Option.bind_some, qx_kn_v, qx_kn_n, Nat.add_zero, Bool.false_eq_true, ↓reduceIte]
      · simp only [s225_0, s225_1, s225_2, s225_5, s225_6, s225_7, s225_9, s225_12, s225_15, s225_18, s225_19, s225_20, s225_21_0, s225_21_1, s225_21_2, s225_21_3, s225_21_4, s225_21_5, s225_21_6, s225_21_7, s225_21_8, s225_21_9, s225_21_10, s225_76, s225_77, s225_80, s225_81, s225_82, s225_83, s225_84, s225_85, s225_88, s225_89, s225_90, s225_91, s225_94, s225_95, s225_96, s225_99, s225_100, s225_101, s225_104, s225_107, s225_108, s225_109, s225_112, s225_113, s225_114, s225_115, s225_116, s225_119, s225_120, s225_121, s225_124, s225_125, s225_126, s225_129, s225_130, s225_131, s225_132, s225_133, s225_136, s225_137, s225_138, s225_139, s225_140, s225_143, s225_144, s225_145, s225_146, s225_147, s225_150, s225_152, s225_153, k1, k2, k3, b2, hin, hmay, qbt, hst o, m4, (qn_c (6) (by omega)).1, (qn_c (6) (by omega)).2, List.length_cons, List.length_nil, Nat.zero_le, Nat.reduceAdd, Nat.reduceLeDiff, Option.bind_some, qx_kn_v, qx_kn_n, Nat.add_zero, Bool.false_eq_true, ↓reduceIte]
theorem j98 {M : qxM} (hR : qREL M) (z : Int32) (y : Int32) : qPair L xs (d + 40) 98 [some (.ref 10), some (.int z), some (.int y), none] 228 [some (.ref 400), some (.int z), some (.int y)] ke021 M := by
  obtain ⟨k1, k2, k3⟩ := qx_m400
  rcases qREL_cmp hR with ⟨b1, b2, b3, b4⟩ | ⟨b1, b2, n, r, q, f, mt, s1, s2, s3, s4, st, rt, sp, bm, ou, inn, qb, e, as, qa, bs, lk, nr, fr, wy, hp, hn1, hT, hou, hinn, he14, hst4, hu, ⟨a1, a2, a3, a4⟩, hS, hm, ⟨m1, m2, m3, m4⟩, h35, hN⟩
  · refine qPair_of hR 1 0 (by decide) ?_ ?_
    · rw [if_neg (by decide)]
      simp only [s98_0, s98_1, s98_2, s98_5, s98_6, s98_7, s98_8, qx_m10, a160t b1, List.length_cons, List.length_nil, Nat.zero_le, Nat.reduceAdd, Nat.reduceLeDiff, Option.bind_some, qx_kn_v, qx_kn_n, Nat.add_zero, Bool.false_eq_true, ↓reduceIte]
      exact qx_kn_t rfl rfl rfl
    · intro o
      refine ⟨nI 0, ?_, fun h => absurd h (by decide)⟩
      have h1 := fun (d : Nat) => a211 (L := L) (xs := xs) (d := d) (x := 0) (M := (M.1, o)) b3 (by decide) z
      have h2 := fun (d : Nat) => a178k (L := L) (xs := xs) (d := d) (x := 0) (M := (M.1, o)) (k := 3) (by decide) y
      have h3 := fun (d : Nat) => c180a (L := L) (xs := xs) (d := d) (x := 0) (M := (M.1, o)) (!decide (qOut 0 z)) (!decide (qOut (3 + 1) y))
      simp only [Nat.reduceAdd] at h2 h3
      simp only [s228_0, s228_1, s228_2, s228_5, s228_6, s228_7, s228_10, s228_11, s228_12, s228_13, s228_16, s228_19, s228_22, s228_23, k1, b2, h1, h2, h3, bI_z, qbf, qi_z0, true_or, List.length_cons, List.length_nil, Nat.zero_le, Nat.reduceAdd, Nat.reduceLeDiff, Option.bind_some, qx_kn_v, qx_kn_n, Nat.add_zero, Bool.false_eq_true, ↓reduceIte]
  · have hn14 : n ≤ 14 := hp.1
    have hn0 : M.1 101 0 = nI n := hu.1
    have hZ : qx_Z 104 := qx_T100.2.2
    have hP : qx_P 101 := qx_T100.2.1
    have hst0 : M.1 104 0 = nI st := hS.1.1
    by_cases hz : qOut n z
    · refine qPair_of hR 2 0 (by decide) ?_ ?_
      · rw [if_neg (by decide)]
        simp only [s98_0, s98_1, s98_2, s98_5, s98_6, s98_7, s98_8, qx_m10, a160o b1 hn0 hz, List.length_cons, List.length_nil, Nat.zero_le, Nat.reduceAdd, Nat.reduceLeDiff, Option.bind_some, qx_kn_v, qx_kn_n, Nat.add_zero, Bool.false_eq_true, ↓reduceIte]
        exact qx_kn_t rfl rfl rfl
      · intro o
        refine ⟨nI 0, ?_, fun h => absurd h (by decide)⟩
        have h1 := fun (d : Nat) => a211 (L := L) (xs := xs) (d := d) (x := 0) (M := (M.1, o)) hm.1 hn14 z
        rw [decide_eq_true hz] at h1
        have h2 := fun (d : Nat) => a178k (L := L) (xs := xs) (d := d) (x := 0) (M := (M.1, o)) (k := 3) (by decide) y
        have h3 := fun (d : Nat) => c180b (L := L) (xs := xs) (d := d) (x := 0) (M := (M.1, o)) (!decide (qOut (3 + 1) y))
        simp only [Nat.reduceAdd] at h2 h3
        simp only [s228_0, s228_1, s228_2, s228_5, s228_6, s228_7, s228_10, s228_11, s228_12, s228_13, s228_16, s228_19, s228_22, s228_23, k1, b2, h1, h2, h3, Bool.not_true, qbt, qbf, qi_z0, true_or, List.length_cons, List.length_nil, Nat.zero_le, Nat.reduceAdd, Nat.reduceLeDiff, Option.bind_some, qx_kn_v, qx_kn_n, Nat.add_zero, Bool.false_eq_true, ↓reduceIte]
    obtain ⟨p, p1, p2⟩ := qOut_not (by omega) hz
    subst p2
    have hp14 : p < 14 := by omega
    have hneed := fun (d x : Nat) => a160 (L := L) (xs := xs) (d := d) (x := x) b1 hn0 hn14 p1
    by_cases hy : qOut (3 + 1) y
    · refine qPair_of hR 3 0 (by decide) ?_ ?_
      · rw [if_neg (by decide)]
        simp only [s98_0, s98_1, s98_2, s98_5, s98_6, s98_7, s98_8, qx_m10, hneed, a162t (k := 3) (by decide) hy, List.length_cons, List.length_nil, Nat.zero_le, Nat.reduceAdd, Nat.reduceLeDiff, Option.bind_some, qx_kn_v, qx_kn_n, Nat.add_zero, Bool.false_eq_true, ↓reduceIte]
        exact qx_kn_t rfl rfl rfl
      · intro o
        refine ⟨nI 0, ?_, fun h => absurd h (by decide)⟩
        have h1 := fun (d : Nat) => a211 (L := L) (xs := xs) (d := d) (x := 0) (M := (M.1, o)) hm.1 hn14 (nI p)
        rw [decide_eq_false hz] at h1
        have h2 := fun (d : Nat) => a178k (L := L) (xs := xs) (d := d) (x := 0) (M := (M.1, o)) (k := 3) (by decide) y
        rw [decide_eq_true hy] at h2
        have h3 := fun (d : Nat) => c180c (L := L) (xs := xs) (d := d) (x := 0) (M := (M.1, o))
        simp only [s228_0, s228_1, s228_2, s228_5, s228_6, s228_7, s228_10, s228_11, s228_12, s228_13, s228_16, s228_19, s228_22, s228_23, k1, b2, h1, h2, h3, Bool.not_true, Bool.not_false, qbt, qbf, qi_z0, true_or, List.length_cons, List.length_nil, Nat.zero_le, Nat.reduceAdd, Nat.reduceLeDiff, Option.bind_some, qx_kn_v, qx_kn_n, Nat.add_zero, Bool.false_eq_true, ↓reduceIte]
    obtain ⟨p0, p3, p4⟩ := qOut_not (by decide) hy
    subst p4
    have hrange := fun (d x : Nat) => a162 (L := L) (xs := xs) (d := d) (x := x) (M := M) (k := 3) (p := p0) (by decide) (by omega)
    have hpu := fun (o : (Nat → Int64) × (Nat → UInt64)) (d : Nat) => show Rs L xs (d + 1) 211 0 [some (.ref 400), some (.int (nI p))] [] (M.1, o) 0 = some (.inl (some (.int (bI true))), (M.1, o), 0) by
      have h := a211 (L := L) (xs := xs) (d := d) (x := 0) (M := (M.1, o)) hm.1 hn14 (nI p)
      rw [decide_eq_false hz] at h
      exact h
    have hin := fun (o : (Nat → Int64) × (Nat → UInt64)) (d : Nat) => show Rs L xs d 178 0 [some (.int (nI p0)), some (.int (nI 0)), some (.int (nI 3))] [] (M.1, o) 0 = some (.inl (some (.int (bI true))), (M.1, o), 0) by
      have h := a178k (L := L) (xs := xs) (d := d) (x := 0) (M := (M.1, o)) (k := 3) (by decide) (nI p0)
      rw [decide_eq_false hy] at h
      exact h
    have hmay := fun (o : (Nat → Int64) × (Nat → UInt64)) (d : Nat) => c180d (L := L) (xs := xs) (d := d) (x := 0) (M := (M.1, o))
    have hb6 : ∀ o : (Nat → Int64) × (Nat → UInt64), (M.1, o).1 400 6 = bI true := fun o => b2
    have hq2 := hp.2.2.1
    have hf14 := qp_f14 hp hp14
    have hal := qp_al_lt (r := r) (k := q) (p := p) hf14
    have hnp : ∀ o : (Nat → Int64) × (Nat → UInt64), nPu (qx_up (M.1, o) 400 0 (nI 0)) n r q f mt := fun o => hm
    have e1 : M.1 102 p = nI (f p) := hu.2.2.2.1 p hp14
    have e2 : M.1 103 p = qz (mt p) := hu.2.2.2.2 p hp14
    have hl : p0 = 0 ∨ p0 = 1 ∨ p0 = 2 ∨ p0 = 3 := by omega
    rcases hl with e | e | e | e <;> subst e
    · refine qPair_of hR 0 (bI (q.testBit p)) (by decide) ?_ (fun o => ⟨bI (q.testBit p), ?_, fun _ => rfl⟩)
      · simp only [s98_0, s98_1, s98_2, s98_5, s98_6, s98_7, s98_8, s98_11, s98_12, s98_15, s98_18i, s98_18r, s98_18n, s98_19, s98_20_0, s98_20_1, s98_20_2, s98_20_3, s98_48, s98_49, s98_50, s98_53, s98_54, s98_55, s98_56, s98_59, s98_62, s98_63, s98_64, s98_65, s98_68, s98_71, s98_72, s98_73, s98_74, s98_77, qx_m10, qx_T100.1, hP.1, hneed, hrange, m37 hP hp14 hu.2.2.1 hq2, List.length_cons, List.length_nil, Nat.zero_le, Nat.reduceAdd, Nat.reduceLeDiff, Option.bind_some, qx_kn_v, qx_kn_n, Nat.add_zero, Bool.false_eq_true, ↓reduceIte]
      · simp only [s228_0, s228_1, s228_2, s228_5, s228_6, s228_7, s228_10, s228_11, s228_12, s228_13, s228_16, s228_19, s228_22, s228_23, s228_24, s228_25_0, s228_25_1, s228_25_2, s228_25_3, s228_52, s228_53, s228_56, s228_57, s228_58, s228_59, s228_62, s228_65, s228_66, s228_67, s228_70, s228_72, s228_73, s228_74, s228_75, s228_78, s228_79, s228_80, s228_81, s228_84, s228_87, s228_88, s228_89, s228_90, s228_93, k1, k2, k3, b2, hpu, hin, hmay, qbt, (hnp o).2.2.1, m208 (show q < 2 ^ 31 by omega) (show p < 31 by omega), m179, (qn_c (2) (by omega)).1, (qn_c (2) (by omega)).2, List.length_cons, List.length_nil, Nat.zero_le, Nat.reduceAdd, Nat.reduceLeDiff, Option.bind_some, qx_kn_v, qx_kn_n, Nat.add_zero, Bool.false_eq_true, ↓reduceIte]
    · refine qPair_of hR 0 (nI (qb_pc (f p))) (by decide) ?_ (fun o => ⟨nI (qb_pc (f p)), ?_, fun _ => rfl⟩)
      · simp only [s98_0, s98_1, s98_2, s98_5, s98_6, s98_7, s98_8, s98_11, s98_12, s98_15, s98_18i, s98_18r, s98_18n, s98_19, s98_20_0, s98_20_1, s98_20_2, s98_20_3, s98_48, s98_49, s98_50, s98_53, s98_54, s98_55, s98_56, s98_59, s98_62, s98_63, s98_64, s98_65, s98_68, s98_71, s98_72, s98_73, s98_74, s98_77, qx_m10, qx_T100.1, hP.1, hneed, hrange, m39 hP hp14, e1, m334, qb_bc_ok hf14, List.length_cons, List.length_nil, Nat.zero_le, Nat.reduceAdd, Nat.reduceLeDiff, Option.bind_some, qx_kn_v, qx_kn_n, Nat.add_zero, Bool.false_eq_true, ↓reduceIte]
      · simp only [s228_0, s228_1, s228_2, s228_5, s228_6, s228_7, s228_10, s228_11, s228_12, s228_13, s228_16, s228_19, s228_22, s228_23, s228_24, s228_25_0, s228_25_1, s228_25_2, s228_25_3, s228_52, s228_53, s228_56, s228_57, s228_58, s228_59, s228_62, s228_65, s228_66, s228_67, s228_70, s228_72, s228_73, s228_74, s228_75, s228_78, s228_79, s228_80, s228_81, s228_84, s228_87, s228_88, s228_89, s228_90, s228_93, k1, k2, k3, nI_add, b2, hpu, hin, hmay, qbt, (hnp o).2.2.2.1 p hp14, m209 hf14, (qn_c (7 + p) (by omega)).1, (qn_c (7 + p) (by omega)).2, List.length_cons, List.length_nil, Nat.zero_le, Nat.reduceAdd, Nat.reduceLeDiff, Option.bind_some, qx_kn_v, qx_kn_n, Nat.add_zero, Bool.false_eq_true, ↓reduceIte]
    · refine qPair_of hR 0 (nI (qb_pc (qp_al r q (f p) p))) (by decide) ?_ (fun o => ⟨nI (qb_pc (qp_al r q (f p) p)), ?_, fun _ => rfl⟩)
      · simp only [s98_0, s98_1, s98_2, s98_5, s98_6, s98_7, s98_8, s98_11, s98_12, s98_15, s98_18i, s98_18r, s98_18n, s98_19, s98_20_0, s98_20_1, s98_20_2, s98_20_3, s98_48, s98_49, s98_50, s98_53, s98_54, s98_55, s98_56, s98_59, s98_62, s98_63, s98_64, s98_65, s98_68, s98_71, s98_72, s98_73, s98_74, s98_77, qx_m10, qx_T100.1, hP.1, hneed, hrange, m42 hP hp14 hp.2.1 hu.2.1 hu.2.2.1 hq2 (hu.2.2.2.1 p hp14), m334, qb_bc_ok hal, List.length_cons, List.length_nil, Nat.zero_le, Nat.reduceAdd, Nat.reduceLeDiff, Option.bind_some, qx_kn_v, qx_kn_n, Nat.add_zero, Bool.false_eq_true, ↓reduceIte]
      · simp only [s228_0, s228_1, s228_2, s228_5, s228_6, s228_7, s228_10, s228_11, s228_12, s228_13, s228_16, s228_19, s228_22, s228_23, s228_24, s228_25_0, s228_25_1, s228_25_2, s228_25_3, s228_52, s228_53, s228_56, s228_57, s228_58, s228_59, s228_62, s228_65, s228_66, s228_67, s228_70, s228_72, s228_73, s228_74, s228_75, s228_78, s228_79, s228_80, s228_81, s228_84, s228_87, s228_88, s228_89, s228_90, s228_93, k1, b2, hpu, hin, hmay, qbt, m220 hp14 (hnp o).1 hn14 ((hnp o).2.2.2.1 p hp14) (hp.2.2.2.1 p hp14).1 (hnp o).2.1 hp.2.1 (hnp o).2.2.1 hq2, m209 hal, List.length_cons, List.length_nil, Nat.zero_le, Nat.reduceAdd, Nat.reduceLeDiff, Option.bind_some, qx_kn_v, qx_kn_n, Nat.add_zero, Bool.false_eq_true, ↓reduceIte]
    · refine qPair_of hR 0 (qz (mt p)) (by decide) ?_ (fun o => ⟨qz (mt p), ?_, fun _ => rfl⟩)
      · simp only [s98_0, s98_1, s98_2, s98_5, s98_6, s98_7, s98_8, s98_11, s98_12, s98_15, s98_18i, s98_18r, s98_18n, s98_19, s98_20_0, s98_20_1, s98_20_2, s98_20_3, s98_48, s98_49, s98_50, s98_53, s98_54, s98_55, s98_56, s98_59, s98_62, s98_63, s98_64, s98_65, s98_68, s98_71, s98_72, s98_73, s98_74, s98_77, qx_m10, qx_T100.1, hP.1, hneed, hrange, m46 hP hp14, e2, List.length_cons, List.length_nil, Nat.zero_le, Nat.reduceAdd, Nat.reduceLeDiff, Option.bind_some, qx_kn_v, qx_kn_n, Nat.add_zero, Bool.false_eq_true, ↓reduceIte]
      · simp only [s228_0, s228_1, s228_2, s228_5, s228_6, s228_7, s228_10, s228_11, s228_12, s228_13, s228_16, s228_19, s228_22, s228_23, s228_24, s228_25_0, s228_25_1, s228_25_2, s228_25_3, s228_52, s228_53, s228_56, s228_57, s228_58, s228_59, s228_62, s228_65, s228_66, s228_67, s228_70, s228_72, s228_73, s228_74, s228_75, s228_78, s228_79, s228_80, s228_81, s228_84, s228_87, s228_88, s228_89, s228_90, s228_93, k1, b2, hpu, hin, hmay, qbt, m213 hp14, (hnp o).2.2.2.2 p hp14, List.length_cons, List.length_nil, Nat.zero_le, Nat.reduceAdd, Nat.reduceLeDiff, Option.bind_some, qx_kn_v, qx_kn_n, Nat.add_zero, Bool.false_eq_true, ↓reduceIte]
end QL
