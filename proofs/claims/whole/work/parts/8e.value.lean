/-! valueOf. -/
section QK
variable {al : Nat → Nat}
theorem qP_00 : ∀ t, qP al t 0 0 = 1
  | 0 => rfl
  | t + 1 => by
    rw [qP_out (by rw [Nat.zero_testBit]; decide)]
    exact qP_00 t
theorem qv_0 : qv al 0 = 1 := by
  unfold qv mW
  rw [F_0, qP_00]
end QK
/-- where a value is kept -/
def qpl (s : Nat) (z : Int32) : Prop := z = -1 ∨ (z = nI (s / 4) ∧ 4 * (s / 4) = s)
section QL
variable {L : Nat} {xs : Nat → Int32} {al : Nat → Nat} {st : Nat}
theorem m7i {d n s p dep : Nat} {pl : Int32} (he : ∀ a b, a < 14 → b < 14 → qe al a b = qe al b a) (hal : ∀ p, p < 14 → al p < 16384) (hs : s < 16384) (hp : s.testBit p = true) (hp14 : p < 14) (hpc : qb_pc s ≤ n + 1) (hd : dep + qb_pc s ≤ 14)
    (ih : ∀ (s1 : Nat) (M : qxM), qb_pc s1 ≤ n → s1 < 16384 → dep + 1 + qb_pc s1 ≤ 14 → qTc al st M → ∃ M', Rs L xs (d + n + 2) 7 0 [some (.ref 40), some (.int (nI s1)), some (.int (nI (dep + 1))), none, none, none, none, none, none] [] M 0 = some (.inl (some (.int (nI (qv al s1)))), M', 0) ∧ qTc al st M' ∧ qf qMm M M') :
    ∀ (k i : Nat) (x : Nat) (M : qxM) (m w : Nat), i + k = 14 → Tp (pt al (qd s p) (fun q => (qd s p &&& al p).testBit q && decide (q < i))) m w → qTc al st M →
      ∃ M' m1 w1, Rs L xs (d + n + 2 + 1) 7 95 [some (.ref 40), some (.int (nI s)), some (.int (nI dep)), some (.int pl), some (.int (nI p)), some (.int (nI (qd s p))), some (.int (nI (qd s p &&& al p))), some (.int (nI (1048576 * m + w))), some (.int (nI i))] [] M x =
        Rs L xs (d + n + 2 + 1) 7 145 [some (.ref 40), some (.int (nI s)), some (.int (nI dep)), some (.int pl), some (.int (nI p)), some (.int (nI (qd s p))), some (.int (nI (qd s p &&& al p))), some (.int (nI (1048576 * m1 + w1))), some (.int (nI 14))] [] M' x ∧
        Tp (pt al (qd s p) (fun q => (qd s p &&& al p).testBit q)) m1 w1 ∧ qTc al st M' ∧ qf qMm M M' := by
  have hlt : qd s p &&& al p < 16384 := Nat.lt_of_le_of_lt Nat.and_le_left (qd_14 hs)
  have hcin : ∀ q, (qd s p &&& al p).testBit q = true → (qe al p q && (qd s p).testBit q) = true := fun q h => by
    rw [Nat.testBit_and, Bool.and_eq_true] at h
    rw [Bool.and_eq_true]
    exact ⟨h.2, h.1⟩
  intro k
  induction k with
  | zero =>
    intro i x M m w hi hT hM
    have e : i = 14 := by omega
    subst e
    have h1 : (nI 14 ≤ nI 14) = True := eq_true (Int32.le_refl _)
    refine ⟨M, m, w, ?_, ?_, hM, qf_refl _ _⟩
    · simp only [s7_95, s7_97, s7_99, h1, ↓reduceIte]
    · refine pt_cong hT (fun q hq => ?_)
      rw [decide_eq_true hq, Bool.and_true]
  | succ k ihk =>
    intro i x M m w hi hT hM
    have h1 : ¬ nI 14 ≤ nI i := nI_ge (by omega) (by decide)
    have hb := m170 (L := L) (xs := xs) (d := d + n + 2) (x := 0) (M := M) (show qd s p &&& al p < 2 ^ 31 by omega) (show i < 31 by omega)
    have hi1 : nI i + nI 1 = nI (i + 1) := nI_add _ _
    by_cases z : (qd s p &&& al p).testBit i = true
    · rw [z] at hb
      have hqi := (Bool.and_eq_true _ _ ▸ hcin i z)
      have p1 := qd_pc hp hp14
      have p2 := qd_pc hqi.2 (by omega)
      obtain ⟨M1, g1, c1, f1⟩ := ih (qd (qd s p) i) M (by omega) (qd_14 (qd_14 hs)) (by omega) hM
      have g1' : Rs L xs (d + n + 2) 7 0 [some (.ref 40), some (.int (nI (qb_dif (qd s p) (2 ^ i)))), some (.int (nI (dep + 1))), none, none, none, none, none, none] [] M 0 = some (.inl (some (.int (nI (qv al (qd (qd s p) i))))), M1, 0) := g1
      have e8 : nI (qv al (qd (qd s p) i)) + nI 1048576 = nI (1048576 * (mF al (qd (qd s p) i) + 1) + mW al (qd (qd s p) i)) := by
        rw [nI_add]
        congr 1
        unfold qv
        omega
      have hdp : nI dep + nI 1 = nI (dep + 1) := nI_add _ _
      have hmw := pt_le he hs hp hT (fun q _ w => hcin q (Bool.and_eq_true _ _ ▸ w).1)
      have hF7 := F_7 (al := al) (qd_14 (v := i) (qd_14 (v := p) hs))
      have h8 := m8 (L := L) (xs := xs) (d := d + n + 2) (x := 0) (M := M1) (m := m) (w := w) (m1 := mF al (qd (qd s p) i) + 1) (w1 := mW al (qd (qd s p) i)) (by omega) hmw.2 (by omega) (W_lt (qd_14 (qd_14 hs)))
      obtain ⟨M2, m2, w2, g2, t2, c2, f2⟩ := ihk (i + 1) x M1 _ _ (by omega) (pt_add (qd_14 hs) (show i < 14 by omega) hT (c1 := fun q => (qd s p &&& al p).testBit q && decide (q < i + 1)) (by rw [decide_eq_false (Nat.lt_irrefl i), Bool.and_false]) (by rw [z, decide_eq_true (Nat.lt_succ_self i)]; rfl) (fun q _ hn => by
        rw [decide_eq_decide.mpr (show q < i + 1 ↔ q < i by omega)])) c1
      refine ⟨M2, m2, w2, ?_, t2, c2, qf_trans f1 f2⟩
      simp only [s7_95, s7_97, s7_99, s7_102, s7_104, s7_106, s7_109, s7_112, s7_114, s7_115, s7_117, s7_119, s7_122, s7_123, s7_124, s7_125, s7_126, s7_127, s7_128, s7_131, s7_133, s7_134, s7_137i, s7_137r, s7_137n, s7_139i, s7_139r, s7_139n, h1, hb, qbt, m169 (show i < 31 by omega), qb_andn, hdp, g1', e8, h8, hi1, List.length_cons, List.length_nil, Nat.zero_le, Nat.reduceAdd, Nat.reduceLeDiff, Option.bind_some, qx_kn_v, qx_kn_n, Nat.add_zero, Bool.false_eq_true, ↓reduceIte]
      rw [s7_142, g2]
    · have zf : (qd s p &&& al p).testBit i = false := by simpa using z
      rw [zf] at hb
      obtain ⟨M2, m2, w2, g2, t2, c2, f2⟩ := ihk (i + 1) x M m w (by omega) (pt_cong hT (fun q hq => by
        by_cases e : q = i
        · rw [e, zf]
          rfl
        · rw [decide_eq_decide.mpr (show q < i + 1 ↔ q < i by omega)])) hM
      refine ⟨M2, m2, w2, ?_, t2, c2, f2⟩
      simp only [s7_95, s7_97, s7_99, s7_102, s7_104, s7_106, s7_109, s7_112, s7_114, s7_115, s7_117, s7_119, s7_122, s7_123, s7_124, s7_125, s7_126, s7_127, s7_128, s7_131, s7_133, s7_134, s7_137i, s7_137r, s7_137n, s7_139i, s7_139r, s7_139n, h1, hb, qbf, hi1, List.length_cons, List.length_nil, Nat.zero_le, Nat.reduceAdd, Nat.reduceLeDiff, Option.bind_some, qx_kn_v, qx_kn_n, Nat.add_zero, Bool.false_eq_true, ↓reduceIte]
      rw [s7_142, g2]
theorem qTc_put {M : qxM} {s j : Nat} (hM : qTc al st M) (hj : 4 * j = s) : qTc al st (qx_up (qx_up M 42 j (nI (qv al s))) 43 j (nI st)) := by
  obtain ⟨h1, h2, h3⟩ := hM
  refine ⟨fun p hp => ?_, ?_, fun i hi => ?_⟩
  · rw [qx_up_ne _ _ _ (by decide), qx_up_ne _ _ _ (by decide), h1 p hp]
  · rw [qx_up_ne _ _ _ (by decide), qx_up_ne _ _ _ (by decide), h2]
  · by_cases e : i = j
    · refine ⟨st, Nat.le_refl _, ?_, fun _ => ?_⟩
      · rw [qx_up_at, if_pos ⟨rfl, e⟩]
      · rw [qx_up_ne _ _ _ (by decide), qx_up_at, if_pos ⟨rfl, e⟩, e, hj]
    · obtain ⟨t, t1, t2, t3⟩ := h3 i hi
      refine ⟨t, t1, ?_, fun ht => ?_⟩
      · rw [qx_up_at, if_neg (fun w => e w.2), qx_up_ne _ _ _ (by decide), t2]
      · rw [qx_up_ne _ _ _ (by decide), qx_up_at, if_neg (fun w => e w.2), t3 ht]
theorem m7 (he : ∀ a b, a < 14 → b < 14 → qe al a b = qe al b a) (hal : ∀ p, p < 14 → al p < 16384) (hst : st < 100000) : ∀ (n d s dep x : Nat) (M : qxM), qb_pc s ≤ n → s < 16384 → dep + qb_pc s ≤ 14 → qTc al st M →
    ∃ M', Rs L xs (d + n + 2) 7 0 [some (.ref 40), some (.int (nI s)), some (.int (nI dep)), none, none, none, none, none, none] [] M x = some (.inl (some (.int (nI (qv al s)))), M', x) ∧ qTc al st M' ∧ qf qMm M M' := by
  obtain ⟨k1, k2, k3, k4, k5, k6, k7⟩ := qx_m40
  have hzero : ∀ (D dep x : Nat) (M : qxM), Rs L xs D 7 0 [some (.ref 40), some (.int (nI 0)), some (.int (nI dep)), none, none, none, none, none, none] [] M x = some (.inl (some (.int (nI (qv al 0)))), M, x) := by
    intro D dep x M
    rw [qv_0]
    simp only [s7_0, s7_1, s7_4, s7_5, s7_7, s7_10, s7_11, qi_z0, ↓reduceIte]
  intro n
  induction n with
  | zero =>
    intro d s dep x M hn hs hd hM
    have h0 : s = 0 := qb_pc0 hs (fun j y => absurd (qd_pc y (qj hs y)) (by omega))
    subst h0
    exact ⟨M, hzero _ _ _ _, hM, qf_refl _ _⟩
  | succ n ih =>
    intro d s dep x M hn hs hd hM
    by_cases h0 : s = 0
    · subst h0
      exact ⟨M, hzero _ _ _ _, hM, qf_refl _ _⟩
    rw [show d + (n + 1) + 2 = d + n + 2 + 1 by omega]
    have z0 : ¬ nI s = 0 := nI_ne0 (by omega) (by omega)
    have hdep : nI dep ≤ nI 14 := nI_le (by omega) (by decide)
    have h3 : nI s &&& nI 3 = nI (s % 4) := fa_mask s 2
    have hshr : nI s >>> (nI 2 &&& 31) = nI (s / 4) := qb_shr (by omega) (by decide)
    obtain ⟨l1, l2, l3, l4, l5⟩ := qb_lw_ok hs (Nat.pos_of_ne_zero h0)
    -- behind the look into the memo
    have back : ∀ pl, qpl s pl → ∃ M', Rs L xs (d + n + 2 + 1) 7 50 [some (.ref 40), some (.int (nI s)), some (.int (nI dep)), some (.int pl), none, none, none, none, none] [] M x = some (.inl (some (.int (nI (qv al s)))), M', x) ∧ qTc al st M' ∧ qf qMm M M' := by
      intro pl hpl
      have p1 := qd_pc l2 l1
      obtain ⟨M1, g1, c1, f1⟩ := ih d (qd s (qb_lo s)) (dep + 1) 0 M (by omega) (qd_14 hs) (by omega) hM
      have g1' : Rs L xs (d + n + 2) 7 0 [some (.ref 40), some (.int (nI (qb_dif s (2 ^ qb_lo s)))), some (.int (nI (dep + 1))), none, none, none, none, none, none] [] M 0 = some (.inl (some (.int (nI (1048576 * mF al (qd s (qb_lo s)) + mW al (qd s (qb_lo s)))))), M1, 0) := g1
      have h171 := m171 (L := L) (xs := xs) (d := d + n + 1) (x := 0) (M := M) hs (Nat.pos_of_ne_zero h0)
      have h9 := m9 (L := L) (xs := xs) (d := d + n + 2) (x := 0) (M := M) l1 (hM.1 _ l1)
      have hdp : nI dep + nI 1 = nI (dep + 1) := nI_add _ _
      have hlp : nI (qb_lo s) + nI 1 = nI (qb_lo s + 1) := nI_add _ _
      have hlow : ∀ q, q < qb_lo s + 1 → (qd s (qb_lo s) &&& al (qb_lo s)).testBit q = false := fun q hq => by
        rw [Nat.testBit_and, qd_bit]
        by_cases e : q = qb_lo s
        · rw [decide_eq_true e.symm, Bool.not_true, Bool.and_false, Bool.false_and]
        · rw [show s.testBit q = false from fa_first_no s.testBit 14 q (show q < qb_lo s by omega), Bool.false_and, Bool.false_and]
      obtain ⟨M2, m2, w2, g2, t2, c2, f2⟩ := m7i (pl := pl) (d := d) he hal hs l2 l1 hn hd (fun s1 M a b c e => ih d s1 (dep + 1) 0 M a b c e) (14 - (qb_lo s + 1)) (qb_lo s + 1) x M1 _ _ (by omega) (pt_0 (qd_14 hs) (fun q hq => by
        by_cases e : q < qb_lo s + 1
        · rw [hlow q e, Bool.false_and]
        · rw [decide_eq_false e, Bool.and_false])) c1
      obtain ⟨e1, e2⟩ := pt_end he hs l2 t2 (fun q _ => by rw [Nat.testBit_and, Bool.and_comm]; rfl)
      subst e1 e2
      have g2' : Rs L xs (d + n + 2 + 1) 7 95 [some (.ref 40), some (.int (nI s)), some (.int (nI dep)), some (.int pl), some (.int (nI (qb_lo s))), some (.int (nI (qb_dif s (2 ^ qb_lo s)))), some (.int (nI (qb_dif s (2 ^ qb_lo s) &&& al (qb_lo s)))), some (.int (nI (1048576 * mF al (qd s (qb_lo s)) + mW al (qd s (qb_lo s))))), some (.int (nI (qb_lo s + 1)))] [] M1 x = Rs L xs (d + n + 2 + 1) 7 145 [some (.ref 40), some (.int (nI s)), some (.int (nI dep)), some (.int pl), some (.int (nI (qb_lo s))), some (.int (nI (qd s (qb_lo s)))), some (.int (nI (qd s (qb_lo s) &&& al (qb_lo s)))), some (.int (nI (qv al s))), some (.int (nI 14))] [] M2 x := g2
      have go : Rs L xs (d + n + 2 + 1) 7 50 [some (.ref 40), some (.int (nI s)), some (.int (nI dep)), some (.int pl), none, none, none, none, none] [] M x = Rs L xs (d + n + 2 + 1) 7 95 [some (.ref 40), some (.int (nI s)), some (.int (nI dep)), some (.int pl), some (.int (nI (qb_lo s))), some (.int (nI (qb_dif s (2 ^ qb_lo s)))), some (.int (nI (qb_dif s (2 ^ qb_lo s) &&& al (qb_lo s)))), some (.int (nI (1048576 * mF al (qd s (qb_lo s)) + mW al (qd s (qb_lo s))))), some (.int (nI (qb_lo s + 1)))] [] M1 x := by
        simp only [s7_50, s7_51, s7_54i, s7_54r, s7_54n, s7_56, s7_57, s7_59, s7_62, s7_63, s7_64, s7_65i, s7_65r, s7_65n, s7_67, s7_69, s7_70, s7_72, s7_75, s7_76i, s7_76r, s7_76n, s7_78, s7_79, s7_81, s7_82, s7_83, s7_84, s7_87i, s7_87r, s7_87n, s7_89, s7_91, s7_92, s7_93i, s7_93r, s7_93n, k1, h171, m169 (show qb_lo s < 31 by omega), qb_andn, h9, fa_and, hdp, hlp, g1', List.length_cons, List.length_nil, Nat.zero_le, Nat.reduceAdd, Nat.reduceLeDiff, Option.bind_some, qx_kn_v, qx_kn_n, Nat.add_zero, Bool.false_eq_true, ↓reduceIte]
      rcases hpl with hpl | ⟨hpl, hj⟩
      · subst hpl
        refine ⟨M2, ?_, c2, qf_trans f1 f2⟩
        rw [go, g2']
        simp only [s7_145, s7_146, s7_149, s7_150, s7_152, s7_155, s7_156, s7_159, s7_160, s7_161, s7_164, s7_167, s7_169, k1, m174n, List.length_cons, List.length_nil, Nat.zero_le, Nat.reduceAdd, Nat.reduceLeDiff, Option.bind_some, qx_kn_v, qx_kn_n, Nat.add_zero, Bool.false_eq_true, ↓reduceIte]
      · subst hpl
        have hj4 : s / 4 < 4096 := by omega
        refine ⟨_, ?_, qTc_put c2 hj, qf_trans f1 (qf_trans f2 (qf_trans (qf_up _ _ _ _ (Or.inl rfl)) (qf_up _ _ _ _ (Or.inr rfl))))⟩
        have hst4 : (qx_up M2 42 (s / 4) (nI (qv al s))).1 40 4 = nI st := by
          rw [qx_up_ne _ _ _ (by decide)]
          exact c2.2.1
        rw [go, g2']
        simp only [s7_145, s7_146, s7_149, s7_150, s7_152, s7_155, s7_156, s7_159, s7_160, s7_161, s7_164, s7_167, s7_169, k1, hst4, m174 k4 k5 hj4 (by decide), m174 k6 k7 hj4 (by decide), List.length_cons, List.length_nil, Nat.zero_le, Nat.reduceAdd, Nat.reduceLeDiff, Option.bind_some, qx_kn_v, qx_kn_n, Nat.add_zero, Bool.false_eq_true, ↓reduceIte]
    by_cases h4 : s % 4 = 0
    · have e3 : (nI (s % 4) = 0) = True := by rw [h4]; exact qi_z0
      have hj4 : s / 4 < 4096 := by omega
      obtain ⟨t, t1, t2, t3⟩ := hM.2.2 (s / 4) hj4
      have a1 := fun (d : Nat) => m173 (L := L) (xs := xs) (d := d) (x := 0) (M := M) k6 k7 hj4 (by decide)
      have a2 := fun (d : Nat) => m173 (L := L) (xs := xs) (d := d) (x := 0) (M := M) k4 k5 hj4 (by decide)
      have a5 : (nI t = nI st) = (t = st) := qi_eq (by omega) (by omega)
      by_cases e : t = st
      · have t4 := t3 e
        rw [show 4 * (s / 4) = s by omega] at t4
        refine ⟨M, ?_, hM, qf_refl _ _⟩
        simp only [s7_0, s7_1, s7_4, s7_5, s7_7, s7_10, s7_11, s7_12, s7_13, s7_14, s7_15, s7_18, s7_19, s7_20, s7_21, s7_24, s7_25i, s7_25r, s7_25n, s7_26, s7_27, s7_30, s7_31, s7_34, s7_35, s7_38, s7_41, s7_42, s7_45, s7_46, s7_49, z0, hdep, h3, e3, hshr, k1, a1, a2, t2, hM.2.1, a5, e, t4, List.length_cons, List.length_nil, Nat.zero_le, Nat.reduceAdd, Nat.reduceLeDiff, Option.bind_some, qx_kn_v, qx_kn_n, Nat.add_zero, Bool.false_eq_true, ↓reduceIte]
      · obtain ⟨M', g, c, f⟩ := back (nI (s / 4)) (Or.inr ⟨rfl, by omega⟩)
        refine ⟨M', ?_, c, f⟩
        rw [← g]
        simp only [s7_0, s7_1, s7_4, s7_5, s7_7, s7_10, s7_11, s7_12, s7_13, s7_14, s7_15, s7_18, s7_19, s7_20, s7_21, s7_24, s7_25i, s7_25r, s7_25n, s7_26, s7_27, s7_30, s7_31, s7_34, s7_35, s7_38, s7_41, s7_42, s7_45, s7_46, s7_49, z0, hdep, h3, e3, hshr, k1, a1, t2, hM.2.1, a5, e, List.length_cons, List.length_nil, Nat.zero_le, Nat.reduceAdd, Nat.reduceLeDiff, Option.bind_some, qx_kn_v, qx_kn_n, Nat.add_zero, Bool.false_eq_true, ↓reduceIte]
    · have e3 : ¬ nI (s % 4) = 0 := nI_ne0 (by omega) (by omega)
      have a1 := fun (d : Nat) => m173n (L := L) (xs := xs) (d := d) (x := 0) (M := M) (t := 43)
      have a2 : ¬ (-1 : Int32) = nI st := fun w => absurd (show nI st < 0 by rw [← w]; decide) (nI_pos (by omega))
      obtain ⟨M', g, c, f⟩ := back (-1) (Or.inl rfl)
      refine ⟨M', ?_, c, f⟩
      rw [← g]
      simp only [s7_0, s7_1, s7_4, s7_5, s7_7, s7_10, s7_11, s7_12, s7_13, s7_14, s7_15, s7_18, s7_19, s7_20, s7_21, s7_24, s7_25i, s7_25r, s7_25n, s7_26, s7_27, s7_30, s7_31, s7_34, s7_35, s7_38, s7_41, s7_42, s7_45, s7_46, s7_49, z0, hdep, h3, e3, k1, a1, hM.2.1, a2, List.length_cons, List.length_nil, Nat.zero_le, Nat.reduceAdd, Nat.reduceLeDiff, Option.bind_some, qx_kn_v, qx_kn_n, Nat.add_zero, Bool.false_eq_true, ↓reduceIte]
end QL
