/-! Sets and parts: the class. -/
/-- who may stay free; who is next to these -/
def qLo (al : Nat → Nat) (all : Nat) : Nat := qb_of (fun p => all.testBit p && decide (mF al (qd all p) = mF al all)) 14
def qBa (al : Nat → Nat) (lo : Nat) : Nat := qb_of (fun p => !lo.testBit p && !decide (al p &&& lo = 0)) 14
theorem qLo_lt {al : Nat → Nat} {all : Nat} : qLo al all < 16384 := qb_of_lt14 _ (Nat.le_refl _)
theorem qBa_lt {al : Nat → Nat} {lo : Nat} : qBa al lo < 16384 := qb_of_lt14 _ (Nat.le_refl _)
theorem qd_dd (s v : Nat) : qd (qd s v) v = qd s v := qd_out (qd_self s v)
/-- the parts, odd ones or all -/
noncomputable def ow (al : Nat → Nat) (o : Bool) : Nat → Nat → Nat
  | 0, _ => 0
  | k + 1, s => if s = 0 then 0 else (if o then qb_pc (co al s (qb_lo s)) % 2 else 1) + ow al o k (qb_dif s (co al s (qb_lo s)))
theorem ow_od (al : Nat → Nat) : ∀ k s, ow al true k s = od al k s
  | 0, _ => rfl
  | k + 1, s => by
    unfold ow od
    rw [ow_od al k, if_pos rfl]
theorem ow_le (al : Nat → Nat) (o : Bool) : ∀ k s, ow al o k s ≤ k
  | 0, _ => Nat.le_refl _
  | k + 1, s => by
    unfold ow
    have := ow_le al o k (qb_dif s (co al s (qb_lo s)))
    split
    · omega
    · split <;> omega
theorem pc_or {a b : Nat} (h : ∀ j, a.testBit j = true → ¬ b.testBit j = true) : qb_pc (a ||| b) = qb_pc a + qb_pc b := by
  unfold qb_pc
  rw [← fb_ct_or (fun k _ w => h k w.1 w.2)]
  exact fb_ct_cong (fun k _ => Nat.testBit_or _ _ _)
theorem qi_mod2 {c : Nat} (h : c < 2 ^ 31) : nI c - nI c / nI 2 * nI 2 = nI (c % 2) := by
  rw [pk_div h (by decide) (by decide), pk_mul, pk_sub (by omega)]
  congr 1
  omega
theorem qi_eq0 {a : Nat} (h : a < 2 ^ 31) : (nI a = 0) = (a = 0) := by
  rw [← nI_0]
  exact qi_eq h (by decide)
theorem fa_first_is {p : Nat → Bool} {i n : Nat} (hi : i < n) (h : p i = true) (h0 : ∀ j, j < i → p j = false) : fa_first p n = i := by
  rcases Nat.lt_trichotomy (fa_first p n) i with q | q | q
  · have := fa_first_yes p n (by omega)
    rw [h0 _ q] at this
    cases this
  · exact q
  · have := fa_first_no p n i q
    rw [h] at this
    cases this
theorem fa_first_out {p : Nat → Bool} {n : Nat} (h : ∀ j, j < n → p j = false) : fa_first p n = n := by
  refine Nat.le_antisymm (fa_first_le p n) (Nat.le_of_not_lt (fun y => ?_))
  have := fa_first_yes p n y
  rw [h _ y] at this
  cases this
section QL
variable {L : Nat} {xs : Nat → Int32} {al : Nat → Nat} {st all : Nat}
theorem m10l {d : Nat} (ha : qAl al) (hst : st < 100000) (hs : all < 16384) : ∀ (k i x : Nat) (M : qxM), i + k = 14 → qTs al st all M →
    ∃ M', Rs L xs (d + 19) 10 9 [some (.ref (40)), some (.int (nI (mF al all))), some (.int (nI (qb_of (fun p => all.testBit p && decide (mF al (qd all p) = mF al all)) i))), some (.int (nI i))] [] (M) x = some (.inl (some (.int (nI (qLo al all)))), M', x) ∧ qTs al st all M' ∧ qf qMm M M' := by
  intro k
  induction k with
  | zero =>
    intro i x M hi hT
    have e : i = 14 := by omega
    subst e
    have h1 : (nI 14 ≤ nI 14) = True := eq_true (Int32.le_refl _)
    refine ⟨M, ?_, hT, qf_refl _ _⟩
    simp only [s10_9, s10_10, s10_12, s10_49, s10_50, qx_m40, h1, ↓reduceIte]
    rfl
  | succ k ih =>
    intro i x M hi hT
    have h1 : ¬ nI 14 ≤ nI i := nI_ge (by omega) (by decide)
    have hb := m170 (L := L) (xs := xs) (d := d + 18) (x := 0) (M := M) (show all < 2 ^ 31 by omega) (show i < 31 by omega)
    have hi1 : nI i + nI 1 = nI (i + 1) := nI_add _ _
    by_cases z : all.testBit i = true
    · rw [z] at hb
      obtain ⟨M1, g1, c1, f1⟩ := m3 (L := L) (xs := xs) (d := d) (x := 0) (a := i) (b := i) ha hst hs (by omega) (by omega) hT
      rw [qd_dd] at g1
      obtain ⟨M2, g2, c2, f2⟩ := ih (i + 1) x M1 (by omega) c1
      rw [qb_of] at g2
      have e : (nI (mF al (qd all i)) = nI (mF al all)) = (mF al (qd all i) = mF al all) := qi_eq (by have := F_7 (al := al) (qd_14 (v := i) hs); omega) (by have := F_7 (al := al) hs; omega)
      refine ⟨M2, ?_, c2, qf_trans f1 f2⟩
      by_cases y : mF al (qd all i) = mF al all
      · rw [z, decide_eq_true y, Bool.true_and, if_pos rfl] at g2
        simp only [s10_9, s10_10, s10_12, s10_15, s10_16, s10_19, s10_20, s10_23, s10_26, s10_27, s10_28, s10_29, s10_32, s10_33, s10_36, s10_37, s10_38, s10_41, s10_42i, s10_42r, s10_42n, s10_43i, s10_43r, s10_43n, qx_m40, hT.2, h1, hb, qbt, g1, e, y, m169 (show i < 31 by omega), qb_or, hi1, List.length_cons, List.length_nil, Nat.zero_le, Nat.reduceAdd, Nat.reduceLeDiff, Option.bind_some, qx_kn_v, qx_kn_n, Nat.add_zero, Bool.false_eq_true, ↓reduceIte]
        rw [s10_46, g2]
      · rw [decide_eq_false y, Bool.and_false, if_neg (by decide), Nat.or_zero] at g2
        simp only [s10_9, s10_10, s10_12, s10_15, s10_16, s10_19, s10_20, s10_23, s10_26, s10_27, s10_28, s10_29, s10_32, s10_33, s10_36, s10_37, s10_38, s10_41, s10_42i, s10_42r, s10_42n, s10_43i, s10_43r, s10_43n, qx_m40, hT.2, h1, hb, qbt, g1, e, y, hi1, List.length_cons, List.length_nil, Nat.zero_le, Nat.reduceAdd, Nat.reduceLeDiff, Option.bind_some, qx_kn_v, qx_kn_n, Nat.add_zero, Bool.false_eq_true, ↓reduceIte]
        rw [s10_46, g2]
    · have zf : all.testBit i = false := by simpa using z
      rw [zf] at hb
      obtain ⟨M2, g2, c2, f2⟩ := ih (i + 1) x M (by omega) hT
      rw [qb_of, zf, Bool.false_and, if_neg (by decide), Nat.or_zero] at g2
      refine ⟨M2, ?_, c2, f2⟩
      simp only [s10_9, s10_10, s10_12, s10_15, s10_16, s10_19, s10_20, s10_23, s10_26, s10_27, s10_28, s10_29, s10_32, s10_33, s10_36, s10_37, s10_38, s10_41, s10_42i, s10_42r, s10_42n, s10_43i, s10_43r, s10_43n, qx_m40, hT.2, h1, hb, qbf, hi1, List.length_cons, List.length_nil, Nat.zero_le, Nat.reduceAdd, Nat.reduceLeDiff, Option.bind_some, qx_kn_v, qx_kn_n, Nat.add_zero, Bool.false_eq_true, ↓reduceIte]
      rw [s10_46, g2]
theorem m10 {d x : Nat} {M : qxM} (ha : qAl al) (hst : st < 100000) (hs : all < 16384) (hT : qTs al st all M) : ∃ M', Rs L xs (d + 19) 10 0 [some (.ref (40)), none, none, none] [] (M) x = some (.inl (some (.int (nI (qLo al all)))), M', x) ∧ qTs al st all M' ∧ qf qMm M M' := by
  obtain ⟨M1, g1, c1, f1⟩ := m1 (L := L) (xs := xs) (d := d) (x := 0) ha hst hs hT
  obtain ⟨M2, g2, c2, f2⟩ := m10l (L := L) (xs := xs) (d := d) ha hst hs 14 0 x M1 (by omega) c1
  refine ⟨M2, ?_, c2, qf_trans f1 f2⟩
  simp only [s10_0, s10_1, s10_4i, s10_4r, s10_4n, s10_5, s10_6i, s10_6r, s10_6n, s10_7, s10_8i, s10_8r, s10_8n, qx_m40, g1, List.length_cons, List.length_nil, Nat.zero_le, Nat.reduceAdd, Nat.reduceLeDiff, Option.bind_some, qx_kn_v, qx_kn_n, Nat.add_zero, Bool.false_eq_true, ↓reduceIte]
  exact g2
theorem m11l {d lo : Nat} {M : qxM} (ha : qAl al) (hl : lo < 16384) (hT : ∀ p, p < 14 → M.1 41 p = nI (al p)) : ∀ (k i x : Nat), i + k = 14 →
    Rs L xs (d + 1) 11 4 [some (.ref (40)), some (.int (nI lo)), some (.int (nI (qb_of (fun p => !lo.testBit p && !decide (al p &&& lo = 0)) i))), some (.int (nI i))] [] (M) x = some (.inl (some (.int (nI (qBa al lo)))), M, x) := by
  intro k
  induction k with
  | zero =>
    intro i x hi
    have e : i = 14 := by omega
    subst e
    have h1 : (nI 14 ≤ nI 14) = True := eq_true (Int32.le_refl _)
    simp only [s11_4, s11_5, s11_7, s11_41, s11_42, qx_m40, h1, ↓reduceIte]
    rfl
  | succ k ih =>
    intro i x hi
    have hi14 : i < 14 := by omega
    have h1 : ¬ nI 14 ≤ nI i := nI_ge (by omega) (by decide)
    have hb := m170 (L := L) (xs := xs) (d := d) (x := 0) (M := M) (show lo < 2 ^ 31 by omega) (show i < 31 by omega)
    have h9 := m9 (L := L) (xs := xs) (d := d) (x := 0) (M := M) hi14 (hT i hi14)
    have hi1 : nI i + nI 1 = nI (i + 1) := nI_add _ _
    have g2 := ih (i + 1) x (by omega)
    rw [qb_of] at g2
    by_cases z : lo.testBit i = true
    · rw [z] at hb
      rw [z, Bool.not_true, Bool.false_and, if_neg (by decide), Nat.or_zero] at g2
      simp only [s11_4, s11_5, s11_7, s11_10, s11_11, s11_12, s11_15, s11_18, s11_19, s11_20, s11_23, s11_24, s11_25, s11_28, s11_29, s11_30, s11_33, s11_34i, s11_34r, s11_34n, s11_35i, s11_35r, s11_35n, qx_m40, h1, hb, qbt, hi1, List.length_cons, List.length_nil, Nat.zero_le, Nat.reduceAdd, Nat.reduceLeDiff, Option.bind_some, qx_kn_v, qx_kn_n, Nat.add_zero, Bool.false_eq_true, ↓reduceIte]
      rw [s11_38, g2]
    · have zf : lo.testBit i = false := by simpa using z
      rw [zf] at hb
      have e : (nI (al i &&& lo) = 0) = (al i &&& lo = 0) := qi_eq0 (Nat.lt_of_le_of_lt Nat.and_le_right (by omega))
      by_cases y : al i &&& lo = 0
      · rw [decide_eq_true y, Bool.not_true, Bool.and_false, if_neg (by decide), Nat.or_zero] at g2
        simp only [s11_4, s11_5, s11_7, s11_10, s11_11, s11_12, s11_15, s11_18, s11_19, s11_20, s11_23, s11_24, s11_25, s11_28, s11_29, s11_30, s11_33, s11_34i, s11_34r, s11_34n, s11_35i, s11_35r, s11_35n, qx_m40, h1, hb, qbf, h9, fa_and, e, y, qi_z0, hi1, List.length_cons, List.length_nil, Nat.zero_le, Nat.reduceAdd, Nat.reduceLeDiff, Option.bind_some, qx_kn_v, qx_kn_n, Nat.add_zero, Bool.false_eq_true, ↓reduceIte]
        rw [s11_38, g2]
      · rw [zf, decide_eq_false y, Bool.not_false, Bool.true_and, if_pos rfl] at g2
        simp only [s11_4, s11_5, s11_7, s11_10, s11_11, s11_12, s11_15, s11_18, s11_19, s11_20, s11_23, s11_24, s11_25, s11_28, s11_29, s11_30, s11_33, s11_34i, s11_34r, s11_34n, s11_35i, s11_35r, s11_35n, qx_m40, h1, hb, qbf, h9, fa_and, e, y, m169 (show i < 31 by omega), qb_or, hi1, List.length_cons, List.length_nil, Nat.zero_le, Nat.reduceAdd, Nat.reduceLeDiff, Option.bind_some, qx_kn_v, qx_kn_n, Nat.add_zero, Bool.false_eq_true, ↓reduceIte]
        rw [s11_38, g2]
theorem m11 {d x lo : Nat} {M : qxM} (ha : qAl al) (hl : lo < 16384) (hT : ∀ p, p < 14 → M.1 41 p = nI (al p)) : Rs L xs (d + 1) 11 0 [some (.ref (40)), some (.int (nI lo)), none, none] [] (M) x = some (.inl (some (.int (nI (qBa al lo)))), M, x) := by
  have g := m11l (L := L) (xs := xs) (d := d) ha hl hT 14 0 x (by omega)
  simp only [s11_0, s11_1i, s11_1r, s11_1n, s11_2, s11_3i, s11_3r, s11_3n]
  exact g
/-- paired in some -/
def qUs (al : Nat → Nat) (all a b : Nat) : Bool := qe al a b && decide (mF al (qd (qd all a) b) + 1 = mF al all)
def qNd (al : Nat → Nat) (all a b : Nat) : Bool := qUs al all a b && decide (mW al (qd (qd all a) b) = mW al all)
theorem m12 {d x a b : Nat} {M : qxM} (ha : qAl al) (hst : st < 100000) (hs : all < 16384) (hp : a < 14) (hb : b < 14) (hT : qTs al st all M) : ∃ M', Rs L xs (d + 19) 12 0 [some (.ref (40)), some (.int (nI a)), some (.int (nI b))] [] (M) x = some (.inl (some (.int (bI (qUs al all a b)))), M', x) ∧ qTs al st all M' ∧ qf qMm M M' := by
  have h9 := m9 (L := L) (xs := xs) (d := d + 18) (x := 0) (M := M) hp (hT.1.1 a hp)
  have h170 := m170 (L := L) (xs := xs) (d := d + 18) (x := 0) (M := M) (show al a < 2 ^ 31 by have := ha.2 a hp; omega) (show b < 31 by omega)
  unfold qUs qe
  by_cases z : (al a).testBit b = true
  · rw [z] at h170
    obtain ⟨M1, g1, c1, f1⟩ := m3 (L := L) (xs := xs) (d := d) (x := 0) (a := a) (b := b) ha hst hs hp hb hT
    obtain ⟨M2, g2, c2, f2⟩ := m1 (L := L) (xs := xs) (d := d) (x := 0) ha hst hs c1
    have e : (nI (mF al (qd (qd all a) b) + 1) = nI (mF al all)) = (mF al (qd (qd all a) b) + 1 = mF al all) := qi_eq (by have := F_7 (al := al) (qd_14 (v := b) (qd_14 (v := a) hs)); omega) (by have := F_7 (al := al) hs; omega)
    refine ⟨M2, ?_, c2, qf_trans f1 f2⟩
    by_cases y : mF al (qd (qd all a) b) + 1 = mF al all
    · simp only [s12_0, s12_1, s12_2, s12_5, s12_6, s12_9, s12_12, s12_13, s12_14, s12_15, s12_18, s12_19, s12_20, s12_21, s12_24, s12_27, s12_28, s12_31, s12_32, qx_m40, h9, h170, qbt, g1, g2, nI_add, e, y, z, decide_true, Bool.and_self, qx_z1, List.length_cons, List.length_nil, Nat.zero_le, Nat.reduceAdd, Nat.reduceLeDiff, Option.bind_some, qx_kn_v, qx_kn_n, Nat.add_zero, Bool.false_eq_true, ↓reduceIte]
      rfl
    · simp only [s12_0, s12_1, s12_2, s12_5, s12_6, s12_9, s12_12, s12_13, s12_14, s12_15, s12_18, s12_19, s12_20, s12_21, s12_24, s12_27, s12_28, s12_31, s12_32, qx_m40, h9, h170, qbt, g1, g2, nI_add, e, y, z, decide_false, Bool.and_false, qx_z0, List.length_cons, List.length_nil, Nat.zero_le, Nat.reduceAdd, Nat.reduceLeDiff, Option.bind_some, qx_kn_v, qx_kn_n, Nat.add_zero, Bool.false_eq_true, ↓reduceIte]
      rfl
  · have zf : (al a).testBit b = false := by simpa using z
    rw [zf] at h170
    refine ⟨M, ?_, hT, qf_refl _ _⟩
    simp only [s12_0, s12_1, s12_2, s12_5, s12_6, s12_9, s12_12, s12_13, s12_14, s12_15, s12_18, s12_19, s12_20, s12_21, s12_24, s12_27, s12_28, s12_31, s12_32, qx_m40, h9, h170, qbf, zf, Bool.false_and, qx_z0, List.length_cons, List.length_nil, Nat.zero_le, Nat.reduceAdd, Nat.reduceLeDiff, Option.bind_some, qx_kn_v, qx_kn_n, Nat.add_zero, Bool.false_eq_true, ↓reduceIte]
    rfl
theorem m13 {d x a b : Nat} {M : qxM} (ha : qAl al) (hst : st < 100000) (hs : all < 16384) (hp : a < 14) (hb : b < 14) (hT : qTs al st all M) : ∃ M', Rs L xs (d + 20) 13 0 [some (.ref (40)), some (.int (nI a)), some (.int (nI b))] [] (M) x = some (.inl (some (.int (bI (qNd al all a b)))), M', x) ∧ qTs al st all M' ∧ qf qMm M M' := by
  obtain ⟨M1, g1, c1, f1⟩ := m12 (L := L) (xs := xs) (d := d) (x := 0) ha hst hs hp hb hT
  unfold qNd
  cases z : qUs al all a b
  · rw [z] at g1
    refine ⟨M1, ?_, c1, f1⟩
    simp only [s13_0, s13_1, s13_2, s13_3, s13_6, s13_9, s13_10, s13_11, s13_12, s13_13, s13_16, s13_19, s13_20, s13_21, s13_24, s13_27, s13_30, s13_31, s13_34, s13_35, qx_m40, g1, qbf, Bool.false_and, qx_z0, List.length_cons, List.length_nil, Nat.zero_le, Nat.reduceAdd, Nat.reduceLeDiff, Option.bind_some, qx_kn_v, qx_kn_n, Nat.add_zero, Bool.false_eq_true, ↓reduceIte]
    rfl
  · rw [z] at g1
    have h4 := m4 (L := L) (xs := xs) (d := d + 18) (x := 0) (M := M1) hs c1.2 hp hb
    obtain ⟨M2, g2, c2, f2⟩ := m6 (L := L) (xs := xs) (d := d + 2) (x := 0) ha hst (qd_14 (v := b) (qd_14 (v := a) hs)) c1
    obtain ⟨M3, g3, c3, f3⟩ := m6 (L := L) (xs := xs) (d := d + 2) (x := 0) ha hst hs c2
    have e : (nI (mW al (qd (qd all a) b)) = nI (mW al all)) = (mW al (qd (qd all a) b) = mW al all) := qi_eq (by have := W_lt (al := al) (qd_14 (v := b) (qd_14 (v := a) hs)); omega) (by have := W_lt (al := al) hs; omega)
    refine ⟨M3, ?_, c3, qf_trans f1 (qf_trans f2 f3)⟩
    by_cases y : mW al (qd (qd all a) b) = mW al all
    · simp only [s13_0, s13_1, s13_2, s13_3, s13_6, s13_9, s13_10, s13_11, s13_12, s13_13, s13_16, s13_19, s13_20, s13_21, s13_24, s13_27, s13_30, s13_31, s13_34, s13_35, qx_m40, g1, qbt, h4, g2, c2.2, g3, e, y, decide_true, Bool.and_self, qx_z1, List.length_cons, List.length_nil, Nat.zero_le, Nat.reduceAdd, Nat.reduceLeDiff, Option.bind_some, qx_kn_v, qx_kn_n, Nat.add_zero, Bool.false_eq_true, ↓reduceIte]
      rfl
    · simp only [s13_0, s13_1, s13_2, s13_3, s13_6, s13_9, s13_10, s13_11, s13_12, s13_13, s13_16, s13_19, s13_20, s13_21, s13_24, s13_27, s13_30, s13_31, s13_34, s13_35, qx_m40, g1, qbt, h4, g2, c2.2, g3, e, y, decide_false, Bool.and_false, qx_z0, List.length_cons, List.length_nil, Nat.zero_le, Nat.reduceAdd, Nat.reduceLeDiff, Option.bind_some, qx_kn_v, qx_kn_n, Nat.add_zero, Bool.false_eq_true, ↓reduceIte]
      rfl
theorem m18l {d s : Nat} {M : qxM} (ha : qAl al) (hs : s < 16384) (hl : s.testBit (qb_lo s) = true) (hT : ∀ p, p < 14 → M.1 41 p = nI (al p)) : ∀ (k i x pa fr : Nat) (a5 : Option Value), i + k = 14 →
    (∀ j, pa.testBit j = true → s.testBit j = true) → pa.testBit (qb_lo s) = true → (∀ j, fr.testBit j = true → pa.testBit j = true) → (∀ j, pa.testBit j = true → Rc al s (qb_lo s) j) → (∀ u q, pa.testBit u = true → ¬ fr.testBit u = true → s.testBit q = true → qe al u q = true → pa.testBit q = true) → qb_pc pa = qb_pc fr + i →
    Rs L xs (d + 2) 18 10 [some (.ref 40), some (.int (nI s)), some (.int (nI pa)), some (.int (nI fr)), some (.int (nI i)), a5] [] M x = some (.inl (some (.int (nI (co al s (qb_lo s))))), M, x) := by
  have done : ∀ pa, (∀ j, pa.testBit j = true → s.testBit j = true) → pa.testBit (qb_lo s) = true → (∀ j, pa.testBit j = true → Rc al s (qb_lo s) j) → (∀ u q, pa.testBit u = true → s.testBit q = true → qe al u q = true → pa.testBit q = true) → pa = co al s (qb_lo s) :=
    fun pa h1 h2 h3 h4 => co_eq h2 (fun x hx => ⟨qj hs (h1 x hx), h3 x hx⟩) (fun u q a _ c e => h4 u q a c e)
  intro k
  induction k with
  | zero =>
    intro i x pa fr a5 hi i1 i2 i3 i4 i5 i6
    have e : i = 14 := by omega
    subst e
    have h1 : (nI 14 ≤ nI 14) = True := eq_true (Int32.le_refl _)
    have hfr : ∀ j, ¬ fr.testBit j = true := fun j y => by
      have a := qd_pc y (qj hs (i1 j (i3 j y)))
      have b := qb_pc_le pa
      omega
    rw [← done pa i1 i2 i4 (fun u q a c e => i5 u q a (hfr u) c e)]
    simp only [s18_10, s18_12, s18_14, s18_57, s18_58, qx_m40, h1, ↓reduceIte]
  | succ k ih =>
    intro i x pa fr a5 hi i1 i2 i3 i4 i5 i6
    have h1 : ¬ nI 14 ≤ nI i := nI_ge (by omega) (by decide)
    have hpa : pa < 16384 := qs_lt hs i1
    have hfr : fr < 16384 := qs_lt hpa i3
    by_cases z : fr = 0
    · subst z
      rw [← done pa i1 i2 i4 (fun u q a c e => i5 u q a (by rw [Nat.zero_testBit]; decide) c e)]
      simp only [s18_10, s18_12, s18_14, s18_17, s18_18, s18_57, s18_58, qx_m40, h1, qi_z0, ↓reduceIte]
    · have z0 : ¬ nI fr = 0 := nI_ne0 (by omega) (by omega)
      obtain ⟨l1, l2, l3, l4, l5⟩ := qb_lw_ok hfr (Nat.pos_of_ne_zero z)
      have h171 := m171 (L := L) (xs := xs) (d := d) (x := 0) (M := M) hfr (Nat.pos_of_ne_zero z)
      have h9 := m9 (L := L) (xs := xs) (d := d + 1) (x := 0) (M := M) l1 (hT _ l1)
      have hm1 : nI fr - nI 1 = nI (fr - 1) := pk_sub (by omega)
      have hi1 : nI i + nI 1 = nI (i + 1) := nI_add _ _
      have nin : ∀ j, (qb_dif (al (qb_lo fr) &&& s) pa).testBit j = true ↔ (qe al (qb_lo fr) j = true ∧ s.testBit j = true) ∧ ¬ pa.testBit j = true := fun j => by
        rw [qm_in, Nat.testBit_and, Bool.and_eq_true]
        rfl
      have fin : ∀ j, (qb_dif fr (2 ^ qb_lo fr) ||| qb_dif (al (qb_lo fr) &&& s) pa).testBit j = true ↔ (fr.testBit j = true ∧ qb_lo fr ≠ j) ∨ (qb_dif (al (qb_lo fr) &&& s) pa).testBit j = true := fun j => by
        rw [Nat.testBit_or, Bool.or_eq_true, show (qb_dif fr (2 ^ qb_lo fr)).testBit j = (qd fr (qb_lo fr)).testBit j from rfl, qd_in]
      have pin : ∀ j, (pa ||| qb_dif (al (qb_lo fr) &&& s) pa).testBit j = true ↔ pa.testBit j = true ∨ (qb_dif (al (qb_lo fr) &&& s) pa).testBit j = true := fun j => by
        rw [Nat.testBit_or, Bool.or_eq_true]
      have p1 : qb_pc (pa ||| qb_dif (al (qb_lo fr) &&& s) pa) = qb_pc pa + qb_pc (qb_dif (al (qb_lo fr) &&& s) pa) := pc_or (fun j a b => ((nin j).mp b).2 a)
      have p2 : qb_pc (qb_dif fr (2 ^ qb_lo fr) ||| qb_dif (al (qb_lo fr) &&& s) pa) = qb_pc (qb_dif fr (2 ^ qb_lo fr)) + qb_pc (qb_dif (al (qb_lo fr) &&& s) pa) := pc_or (fun j a b => ((nin j).mp b).2 (i3 j (qd_in.mp (show (qd fr (qb_lo fr)).testBit j = true from a)).1))
      have p3 : qb_pc (qb_dif fr (2 ^ qb_lo fr)) + 1 = qb_pc fr := qd_pc l2 l1
      have g := ih (i + 1) x (pa ||| qb_dif (al (qb_lo fr) &&& s) pa) (qb_dif fr (2 ^ qb_lo fr) ||| qb_dif (al (qb_lo fr) &&& s) pa) (some (.int (nI (qb_dif (al (qb_lo fr) &&& s) pa)))) (by omega)
        (fun j hj => by
          rcases (pin j).mp hj with y | y
          · exact i1 j y
          · exact ((nin j).mp y).1.2)
        ((pin _).mpr (Or.inl i2))
        (fun j hj => by
          rcases (fin j).mp hj with y | y
          · exact (pin j).mpr (Or.inl (i3 j y.1))
          · exact (pin j).mpr (Or.inr y))
        (fun j hj => by
          rcases (pin j).mp hj with y | y
          · exact i4 j y
          · intro D d1 d2
            exact d2 (qb_lo fr) j (i4 _ (i3 _ l2) D d1 d2) (i1 _ (i3 _ l2)) ((nin j).mp y).1.2 ((nin j).mp y).1.1)
        (fun u q a b c e => by
          have hu : pa.testBit u = true := by
            rcases (pin u).mp a with y | y
            · exact y
            · exact absurd ((fin u).mpr (Or.inr y)) b
          by_cases w : qb_lo fr = u
          · by_cases v : pa.testBit q = true
            · exact (pin q).mpr (Or.inl v)
            · exact (pin q).mpr (Or.inr ((nin q).mpr ⟨⟨w ▸ e, c⟩, v⟩))
          · exact (pin q).mpr (Or.inl (i5 u q hu (fun y => b ((fin u).mpr (Or.inl ⟨y, w⟩))) c e)))
        (by omega)
      simp only [s18_10, s18_12, s18_14, s18_17, s18_18, s18_21, s18_22, s18_23, s18_26, s18_29, s18_30, s18_31, s18_32, s18_33, s18_34, s18_35i, s18_35r, s18_35n, s18_37, s18_38, s18_39, s18_40, s18_41, s18_42, s18_44, s18_45i, s18_45r, s18_45n, s18_46, s18_47, s18_49, s18_50i, s18_50r, s18_50n, s18_51i, s18_51r, s18_51n, qx_m40, h1, z0, h171, h9, fa_and, qb_andn, hm1, l4, qb_or, hi1, List.length_cons, List.length_nil, Nat.zero_le, Nat.reduceAdd, Nat.reduceLeDiff, Option.bind_some, qx_kn_v, qx_kn_n, Nat.add_zero, Bool.false_eq_true, ↓reduceIte]
      rw [s18_54, g]
theorem m18 {d x s : Nat} {M : qxM} (ha : qAl al) (hs : s < 16384) (h0 : ¬ s = 0) (hT : ∀ p, p < 14 → M.1 41 p = nI (al p)) : Rs L xs (d + 2) 18 0 [some (.ref (40)), some (.int (nI s)), none, none, none, none] [] (M) x = some (.inl (some (.int (nI (co al s (qb_lo s))))), M, x) := by
  obtain ⟨l1, l2, l3, l4, l5⟩ := qb_lw_ok hs (Nat.pos_of_ne_zero h0)
  have hin : ∀ j, (2 ^ qb_lo s).testBit j = true → j = qb_lo s := fun j hj => by
    rw [qb_two, decide_eq_true_eq] at hj
    exact hj.symm
  have hself : (2 ^ qb_lo s).testBit (qb_lo s) = true := by rw [qb_two, decide_eq_true_eq]
  have g := m18l (L := L) (xs := xs) (d := d) (M := M) ha hs l2 hT 14 0 x (2 ^ qb_lo s) (2 ^ qb_lo s) none (by omega) (fun j hj => by rw [hin j hj]; exact l2) hself (fun j hj => hj) (fun j hj => by rw [hin j hj]; exact fun D h _ => h) (fun u q a b _ _ => absurd a b) (by omega)
  simp only [s18_0, s18_1, s18_2, s18_3, s18_4i, s18_4r, s18_4n, s18_5, s18_6i, s18_6r, s18_6n, s18_7, s18_8i, s18_8r, s18_8n, qx_m40, l3]
  exact g
theorem m17l {d : Nat} {M : qxM} {o : Bool} {s : Nat} (ha : qAl al) (hT : ∀ p, p < 14 → M.1 41 p = nI (al p)) : ∀ (k i x l c : Nat) (a6 : Option Value), i + k = 14 → l < 16384 → c ≤ i →
    Rs L xs (d + 3) 17 8 [some (.ref 40), some (.int (nI s)), some (.int (bI o)), some (.int (nI c)), some (.int (nI l)), some (.int (nI i)), a6] [] M x = some (.inl (some (.int (nI (c + ow al o k l)))), M, x) := by
  intro k
  induction k with
  | zero =>
    intro i x l c a6 hi hl hc
    have e : i = 14 := by omega
    subst e
    have h1 : (nI 14 ≤ nI 14) = True := eq_true (Int32.le_refl _)
    simp only [s17_8, s17_10, s17_12, s17_61, s17_62, qx_m40, h1, ↓reduceIte]
    rfl
  | succ k ih =>
    intro i x l c a6 hi hl hc
    have h1 : ¬ nI 14 ≤ nI i := nI_ge (by omega) (by decide)
    unfold ow
    by_cases z : l = 0
    · subst z
      rw [if_pos rfl]
      simp only [s17_8, s17_10, s17_12, s17_15, s17_17, s17_61, s17_62, qx_m40, h1, qi_z0, ↓reduceIte, Nat.add_zero]
    · rw [if_neg z]
      have z0 : ¬ nI l = 0 := nI_ne0 (by omega) (by omega)
      have h18 := m18 (L := L) (xs := xs) (d := d) (x := 0) (M := M) ha hl z hT
      have hC : co al l (qb_lo l) < 16384 := qs_lt hl (fun j => co_s (al := al) (lo_in hl z))
      have hi1 : nI i + nI 1 = nI (i + 1) := nI_add _ _
      have hc1 : nI c + nI 1 = nI (c + 1) := nI_add _ _
      have h2 : ¬ nI 2 = 0 := by decide
      have hmod := qi_mod2 (c := qb_pc (co al l (qb_lo l))) (by have := qb_pc_le (co al l (qb_lo l)); omega)
      have e1 : (nI (qb_pc (co al l (qb_lo l)) % 2) = nI 1) = (qb_pc (co al l (qb_lo l)) % 2 = 1) := qi_eq (by omega) (by decide)
      cases o with
      | false =>
        have g := ih (i + 1) x (qb_dif l (co al l (qb_lo l))) (c + 1) (some (.int (nI (co al l (qb_lo l))))) (by omega) (dif_14 hl) (by omega)
        rw [if_neg (by decide), ← Nat.add_assoc]
        simp only [s17_8, s17_10, s17_12, s17_15, s17_17, s17_20, s17_21, s17_23, s17_26i, s17_26r, s17_26n, s17_28, s17_30, s17_32, s17_33, s17_34, s17_35i, s17_35r, s17_35n, s17_37, s17_38, s17_41, s17_43, s17_46, s17_47, s17_48, s17_49, s17_52i, s17_52r, s17_52n, s17_55i, s17_55r, s17_55n, qx_m40, h1, z0, h18, qb_andn, qbf, hc1, hi1, List.length_cons, List.length_nil, Nat.zero_le, Nat.reduceAdd, Nat.reduceLeDiff, Option.bind_some, qx_kn_v, qx_kn_n, Nat.add_zero, Bool.false_eq_true, ↓reduceIte]
        rw [s17_58, g]
      | true =>
        rw [if_pos rfl]
        by_cases y : qb_pc (co al l (qb_lo l)) % 2 = 1
        · have g := ih (i + 1) x (qb_dif l (co al l (qb_lo l))) (c + 1) (some (.int (nI (co al l (qb_lo l))))) (by omega) (dif_14 hl) (by omega)
          rw [y, ← Nat.add_assoc]
          simp only [s17_8, s17_10, s17_12, s17_15, s17_17, s17_20, s17_21, s17_23, s17_26i, s17_26r, s17_26n, s17_28, s17_30, s17_32, s17_33, s17_34, s17_35i, s17_35r, s17_35n, s17_37, s17_38, s17_41, s17_43, s17_46, s17_47, s17_48, s17_49, s17_52i, s17_52r, s17_52n, s17_55i, s17_55r, s17_55n, qx_m40, h1, z0, h18, qb_andn, qbt, m334, qb_bc_ok hC, h2, hmod, e1, y, hc1, hi1, not_false_eq_true, ne_eq, List.length_cons, List.length_nil, Nat.zero_le, Nat.reduceAdd, Nat.reduceLeDiff, Option.bind_some, qx_kn_v, qx_kn_n, Nat.add_zero, Bool.false_eq_true, ↓reduceIte]
          rw [s17_58, g]
        · have g := ih (i + 1) x (qb_dif l (co al l (qb_lo l))) c (some (.int (nI (co al l (qb_lo l))))) (by omega) (dif_14 hl) (by omega)
          rw [show qb_pc (co al l (qb_lo l)) % 2 = 0 by omega, Nat.zero_add]
          simp only [s17_8, s17_10, s17_12, s17_15, s17_17, s17_20, s17_21, s17_23, s17_26i, s17_26r, s17_26n, s17_28, s17_30, s17_32, s17_33, s17_34, s17_35i, s17_35r, s17_35n, s17_37, s17_38, s17_41, s17_43, s17_46, s17_47, s17_48, s17_49, s17_52i, s17_52r, s17_52n, s17_55i, s17_55r, s17_55n, qx_m40, h1, z0, h18, qb_andn, qbt, m334, qb_bc_ok hC, h2, hmod, e1, y, hi1, not_false_eq_true, ne_eq, List.length_cons, List.length_nil, Nat.zero_le, Nat.reduceAdd, Nat.reduceLeDiff, Option.bind_some, qx_kn_v, qx_kn_n, Nat.add_zero, Bool.false_eq_true, ↓reduceIte]
          rw [s17_58, g]
theorem m17 {d x s : Nat} {M : qxM} {o : Bool} (ha : qAl al) (hs : s < 16384) (hT : ∀ p, p < 14 → M.1 41 p = nI (al p)) : Rs L xs (d + 3) 17 0 [some (.ref (40)), some (.int (nI s)), some (.int (bI o)), none, none, none, none] [] (M) x = some (.inl (some (.int (nI (ow al o 14 s)))), M, x) := by
  have g := m17l (L := L) (xs := xs) (d := d) (M := M) (o := o) (s := s) ha hT 14 0 x s 0 none (by omega) hs (Nat.le_refl _)
  rw [Nat.zero_add] at g
  simp only [s17_0, s17_1i, s17_1r, s17_1n, s17_2, s17_3i, s17_3r, s17_3n, s17_5, s17_6i, s17_6r, s17_6n]
  exact g
theorem m14 {d x s : Nat} {M : qxM} (ha : qAl al) (hs : all < 16384) (hT : qTs al st all M) : Rs L xs (d + 4) 14 0 [some (.ref (40)), some (.int (nI s))] [] (M) x = some (.inl (some (.int (nI (od al 14 (qb_dif all s))))), M, x) := by
  have g := m17 (L := L) (xs := xs) (d := d) (x := 0) (M := M) (o := true) ha (dif_14 (c := s) hs) hT.1.1
  rw [ow_od, ← bI_t] at g
  simp only [s14_0, s14_1, s14_2, s14_5, s14_6, s14_7, s14_8, s14_9, s14_10, s14_13, qx_m40, hT.2, qb_andn, g, List.length_cons, List.length_nil, Nat.zero_le, Nat.reduceAdd, Nat.reduceLeDiff, Option.bind_some, qx_kn_v, qx_kn_n, Nat.add_zero, Bool.false_eq_true, ↓reduceIte]
theorem qi_subeq {a b c : Nat} (ha : a < 2 ^ 31) (hb : b < 2 ^ 30) (hc : c < 2 ^ 30) : (nI a - nI b = nI c) = (a = b + c) := by
  apply propext
  constructor
  · intro h
    have h2 : nI a = nI (c + b) := by
      rw [← nI_add, ← h, Int32.sub_add_cancel]
    have := (nI_eq ha (by omega)).mp h2
    omega
  · intro h
    rw [h, pk_sub (by omega)]
    congr 1
    omega
theorem m15 {d x s k : Nat} {M : qxM} (ha : qAl al) (hs : all < 16384) (h2 : s < 16384) (hk : k ≤ 14) (hT : qTs al st all M) : Rs L xs (d + 5) 15 0 [some (.ref (40)), some (.int (nI s)), some (.int (nI k))] [] (M) x = some (.inl (some (.int (bI (decide (od al 14 (qb_dif all s) = qb_pc s + k))))), M, x) := by
  have g := m14 (L := L) (xs := xs) (d := d) (x := 0) (s := s) ha hs hT
  have hle : od al 14 (qb_dif all s) ≤ 14 := by
    rw [← ow_od]
    exact ow_le _ _ _ _
  have e := qi_subeq (a := od al 14 (qb_dif all s)) (b := qb_pc s) (c := k) (by omega) (by have := qb_pc_le s; omega) (by omega)
  by_cases y : od al 14 (qb_dif all s) = qb_pc s + k
  · have e1 : (nI (od al 14 (qb_dif all s)) - nI (qb_pc s) = nI k) = True := by rw [e]; exact eq_true y
    rw [decide_eq_true y]
    simp only [s15_0, s15_1, s15_2, s15_5, s15_6, s15_9, s15_10, s15_11, s15_14, s15_15, s15_18, s15_19, qx_m40, g, m334, qb_bc_ok h2, e1, qx_z1, List.length_cons, List.length_nil, Nat.zero_le, Nat.reduceAdd, Nat.reduceLeDiff, Option.bind_some, qx_kn_v, qx_kn_n, Nat.add_zero, Bool.false_eq_true, ↓reduceIte]
    rfl
  · simp only [s15_0, s15_1, s15_2, s15_5, s15_6, s15_9, s15_10, s15_11, s15_14, s15_15, s15_18, s15_19, qx_m40, g, m334, qb_bc_ok h2, e, y, decide_false, qx_z0, List.length_cons, List.length_nil, Nat.zero_le, Nat.reduceAdd, Nat.reduceLeDiff, Option.bind_some, qx_kn_v, qx_kn_n, Nat.add_zero, Bool.false_eq_true, ↓reduceIte]
    rfl
/-- the mate in the first pairing -/
def fmP (al : Nat → Nat) (s p q : Nat) : Bool := (qd s p &&& al p).testBit q && decide (mF al (qd (qd s p) q) + 1 = mF al s)
def fm (al : Nat → Nat) (s p : Nat) : Nat := fa_first (fmP al s p) 14
theorem m16l {d s p : Nat} (ha : qAl al) (hst : st < 100000) (hs : s < 16384) (hp : p < 14) : ∀ (k i x : Nat) (M : qxM), i + k = 14 → (∀ j, j < i → fmP al s p j = false) → qTs al st all M →
    ∃ M', Rs L xs (d + 18) 16 19 [some (.ref (40)), some (.int (nI s)), some (.int (nI p)), some (.int (nI (qd s p))), some (.int (nI (mF al s))), some (.int (nI i))] [] (M) x = some (.inl (some (.int (qz (fm al s p)))), M', x) ∧ qTs al st all M' ∧ qf qMm M M' := by
  have hlt : qd s p &&& al p < 16384 := Nat.lt_of_le_of_lt Nat.and_le_left (qd_14 hs)
  intro k
  induction k with
  | zero =>
    intro i x M hi h0 hT
    have e : i = 14 := by omega
    subst e
    have h1 : (nI 14 ≤ nI 14) = True := eq_true (Int32.le_refl _)
    refine ⟨M, ?_, hT, qf_refl _ _⟩
    rw [show fm al s p = 14 from fa_first_out h0]
    simp only [s16_19, s16_21, s16_23, s16_70, s16_71, qx_m40, h1, ↓reduceIte]
    rfl
  | succ k ih =>
    intro i x M hi h0 hT
    have hi14 : i < 14 := by omega
    have h1 : ¬ nI 14 ≤ nI i := nI_ge (by omega) (by decide)
    have hb := m170 (L := L) (xs := xs) (d := d + 17) (x := 0) (M := M) (show qd s p &&& al p < 2 ^ 31 by omega) (show i < 31 by omega)
    have h9 := m9 (L := L) (xs := xs) (d := d + 17) (x := 0) (M := M) hp (hT.1.1 p hp)
    have hi1 : nI i + nI 1 = nI (i + 1) := nI_add _ _
    by_cases z : (qd s p &&& al p).testBit i = true
    · rw [z] at hb
      obtain ⟨M1, g1, c1, f1⟩ := m5 (L := L) (xs := xs) (d := d) (x := 0) ha hst (qd_14 (v := i) (qd_14 (v := p) hs)) hT
      have g1' : Rs L xs (d + 17) 5 0 [some (.ref 40), some (.int (nI (qb_dif (qd s p) (2 ^ i))))] [] M 0 = some (.inl (some (.int (nI (mF al (qd (qd s p) i))))), M1, 0) := g1
      have e : (nI (mF al (qd (qd s p) i) + 1) = nI (mF al s)) = (mF al (qd (qd s p) i) + 1 = mF al s) := qi_eq (by have := F_7 (al := al) (qd_14 (v := i) (qd_14 (v := p) hs)); omega) (by have := F_7 (al := al) hs; omega)
      have hm1 : nI (mF al (qd (qd s p) i)) + nI 1 = nI (mF al (qd (qd s p) i) + 1) := nI_add _ _
      by_cases y : mF al (qd (qd s p) i) + 1 = mF al s
      · refine ⟨M1, ?_, c1, f1⟩
        have hf : fm al s p = i := fa_first_is hi14 (by unfold fmP; rw [z, decide_eq_true y]; rfl) h0
        rw [hf, qz_lt hi14]
        simp only [s16_19, s16_21, s16_23, s16_26, s16_27, s16_28, s16_29, s16_32, s16_33, s16_35, s16_38, s16_41, s16_42, s16_43, s16_45, s16_48, s16_49, s16_50, s16_51, s16_54, s16_55, s16_56, s16_58, s16_61, s16_63, qx_m40, h1, h9, fa_and, hb, qbt, m169 (show i < 31 by omega), qb_andn, g1', hm1, e, y, List.length_cons, List.length_nil, Nat.zero_le, Nat.reduceAdd, Nat.reduceLeDiff, Option.bind_some, qx_kn_v, qx_kn_n, Nat.add_zero, Bool.false_eq_true, ↓reduceIte]
      · obtain ⟨M2, g2, c2, f2⟩ := ih (i + 1) x M1 (by omega) (fun j hj => by
          by_cases w : j = i
          · rw [w]
            unfold fmP
            rw [decide_eq_false y, Bool.and_false]
          · exact h0 j (by omega)) c1
        refine ⟨M2, ?_, c2, qf_trans f1 f2⟩
        simp only [s16_19, s16_21, s16_23, s16_26, s16_27, s16_28, s16_29, s16_32, s16_33, s16_35, s16_38, s16_41, s16_42, s16_43, s16_45, s16_48, s16_49, s16_50, s16_51, s16_54, s16_55, s16_56, s16_58, s16_61, s16_63, s16_64i, s16_64r, s16_64n, qx_m40, h1, h9, fa_and, hb, qbt, m169 (show i < 31 by omega), qb_andn, g1', hm1, e, y, hi1, List.length_cons, List.length_nil, Nat.zero_le, Nat.reduceAdd, Nat.reduceLeDiff, Option.bind_some, qx_kn_v, qx_kn_n, Nat.add_zero, Bool.false_eq_true, ↓reduceIte]
        rw [s16_67, g2]
    · have zf : (qd s p &&& al p).testBit i = false := by simpa using z
      rw [zf] at hb
      obtain ⟨M2, g2, c2, f2⟩ := ih (i + 1) x M (by omega) (fun j hj => by
        by_cases w : j = i
        · rw [w]
          unfold fmP
          rw [zf, Bool.false_and]
        · exact h0 j (by omega)) hT
      refine ⟨M2, ?_, c2, f2⟩
      simp only [s16_19, s16_21, s16_23, s16_26, s16_27, s16_28, s16_29, s16_32, s16_33, s16_35, s16_38, s16_41, s16_42, s16_43, s16_45, s16_48, s16_49, s16_50, s16_51, s16_54, s16_55, s16_56, s16_58, s16_61, s16_63, s16_64i, s16_64r, s16_64n, qx_m40, h1, h9, fa_and, hb, qbf, hi1, List.length_cons, List.length_nil, Nat.zero_le, Nat.reduceAdd, Nat.reduceLeDiff, Option.bind_some, qx_kn_v, qx_kn_n, Nat.add_zero, Bool.false_eq_true, ↓reduceIte]
      rw [s16_67, g2]
theorem m16 {d x s p : Nat} {M : qxM} (ha : qAl al) (hst : st < 100000) (hs : s < 16384) (hp : p < 14) (hT : qTs al st all M) : ∃ M', Rs L xs (d + 18) 16 0 [some (.ref (40)), some (.int (nI s)), some (.int (nI p)), none, none, none] [] (M) x = some (.inl (some (.int (qz (fm al s p)))), M', x) ∧ qTs al st all M' ∧ qf qMm M M' := by
  obtain ⟨M1, g1, c1, f1⟩ := m5 (L := L) (xs := xs) (d := d) (x := 0) ha hst hs hT
  obtain ⟨M2, g2, c2, f2⟩ := m16l (L := L) (xs := xs) (d := d) ha hst hs hp 14 0 x M1 (by omega) (fun j hj => absurd hj (Nat.not_lt_zero j)) c1
  have g2' : Rs L xs (d + 18) 16 19 [some (.ref 40), some (.int (nI s)), some (.int (nI p)), some (.int (nI (qb_dif s (2 ^ p)))), some (.int (nI (mF al s))), some (.int (nI 0))] [] M1 x = some (.inl (some (.int (qz (fm al s p)))), M2, x) := g2
  refine ⟨M2, ?_, c2, qf_trans f1 f2⟩
  simp only [s16_0, s16_1, s16_2, s16_5, s16_6, s16_7, s16_8i, s16_8r, s16_8n, s16_9, s16_10, s16_11, s16_14i, s16_14r, s16_14n, s16_16, s16_17i, s16_17r, s16_17n, qx_m40, m169 (show p < 31 by omega), qb_andn, g1, List.length_cons, List.length_nil, Nat.zero_le, Nat.reduceAdd, Nat.reduceLeDiff, Option.bind_some, qx_kn_v, qx_kn_n, Nat.add_zero, Bool.false_eq_true, ↓reduceIte]
  exact g2'
end QL
