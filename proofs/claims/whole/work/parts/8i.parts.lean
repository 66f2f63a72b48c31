/-! Sets and parts: the Model. -/
/-- the set, with the friends within s of those of pa below o -/
def cl (al : Nat → Nat) (s pa : Nat) : Nat → Nat
  | 0 => pa
  | o + 1 => if pa.testBit o = true then cl al s pa o ||| (al o &&& s) else cl al s pa o
theorem cl_bit {al : Nat → Nat} {s pa j : Nat} : ∀ o, (cl al s pa o).testBit j = true ↔ pa.testBit j = true ∨ ∃ u, u < o ∧ pa.testBit u = true ∧ qe al u j = true ∧ s.testBit j = true
  | 0 => ⟨Or.inl, fun h => h.elim id (fun ⟨u, u1, _⟩ => absurd u1 (Nat.not_lt_zero u))⟩
  | o + 1 => by
    have ih := cl_bit (al := al) (s := s) (pa := pa) (j := j) o
    unfold cl
    by_cases z : pa.testBit o = true
    · rw [if_pos z, Nat.testBit_or, Bool.or_eq_true, ih, Nat.testBit_and, Bool.and_eq_true]
      constructor
      · rintro ((h | ⟨u, u1, u2⟩) | ⟨h1, h2⟩)
        · exact Or.inl h
        · exact Or.inr ⟨u, by omega, u2⟩
        · exact Or.inr ⟨o, by omega, z, h1, h2⟩
      · rintro (h | ⟨u, u1, u2, u3, u4⟩)
        · exact Or.inl (Or.inl h)
        · by_cases e : u = o
          · exact Or.inr ⟨e ▸ u3, u4⟩
          · exact Or.inl (Or.inr ⟨u, by omega, u2, u3, u4⟩)
    · rw [if_neg z, ih]
      constructor
      · rintro (h | ⟨u, u1, u2⟩)
        · exact Or.inl h
        · exact Or.inr ⟨u, by omega, u2⟩
      · rintro (h | ⟨u, u1, u2⟩)
        · exact Or.inl h
        · by_cases e : u = o
          · exact absurd (e ▸ u2.1) z
          · exact Or.inr ⟨u, by omega, u2⟩
/-- a part by its place, from k on -/
noncomputable def oa (al : Nat → Nat) : Nat → Nat → Nat → Int32 → Int32
  | 0, _, _, _ => -1
  | f + 1, l, k, z => if l = 0 then -1 else if nI k = z then nI (co al l (qb_lo l)) else oa al f (qb_dif l (co al l (qb_lo l))) (k + 1) z
section QL
variable {L : Nat} {xs : Nat → Int32} {al : Nat → Nat} {n : Nat}
theorem m273l {d : Nat} {M : qxM} (hn2 : n ≤ 14) (hn : M.1 401 0 = nI n) (hl : qLay al n M) : ∀ (k i x : Nat), i + k = n →
    Rs L xs (d + 2) 273 9 [some (.ref (400)), some (.int (nI (mF al (2 ^ n - 1)))), some (.int (nI (qb_of (fun p => (2 ^ n - 1).testBit p && decide (mF al (qd (2 ^ n - 1) p) = mF al (2 ^ n - 1))) i))), some (.int (nI i))] [] (M) x = some (.inl (some (.int (nI (qLo al (2 ^ n - 1))))), M, x) := by
  obtain ⟨k1, k2, k3⟩ := qx_m400
  have hpos : 0 < 2 ^ n := Nat.two_pow_pos n
  have h16 := n14 hn2
  intro k
  induction k with
  | zero =>
    intro i x hi
    have h1 : (nI n ≤ nI i) = True := by rw [show i = n by omega]; exact eq_true (Int32.le_refl _)
    have e : qLo al (2 ^ n - 1) = qb_of (fun p => (2 ^ n - 1).testBit p && decide (mF al (qd (2 ^ n - 1) p) = mF al (2 ^ n - 1))) n := by
      have := qb_of_past (s := fun p => (2 ^ n - 1).testBit p && decide (mF al (qd (2 ^ n - 1) p) = mF al (2 ^ n - 1))) (n := n) (fun j hj => by
        rw [Nat.testBit_two_pow_sub_one, decide_eq_false (by omega), Bool.false_and]) (14 - n)
      rw [show n + (14 - n) = 14 by omega] at this
      exact this
    rw [show i = n by omega] at h1 ⊢
    rw [e]
    simp only [s273_9, s273_10, s273_11, s273_14, s273_15, s273_16, s273_47, s273_48, k1, k2, k3, hn, h1, (qn_c (0) (by omega)).1, (qn_c (0) (by omega)).2, ↓reduceIte]
  | succ k ih =>
    intro i x hi
    have hi14 : i < 14 := by omega
    have h1 : ¬ nI n ≤ nI i := nI_ge (by omega) (by omega)
    have g2 := ih (i + 1) x (by omega)
    have h272 := m272 (L := L) (xs := xs) (d := d) (x := 0) hn2 hn hi14 hl
    have hbit : (2 ^ n - 1).testBit i = true := by rw [Nat.testBit_two_pow_sub_one, decide_eq_true (show i < n by omega)]
    have hF := F_7 (al := al) (show 2 ^ n - 1 < 16384 by omega)
    have hF2 := F_7 (al := al) (qd_14 (v := i) (show 2 ^ n - 1 < 16384 by omega))
    have e : (nI (mF al (qd (2 ^ n - 1) i)) = nI (mF al (2 ^ n - 1))) = (mF al (qd (2 ^ n - 1) i) = mF al (2 ^ n - 1)) := qi_eq (by omega) (by omega)
    rw [qb_of, hbit, Bool.true_and] at g2
    have e1 := m179 (L := L) (xs := xs) (d := d + 1) (x := 0) (M := M) true
    have e0 := m179 (L := L) (xs := xs) (d := d + 1) (x := 0) (M := M) false
    rw [← bI_t] at e1
    rw [← bI_f] at e0
    by_cases y : mF al (qd (2 ^ n - 1) i) = mF al (2 ^ n - 1)
    · rw [if_pos (decide_eq_true y)] at g2
      simp only [s273_9, s273_10, s273_11, s273_14, s273_15, s273_16, s273_19, s273_20, s273_21, s273_22, s273_25, s273_26, s273_29, s273_30, s273_33, s273_34, s273_37, s273_38, s273_39, s273_40i, s273_40r, s273_40n, s273_41i, s273_41r, s273_41n, k1, k2, k3, hn, h1, h272, e, y, e1, qb_shl (show i < 32 by omega), qb_or, nI_add, (qn_c (0) (by omega)).1, (qn_c (0) (by omega)).2, List.length_cons, List.length_nil, Nat.zero_le, Nat.reduceAdd, Nat.reduceLeDiff, Option.bind_some, qx_kn_v, qx_kn_n, Nat.add_zero, Bool.false_eq_true, ↓reduceIte]
      rw [s273_44, g2]
    · rw [decide_eq_false y, if_neg (by decide), Nat.or_zero] at g2
      have hs : nI 0 <<< (nI i &&& 31) = nI 0 := qb_shl0 (by omega)
      have ho : ∀ a, nI a ||| nI 0 = nI a := fun a => by rw [qb_or, Nat.or_zero]
      simp only [s273_9, s273_10, s273_11, s273_14, s273_15, s273_16, s273_19, s273_20, s273_21, s273_22, s273_25, s273_26, s273_29, s273_30, s273_33, s273_34, s273_37, s273_38, s273_39, s273_40i, s273_40r, s273_40n, s273_41i, s273_41r, s273_41n, k1, k2, k3, hn, h1, h272, e, y, e0, hs, ho, nI_add, (qn_c (0) (by omega)).1, (qn_c (0) (by omega)).2, List.length_cons, List.length_nil, Nat.zero_le, Nat.reduceAdd, Nat.reduceLeDiff, Option.bind_some, qx_kn_v, qx_kn_n, Nat.add_zero, Bool.false_eq_true, ↓reduceIte]
      rw [s273_44, g2]
theorem m273 {d x r q : Nat} {f mt al : Nat → Nat} {M : qxM} (hp : qp_ok n r q f mt) (hal : ∀ p, p < 14 → al p = qp_al r q (f p) p) (ha : qAl al) (hu : nPu M n r q f mt) :
    ∃ M', Rs L xs (d + 5) 273 0 [some (.ref (400)), none, none, none] [] (M) x = some (.inl (some (.int (nI (qLo al (2 ^ n - 1))))), M', x) ∧ qLay al n M' ∧ qf qTb M M' := by
  obtain ⟨M', g, l, f1⟩ := m271 (L := L) (xs := xs) (d := d) (x := 0) hp hal ha hu
  refine ⟨M', ?_, l, f1⟩
  have g2 := m273l (L := L) (xs := xs) (d := d + 3) (M := M') hp.1 (by rw [f1.1 401 (by unfold qTb; omega), hu.1]) l n 0 x (by omega)
  simp only [s273_0, s273_1, s273_4i, s273_4r, s273_4n, s273_5, s273_6i, s273_6r, s273_6n, s273_7, s273_8i, s273_8r, s273_8n, qx_m400.1, g, List.length_cons, List.length_nil, Nat.zero_le, Nat.reduceAdd, Nat.reduceLeDiff, Option.bind_some, qx_kn_v, qx_kn_n, Nat.add_zero, Bool.false_eq_true, ↓reduceIte]
  exact g2
theorem m274l {d lo : Nat} {M : qxM} (ha : qAl al) (hn2 : n ≤ 14) (hn : M.1 401 0 = nI n) (h0 : ∀ p, p < 14 → n ≤ p → al p = 0) (hlo : lo < 16384) (hr : ∀ p, p < n → M.1 409 p = nI (al p)) : ∀ (k i x : Nat), i + k = n →
    Rs L xs (d + 1) 274 4 [some (.ref (400)), some (.int (nI lo)), some (.int (nI (qb_of (fun p => !lo.testBit p && !decide (al p &&& lo = 0)) i))), some (.int (nI i))] [] (M) x = some (.inl (some (.int (nI (qBa al lo)))), M, x) := by
  obtain ⟨k1, k2, k3⟩ := qx_m400
  obtain ⟨y1, y2, y3, y4, y5, y6⟩ := qx_m407
  intro k
  induction k with
  | zero =>
    intro i x hi
    have h1 : (nI n ≤ nI i) = True := by rw [show i = n by omega]; exact eq_true (Int32.le_refl _)
    have e : qBa al lo = qb_of (fun p => !lo.testBit p && !decide (al p &&& lo = 0)) n := by
      refine Nat.eq_of_testBit_eq (fun j => ?_)
      unfold qBa
      rw [qb_of_bit, qb_of_bit]
      by_cases a : j < n
      · rw [decide_eq_true a, decide_eq_true (show j < 14 by omega)]
      · rw [decide_eq_false a, Bool.false_and]
        by_cases b : j < 14
        · rw [h0 j b (by omega), Nat.zero_and, decide_eq_true (rfl : (0 : Nat) = 0), Bool.not_true, Bool.and_false, Bool.and_false]
        · rw [decide_eq_false b, Bool.false_and]
    rw [show i = n by omega] at h1 ⊢
    rw [e]
    simp only [s274_4, s274_5, s274_6, s274_9, s274_10, s274_11, s274_52, s274_53, k1, k2, k3, hn, h1, (qn_c (0) (by omega)).1, (qn_c (0) (by omega)).2, ↓reduceIte]
  | succ k ih =>
    intro i x hi
    have hi14 : i < 14 := by omega
    have h1 : ¬ nI n ≤ nI i := nI_ge (by omega) (by omega)
    have g2 := ih (i + 1) x (by omega)
    have h208 := m208 (L := L) (xs := xs) (d := d) (x := 0) (M := M) (show lo < 2 ^ 31 by omega) (show i < 31 by omega)
    have e1 := m179 (L := L) (xs := xs) (d := d) (x := 0) (M := M) true
    have e0 := m179 (L := L) (xs := xs) (d := d) (x := 0) (M := M) false
    rw [← bI_t] at e1
    rw [← bI_f] at e0
    have hs : nI 0 <<< (nI i &&& 31) = nI 0 := qb_shl0 (by omega)
    have ho : ∀ a, nI a ||| nI 0 = nI a := fun a => by rw [qb_or, Nat.or_zero]
    obtain ⟨c5, c6⟩ := qc_p hi14
    rw [qb_of] at g2
    by_cases z : lo.testBit i = true
    · rw [z] at h208
      rw [z, Bool.not_true, Bool.false_and, if_neg (by decide), Nat.or_zero] at g2
      simp only [s274_4, s274_5, s274_6, s274_9, s274_10, s274_11, s274_14, s274_15, s274_16, s274_17, s274_20, s274_23, s274_24, s274_27, s274_28, s274_29, s274_30, s274_31, s274_34, s274_35, s274_38, s274_39, s274_42, s274_43, s274_44, s274_45i, s274_45r, s274_45n, s274_46i, s274_46r, s274_46n, k1, k2, k3, hn, h1, h208, qbt, e0, hs, ho, nI_add, (qn_c (0) (by omega)).1, (qn_c (0) (by omega)).2, List.length_cons, List.length_nil, Nat.zero_le, Nat.reduceAdd, Nat.reduceLeDiff, Option.bind_some, qx_kn_v, qx_kn_n, Nat.add_zero, Bool.false_eq_true, ↓reduceIte]
      rw [s274_49, g2]
    · have zf : lo.testBit i = false := by simpa using z
      rw [zf] at h208
      have e : (nI (al i &&& lo) = 0) = (al i &&& lo = 0) := qi_eq0 (Nat.lt_of_le_of_lt Nat.and_le_right (by omega))
      by_cases y : al i &&& lo = 0
      · rw [decide_eq_true y, Bool.not_true, Bool.and_false, if_neg (by decide), Nat.or_zero] at g2
        simp only [s274_4, s274_5, s274_6, s274_9, s274_10, s274_11, s274_14, s274_15, s274_16, s274_17, s274_20, s274_23, s274_24, s274_27, s274_28, s274_29, s274_30, s274_31, s274_34, s274_35, s274_38, s274_39, s274_42, s274_43, s274_44, s274_45i, s274_45r, s274_45n, s274_46i, s274_46r, s274_46n, k1, k2, k3, hn, h1, h208, qbf, y5, y6, c5, c6, hr i (by omega), fa_and, e, y, qi_z0, e0, hs, ho, nI_add, (qn_c (0) (by omega)).1, (qn_c (0) (by omega)).2, List.length_cons, List.length_nil, Nat.zero_le, Nat.reduceAdd, Nat.reduceLeDiff, Option.bind_some, qx_kn_v, qx_kn_n, Nat.add_zero, Bool.false_eq_true, ↓reduceIte]
        rw [s274_49, g2]
      · rw [zf, decide_eq_false y, Bool.not_false, Bool.true_and, if_pos rfl] at g2
        simp only [s274_4, s274_5, s274_6, s274_9, s274_10, s274_11, s274_14, s274_15, s274_16, s274_17, s274_20, s274_23, s274_24, s274_27, s274_28, s274_29, s274_30, s274_31, s274_34, s274_35, s274_38, s274_39, s274_42, s274_43, s274_44, s274_45i, s274_45r, s274_45n, s274_46i, s274_46r, s274_46n, k1, k2, k3, hn, h1, h208, qbf, y5, y6, c5, c6, hr i (by omega), fa_and, e, y, e1, qb_shl (show i < 32 by omega), qb_or, nI_add, (qn_c (0) (by omega)).1, (qn_c (0) (by omega)).2, List.length_cons, List.length_nil, Nat.zero_le, Nat.reduceAdd, Nat.reduceLeDiff, Option.bind_some, qx_kn_v, qx_kn_n, Nat.add_zero, Bool.false_eq_true, ↓reduceIte]
        rw [s274_49, g2]
theorem m274 {d x lo : Nat} {M : qxM} (ha : qAl al) (hn2 : n ≤ 14) (hn : M.1 401 0 = nI n) (h0 : ∀ p, p < 14 → n ≤ p → al p = 0) (hlo : lo < 16384) (hr : ∀ p, p < n → M.1 409 p = nI (al p)) : Rs L xs (d + 1) 274 0 [some (.ref (400)), some (.int (nI lo)), none, none] [] (M) x = some (.inl (some (.int (nI (qBa al lo)))), M, x) := by
  have g := m274l (L := L) (xs := xs) (d := d) ha hn2 hn h0 hlo hr n 0 x (by omega)
  simp only [s274_0, s274_1i, s274_1r, s274_1n, s274_2, s274_3i, s274_3r, s274_3n]
  exact g
theorem m275i {d s p pa : Nat} {M : qxM} (hn2 : n ≤ 14) (hn : M.1 401 0 = nI n) (hr : ∀ p, p < n → M.1 409 p = nI (al p)) (hpa : pa < 16384) : ∀ (k i x : Nat), i + k = n →
    Rs L xs (d + 1) 275 19 [some (.ref 400), some (.int (nI p)), some (.int (nI s)), some (.int (nI (cl al s pa i))), some (.int (nI pa)), some (.int (nI i))] [] M x = Rs L xs (d + 1) 275 58 [some (.ref 400), some (.int (nI p)), some (.int (nI s)), some (.int (nI (cl al s pa n))), some (.int (nI pa)), some (.int (nI n))] [] M x := by
  obtain ⟨k1, k2, k3⟩ := qx_m400
  obtain ⟨y1, y2, y3, y4, y5, y6⟩ := qx_m407
  intro k
  induction k with
  | zero =>
    intro i x hi
    have h1 : (nI n ≤ nI i) = True := by rw [show i = n by omega]; exact eq_true (Int32.le_refl _)
    rw [show i = n by omega] at h1 ⊢
    simp only [s275_19, s275_21, s275_22, s275_25, s275_26, s275_27, k1, k2, k3, hn, h1, (qn_c (0) (by omega)).1, (qn_c (0) (by omega)).2, ↓reduceIte]
  | succ k ih =>
    intro i x hi
    have hi14 : i < 14 := by omega
    have h1 : ¬ nI n ≤ nI i := nI_ge (by omega) (by omega)
    have g2 := ih (i + 1) x (by omega)
    have h208 := m208 (L := L) (xs := xs) (d := d) (x := 0) (M := M) (show pa < 2 ^ 31 by omega) (show i < 31 by omega)
    obtain ⟨c5, c6⟩ := qc_p hi14
    have e : cl al s pa (i + 1) = if pa.testBit i = true then cl al s pa i ||| (al i &&& s) else cl al s pa i := rfl
    rw [e] at g2
    by_cases z : pa.testBit i = true
    · rw [z] at h208
      rw [if_pos z] at g2
      simp only [s275_19, s275_21, s275_22, s275_25, s275_26, s275_27, s275_30, s275_32, s275_34, s275_37, s275_40, s275_41, s275_42, s275_45, s275_47, s275_48, s275_49, s275_50, s275_51i, s275_51r, s275_51n, s275_52i, s275_52r, s275_52n, k1, k2, k3, hn, h1, h208, qbt, y5, y6, c5, c6, hr i (by omega), fa_and, qb_or, nI_add, (qn_c (0) (by omega)).1, (qn_c (0) (by omega)).2, List.length_cons, List.length_nil, Nat.zero_le, Nat.reduceAdd, Nat.reduceLeDiff, Option.bind_some, qx_kn_v, qx_kn_n, Nat.add_zero, Bool.false_eq_true, ↓reduceIte]
      rw [s275_55, g2]
    · rw [if_neg z] at g2
      have zf : pa.testBit i = false := by simpa using z
      rw [zf] at h208
      simp only [s275_19, s275_21, s275_22, s275_25, s275_26, s275_27, s275_30, s275_32, s275_34, s275_37, s275_40, s275_41, s275_42, s275_45, s275_47, s275_48, s275_49, s275_50, s275_51i, s275_51r, s275_51n, s275_52i, s275_52r, s275_52n, k1, k2, k3, hn, h1, h208, qbf, nI_add, (qn_c (0) (by omega)).1, (qn_c (0) (by omega)).2, List.length_cons, List.length_nil, Nat.zero_le, Nat.reduceAdd, Nat.reduceLeDiff, Option.bind_some, qx_kn_v, qx_kn_n, Nat.add_zero, Bool.false_eq_true, ↓reduceIte]
      rw [s275_55, g2]
theorem m275l {d s p : Nat} {M : qxM} (hn2 : n ≤ 14) (hs : s < 2 ^ n) (hp : s.testBit p = true) (hn : M.1 401 0 = nI n) (hr : ∀ p, p < n → M.1 409 p = nI (al p)) : ∀ (k x pa bf : Nat) (a5 : Option Value), qb_pc s ≤ qb_pc pa + k → bf ≤ pa →
    (∀ j, pa.testBit j = true → s.testBit j = true) → pa.testBit p = true → (∀ j, pa.testBit j = true → Rc al s p j) → (∀ u q, bf.testBit u = true → s.testBit q = true → qe al u q = true → pa.testBit q = true) →
    Rs L xs (d + 1) 275 7 [some (.ref 400), some (.int (nI p)), some (.int (nI s)), some (.int (nI pa)), some (.int (nI bf)), a5] [] M x = some (.inl (some (.int (nI (co al s p)))), M, x) := by
  have hs16 : s < 16384 := Nat.lt_of_lt_of_le hs (n14 hn2)
  have out : ∀ (x pa : Nat) (a5 : Option Value), (∀ j, pa.testBit j = true → s.testBit j = true) → pa.testBit p = true → (∀ j, pa.testBit j = true → Rc al s p j) → (∀ u q, pa.testBit u = true → s.testBit q = true → qe al u q = true → pa.testBit q = true) →
      Rs L xs (d + 1) 275 7 [some (.ref 400), some (.int (nI p)), some (.int (nI s)), some (.int (nI pa)), some (.int (nI pa)), a5] [] M x = some (.inl (some (.int (nI (co al s p)))), M, x) := by
    intro x pa a5 h1 h2 h3 h4
    rw [← co_eq h2 (fun x hx => ⟨qj hs16 (h1 x hx), h3 x hx⟩) (fun u q a _ c e => h4 u q a c e)]
    simp only [s275_7, s275_8, s275_10, s275_61, s275_62, ↓reduceIte]
  intro k
  induction k with
  | zero =>
    intro x pa bf a5 hk hb i1 i2 i3 i4
    have e : pa = s := by
      refine qs_eq (fun j => ⟨i1 j, fun y => Classical.byContradiction (fun w => ?_)⟩)
      have h1 := qd_pc y (qj hs16 y)
      have h2 : qb_pc pa ≤ qb_pc (qd s j) := by
        unfold qb_pc
        exact fb_ct_sub (fun k _ hk => qd_in.mpr ⟨i1 k hk, fun e => w (e ▸ hk)⟩)
      omega
    subst e
    by_cases z : pa = bf
    · subst z
      exact out x pa a5 i1 i2 i3 i4
    · have hz : (nI pa = nI bf) = False := by rw [qi_eq (by omega) (by omega)]; exact eq_false z
      have hcl : cl al pa pa n = pa := qs_eq (fun j => by
        rw [cl_bit]
        exact ⟨fun h => h.elim id (fun ⟨u, _, _, _, u4⟩ => u4), Or.inl⟩)
      have gi := m275i (L := L) (xs := xs) (d := d) (s := pa) (p := p) (M := M) hn2 hn hr hs16 n 0 x (by omega)
      rw [hcl] at gi
      have e0 : cl al pa pa 0 = pa := rfl
      rw [e0] at gi
      simp only [s275_7, s275_8, s275_10, s275_13, s275_14i, s275_14r, s275_14n, s275_16, s275_17i, s275_17r, s275_17n, hz, ↓reduceIte]
      rw [gi, s275_58]
      exact out x pa _ i1 i2 i3 (fun u q _ b _ => b)
  | succ k ih =>
    intro x pa bf a5 hk hb i1 i2 i3 i4
    have hpa : pa < 16384 := qs_lt hs16 i1
    by_cases z : pa = bf
    · subst z
      exact out x pa a5 i1 i2 i3 i4
    · have hz : (nI pa = nI bf) = False := by rw [qi_eq (by omega) (by omega)]; exact eq_false z
      have gi := m275i (L := L) (xs := xs) (d := d) (s := s) (p := p) (M := M) hn2 hn hr hpa n 0 x (by omega)
      have e0 : cl al s pa 0 = pa := rfl
      rw [e0] at gi
      have j1 : ∀ j, (cl al s pa n).testBit j = true → s.testBit j = true := fun j hj => by
        rcases (cl_bit n).mp hj with h | ⟨u, _, _, _, u4⟩
        · exact i1 j h
        · exact u4
      have j0 : ∀ j, pa.testBit j = true → (cl al s pa n).testBit j = true := fun j hj => (cl_bit n).mpr (Or.inl hj)
      have j3 : ∀ j, (cl al s pa n).testBit j = true → Rc al s p j := fun j hj => by
        rcases (cl_bit n).mp hj with h | ⟨u, _, u2, u3, u4⟩
        · exact i3 j h
        · intro D d1 d2
          exact d2 u j (i3 u u2 D d1 d2) (i1 u u2) u4 u3
      have j4 : ∀ u q, pa.testBit u = true → s.testBit q = true → qe al u q = true → (cl al s pa n).testBit q = true := fun u q a b c => (cl_bit n).mpr (Or.inr ⟨u, qj_n hs (i1 u a), a, c, b⟩)
      simp only [s275_7, s275_8, s275_10, s275_13, s275_14i, s275_14r, s275_14n, s275_16, s275_17i, s275_17r, s275_17n, hz, ↓reduceIte]
      rw [gi, s275_58]
      by_cases y : cl al s pa n = pa
      · rw [y] at j4 ⊢
        exact out x pa _ i1 i2 i3 j4
      · have hlt : qb_pc pa < qb_pc (cl al s pa n) := by
          obtain ⟨v, v1⟩ : ∃ v, (cl al s pa n).testBit v = true ∧ ¬ pa.testBit v = true := Classical.byContradiction (fun w => y (qs_eq (fun j => ⟨fun h => Classical.byContradiction (fun e => w ⟨j, h, e⟩), j0 j⟩)))
          have h1 := qd_pc v1.1 (qj hs16 (j1 v v1.1))
          have h2 : qb_pc pa ≤ qb_pc (qd (cl al s pa n) v) := by
            unfold qb_pc
            exact fb_ct_sub (fun k _ hk => qd_in.mpr ⟨j0 k hk, fun e => v1.2 (e ▸ hk)⟩)
          omega
        exact ih x (cl al s pa n) pa _ (by omega) (pc_le_of j0) j1 (j0 p i2) j3 j4
theorem m275 {d x s p : Nat} {M : qxM} (hn2 : n ≤ 14) (hs : s < 2 ^ n) (hp : s.testBit p = true) (hn : M.1 401 0 = nI n) (hr : ∀ p, p < n → M.1 409 p = nI (al p)) : Rs L xs (d + 1) 275 0 [some (.ref (400)), some (.int (nI p)), some (.int (nI s)), none, none, none] [] (M) x = some (.inl (some (.int (nI (co al s p)))), M, x) := by
  have hpn := qj_n hs hp
  have hin : ∀ j, (2 ^ p).testBit j = true → j = p := fun j hj => by
    rw [qb_two, decide_eq_true_eq] at hj
    exact hj.symm
  have g := m275l (L := L) (xs := xs) (d := d) (M := M) hn2 hs hp hn hr 14 x (2 ^ p) 0 none (by have := qb_pc_le s; omega) (Nat.zero_le _) (fun j hj => by rw [hin j hj]; exact hp) (by rw [qb_two, decide_eq_true_eq]) (fun j hj => by rw [hin j hj]; exact fun D h _ => h) (fun u q a _ _ => absurd a zb)
  simp only [s275_0, s275_1, s275_2, s275_3i, s275_3r, s275_3n, s275_4, s275_5i, s275_5r, s275_5n, qb_shl (show p < 32 by omega)]
  exact g
/-- the rest of a set is closed in it -/
def qCl (al : Nat → Nat) (s l : Nat) : Prop := (∀ j, l.testBit j = true → s.testBit j = true) ∧ ∀ u q, l.testBit u = true → s.testBit q = true → qe al u q = true → l.testBit q = true
theorem qCl_next (ha : qAl al) {s l : Nat} (hs : s < 16384) (h0 : ¬ l = 0) (h : qCl al s l) : co al s (qb_lo l) = co al l (qb_lo l) ∧ qCl al s (qb_dif l (co al l (qb_lo l))) ∧ qb_pc (qb_dif l (co al l (qb_lo l))) < qb_pc l := by
  have hl : l < 16384 := qs_lt hs h.1
  have hlo := lo_in hl h0
  refine ⟨co_part h.1 h.2 hlo, ⟨fun j hj => h.1 j (qm_in.mp hj).1, fun u q a b c => ?_⟩, ?_⟩
  · have h1 := h.2 u q (qm_in.mp a).1 b c
    exact rest_c ha.1 hl (fun u q a b c => co_c hl hlo a b c) a h1 c
  · have h1 := pc_dif (fun j => co_s (al := al) (x := j) hlo)
    have h2 := co_p (al := al) hl hlo
    have h3 := qd_pc h2 (qj hl hlo)
    omega
theorem m276l {d s : Nat} {z : Int32} {M : qxM} (ha : qAl al) (hn2 : n ≤ 14) (hs : s < 2 ^ n) (hn : M.1 401 0 = nI n) (hr : ∀ p, p < n → M.1 409 p = nI (al p)) : ∀ (k x l i : Nat) (a5 : Option Value), qb_pc l ≤ k → qCl al s l →
    Rs L xs (d + 2) 276 5 [some (.ref 400), some (.int z), some (.int (nI s)), some (.int (nI l)), some (.int (nI i)), a5] [] M x = some (.inl (some (.int (oa al k l i z))), M, x) := by
  obtain ⟨k1, k2, k3⟩ := qx_m400
  have hs16 : s < 16384 := Nat.lt_of_lt_of_le hs (n14 hn2)
  have hz : ∀ x i a5, Rs L xs (d + 2) 276 5 [some (.ref 400), some (.int z), some (.int (nI s)), some (.int (nI 0)), some (.int (nI i)), a5] [] M x = some (.inl (some (.int (-1))), M, x) := fun x i a5 => by
    simp only [s276_5, s276_6, s276_42, s276_43, qi_z0, ↓reduceIte]
  intro k
  induction k with
  | zero =>
    intro x l i a5 hk h
    have h0 : l = 0 := qb_pc0 (qs_lt hs16 h.1) (fun j y => absurd (qd_pc y (qj (qs_lt hs16 h.1) y)) (by omega))
    subst h0
    exact hz x i a5
  | succ k ih =>
    intro x l i a5 hk h
    unfold oa
    by_cases h0 : l = 0
    · subst h0
      rw [if_pos rfl]
      exact hz x i a5
    · rw [if_neg h0]
      have hl : l < 16384 := qs_lt hs16 h.1
      obtain ⟨e1, e2, e3⟩ := qCl_next ha hs16 h0 h
      have z0 : ¬ nI l = 0 := nI_ne0 (by omega) (by omega)
      have h210 := m210 (L := L) (xs := xs) (d := d) (x := 0) (M := M) hl (Nat.pos_of_ne_zero h0)
      have h275 := m275 (L := L) (xs := xs) (d := d) (x := 0) (M := M) hn2 hs (h.1 _ (lo_in hl h0)) hn hr
      rw [e1] at h275
      by_cases hi : nI i = z
      · rw [if_pos hi]
        simp only [s276_5, s276_6, s276_9, s276_10, s276_11, s276_14, s276_15, s276_18i, s276_18r, s276_18n, s276_20, s276_22, s276_23, s276_26, s276_28, k1, z0, h210, h275, hi, List.length_cons, List.length_nil, Nat.zero_le, Nat.reduceAdd, Nat.reduceLeDiff, Option.bind_some, qx_kn_v, qx_kn_n, Nat.add_zero, Bool.false_eq_true, ↓reduceIte]
      · rw [if_neg hi]
        have g := ih x (qb_dif l (co al l (qb_lo l))) (i + 1) (some (.int (nI (co al l (qb_lo l))))) (by omega) e2
        simp only [s276_5, s276_6, s276_9, s276_10, s276_11, s276_14, s276_15, s276_18i, s276_18r, s276_18n, s276_20, s276_22, s276_23, s276_26, s276_28, s276_29, s276_30, s276_32, s276_33, s276_34, s276_35i, s276_35r, s276_35n, s276_36i, s276_36r, s276_36n, k1, z0, h210, h275, hi, qb_andn, nI_add, List.length_cons, List.length_nil, Nat.zero_le, Nat.reduceAdd, Nat.reduceLeDiff, Option.bind_some, qx_kn_v, qx_kn_n, Nat.add_zero, Bool.false_eq_true, ↓reduceIte]
        rw [s276_39, g]
theorem qCl_self {s : Nat} : qCl al s s := ⟨fun _ h => h, fun _ _ _ b _ => b⟩
theorem m276 {d x s : Nat} {z : Int32} {M : qxM} (ha : qAl al) (hn2 : n ≤ 14) (hs : s < 2 ^ n) (hn : M.1 401 0 = nI n) (hr : ∀ p, p < n → M.1 409 p = nI (al p)) : Rs L xs (d + 2) 276 0 [some (.ref (400)), some (.int (z)), some (.int (nI s)), none, none, none] [] (M) x = some (.inl (some (.int (oa al 14 s 0 z))), M, x) := by
  have g := m276l (L := L) (xs := xs) (d := d) (z := z) (M := M) ha hn2 hs hn hr 14 x s 0 none (qb_pc_le s) qCl_self
  simp only [s276_0, s276_1i, s276_1r, s276_1n, s276_2, s276_3i, s276_3r, s276_3n]
  exact g
/-- there are as many parts as places -/
theorem oa_ow (ha : qAl al) : ∀ (k l i j : Nat), l < 16384 → qb_pc l ≤ k → i + j < 1000 → (oa al k l i (nI (i + j)) = -1 ↔ ow al false k l ≤ j)
  | 0, l, i, j, _, _, _ => ⟨fun _ => Nat.zero_le _, fun _ => rfl⟩
  | k + 1, l, i, j, hl, hk, hj => by
    unfold oa ow
    by_cases h0 : l = 0
    · rw [if_pos h0, if_pos h0]
      exact ⟨fun _ => Nat.zero_le _, fun _ => rfl⟩
    · rw [if_neg h0, if_neg h0]
      obtain ⟨e1, e2, e3⟩ := qCl_next ha hl h0 qCl_self
      have hC : co al l (qb_lo l) < 16384 := qs_lt hl (fun j => co_s (al := al) (lo_in hl h0))
      rw [if_neg (show ¬ (false = true) by decide)]
      by_cases z : j = 0
      · rw [if_pos (by rw [z, Nat.add_zero])]
        refine ⟨fun h => ?_, fun h => absurd h (by omega)⟩
        rw [qi_n1 (show co al l (qb_lo l) < 2 ^ 31 by omega)] at h
        exact h.elim
      · rw [if_neg (fun h => z (by have := (nI_eq (by omega) (by omega)).mp h; omega))]
        have h := oa_ow ha k (qb_dif l (co al l (qb_lo l))) (i + 1) (j - 1) (dif_14 hl) (by omega) (by omega)
        rw [show i + 1 + (j - 1) = i + j by omega] at h
        rw [h]
        omega
theorem m277l {d s : Nat} {M : qxM} (ha : qAl al) (hn2 : n ≤ 14) (hs : s < 2 ^ n) (hn : M.1 401 0 = nI n) (hr : ∀ p, p < n → M.1 409 p = nI (al p)) : ∀ (k x j : Nat), j + k = ow al false 14 s →
    Rs L xs (d + 3) 277 2 [some (.ref 400), some (.int (nI s)), some (.int (nI j))] [] M x = some (.inl (some (.int (nI (ow al false 14 s)))), M, x) := by
  obtain ⟨k1, k2, k3⟩ := qx_m400
  have hs16 : s < 16384 := Nat.lt_of_lt_of_le hs (n14 hn2)
  have hle := ow_le al false 14 s
  intro k
  induction k with
  | zero =>
    intro x j hj
    have h276 := m276 (L := L) (xs := xs) (d := d) (x := 0) (z := nI j) (M := M) ha hn2 hs hn hr
    have e := (oa_ow ha 14 s 0 j hs16 (qb_pc_le s) (by omega)).mpr (by omega)
    rw [Nat.zero_add] at e
    rw [e] at h276
    rw [show j = ow al false 14 s by omega] at h276 ⊢
    have t : ((-1 : Int32) = -1) = True := eq_true rfl
    simp only [s277_2, s277_3, s277_4, s277_5, s277_8, s277_9, s277_18, s277_19, k1, h276, t, List.length_cons, List.length_nil, Nat.zero_le, Nat.reduceAdd, Nat.reduceLeDiff, Option.bind_some, qx_kn_v, qx_kn_n, Nat.add_zero, Bool.false_eq_true, ↓reduceIte]
  | succ k ih =>
    intro x j hj
    have h276 := m276 (L := L) (xs := xs) (d := d) (x := 0) (z := nI j) (M := M) ha hn2 hs hn hr
    have e : ¬ oa al 14 s 0 (nI j) = -1 := fun h => by
      rw [show nI j = nI (0 + j) by rw [Nat.zero_add]] at h
      have := (oa_ow ha 14 s 0 j hs16 (qb_pc_le s) (by omega)).mp h
      omega
    have g := ih x (j + 1) (by omega)
    simp only [s277_2, s277_3, s277_4, s277_5, s277_8, s277_9, s277_12i, s277_12r, s277_12n, k1, h276, e, nI_add, List.length_cons, List.length_nil, Nat.zero_le, Nat.reduceAdd, Nat.reduceLeDiff, Option.bind_some, qx_kn_v, qx_kn_n, Nat.add_zero, Bool.false_eq_true, ↓reduceIte]
    rw [s277_15, g]
theorem m277 {d x s : Nat} {M : qxM} (ha : qAl al) (hn2 : n ≤ 14) (hs : s < 2 ^ n) (hn : M.1 401 0 = nI n) (hr : ∀ p, p < n → M.1 409 p = nI (al p)) : Rs L xs (d + 3) 277 0 [some (.ref (400)), some (.int (nI s)), none] [] (M) x = some (.inl (some (.int (nI (ow al false 14 s)))), M, x) := by
  have g := m277l (L := L) (xs := xs) (d := d) (M := M) ha hn2 hs hn hr (ow al false 14 s) x 0 (by omega)
  simp only [s277_0, s277_1i, s277_1r, s277_1n]
  exact g
theorem m287l {d s : Nat} {M : qxM} (ha : qAl al) (hn2 : n ≤ 14) (hs : s < 2 ^ n) (hn : M.1 401 0 = nI n) (hr : ∀ p, p < n → M.1 409 p = nI (al p)) : ∀ (k x l c : Nat) (a4 : Option Value), qb_pc l ≤ k → qCl al s l →
    Rs L xs (d + 2) 287 4 [some (.ref 400), some (.int (nI s)), some (.int (nI c)), some (.int (nI l)), a4] [] M x = some (.inl (some (.int (nI (c + od al k l)))), M, x) := by
  obtain ⟨k1, k2, k3⟩ := qx_m400
  have hs16 : s < 16384 := Nat.lt_of_lt_of_le hs (n14 hn2)
  have hz : ∀ x c a4, Rs L xs (d + 2) 287 4 [some (.ref 400), some (.int (nI s)), some (.int (nI c)), some (.int (nI 0)), a4] [] M x = some (.inl (some (.int (nI c))), M, x) := fun x i a5 => by
    simp only [s287_4, s287_5, s287_39, s287_40, qi_z0, ↓reduceIte]
  intro k
  induction k with
  | zero =>
    intro x l c a4 hk h
    have h0 : l = 0 := qb_pc0 (qs_lt hs16 h.1) (fun j y => absurd (qd_pc y (qj (qs_lt hs16 h.1) y)) (by omega))
    subst h0
    exact hz x c a4
  | succ k ih =>
    intro x l c a4 hk h
    unfold od
    by_cases h0 : l = 0
    · subst h0
      rw [if_pos rfl]
      exact hz x c a4
    · rw [if_neg h0]
      have hl : l < 16384 := qs_lt hs16 h.1
      obtain ⟨e1, e2, e3⟩ := qCl_next ha hs16 h0 h
      have z0 : ¬ nI l = 0 := nI_ne0 (by omega) (by omega)
      have h210 := m210 (L := L) (xs := xs) (d := d) (x := 0) (M := M) hl (Nat.pos_of_ne_zero h0)
      have h275 := m275 (L := L) (xs := xs) (d := d) (x := 0) (M := M) hn2 hs (h.1 _ (lo_in hl h0)) hn hr
      rw [e1] at h275
      have hC : co al l (qb_lo l) < 16384 := qs_lt hl (fun j => co_s (al := al) (lo_in hl h0))
      have h2 : ¬ nI 2 = 0 := by decide
      have hmod := qi_mod2 (c := qb_pc (co al l (qb_lo l))) (by have := qb_pc_le (co al l (qb_lo l)); omega)
      have g := ih x (qb_dif l (co al l (qb_lo l))) (c + qb_pc (co al l (qb_lo l)) % 2) (some (.int (nI (co al l (qb_lo l))))) (by omega) e2
      rw [← Nat.add_assoc]
      simp only [s287_4, s287_5, s287_8, s287_9, s287_10, s287_13, s287_14, s287_17i, s287_17r, s287_17n, s287_19, s287_20, s287_22, s287_25, s287_26, s287_27, s287_28i, s287_28r, s287_28n, s287_29, s287_30, s287_32, s287_33, s287_34, s287_35i, s287_35r, s287_35n, k1, z0, h210, h275, m209 hC, h2, hmod, qb_andn, nI_add, not_false_eq_true, ne_eq, List.length_cons, List.length_nil, Nat.zero_le, Nat.reduceAdd, Nat.reduceLeDiff, Option.bind_some, qx_kn_v, qx_kn_n, Nat.add_zero, Bool.false_eq_true, ↓reduceIte]
      rw [s287_36, g]
theorem m287 {d x s : Nat} {M : qxM} (ha : qAl al) (hn2 : n ≤ 14) (hs : s < 2 ^ n) (hn : M.1 401 0 = nI n) (hr : ∀ p, p < n → M.1 409 p = nI (al p)) : Rs L xs (d + 2) 287 0 [some (.ref (400)), some (.int (nI s)), none, none, none] [] (M) x = some (.inl (some (.int (nI (od al 14 s)))), M, x) := by
  have g := m287l (L := L) (xs := xs) (d := d) (M := M) ha hn2 hs hn hr 14 x s 0 none (qb_pc_le s) qCl_self
  rw [Nat.zero_add] at g
  simp only [s287_0, s287_1i, s287_1r, s287_1n, s287_2, s287_3i, s287_3r, s287_3n]
  exact g
/-- whether a set proves -/
noncomputable def prf (al : Nat → Nat) (n s : Nat) : Bool := decide (n + qb_pc s = 2 * mF al (2 ^ n - 1) + od al 14 (qb_dif (2 ^ n - 1) s))
theorem m288 {d x s : Nat} {M : qxM} (ha : qAl al) (hn2 : n ≤ 14) (hs : s < 16384) (hn : M.1 401 0 = nI n) (hl : qLay al n M) : Rs L xs (d + 3) 288 0 [some (.ref (400)), some (.int (nI s))] [] (M) x = some (.inl (some (.int (bI (prf al n s)))), M, x) := by
  obtain ⟨k1, k2, k3⟩ := qx_m400
  obtain ⟨y1, y2, y3, y4, y5, y6⟩ := qx_m407
  have hpos : 0 < 2 ^ n := Nat.two_pow_pos n
  have h16 := n14 hn2
  have h212 := fun d => m212 (L := L) (xs := xs) (d := d) (x := 0) hn hn2
  have hle : qb_dif (2 ^ n - 1) s ≤ 2 ^ n - 1 := pc_le_of (fun j hj => (qm_in.mp hj).1)
  have h287 := m287 (L := L) (xs := xs) (d := d) (x := 0) (s := qb_dif (2 ^ n - 1) s) ha hn2 (by omega) hn hl.1
  obtain ⟨c1, c2⟩ := qc_i (show 2 ^ n - 1 < 16384 by omega)
  have hF := (hl.2 (2 ^ n - 1) (by omega)).1
  have hF7 := F_7 (al := al) (show 2 ^ n - 1 < 16384 by omega)
  have ho : od al 14 (qb_dif (2 ^ n - 1) s) ≤ 14 := by
    rw [← ow_od]
    exact ow_le _ _ _ _
  have hpc := qb_pc_le s
  have e := qi_subeq (a := n + qb_pc s) (b := od al 14 (qb_dif (2 ^ n - 1) s)) (c := 2 * mF al (2 ^ n - 1)) (by omega) (by omega) (by omega)
  unfold prf
  by_cases y : n + qb_pc s = od al 14 (qb_dif (2 ^ n - 1) s) + 2 * mF al (2 ^ n - 1)
  · have e1 : (nI (n + qb_pc s) - nI (od al 14 (qb_dif (2 ^ n - 1) s)) = nI (2 * mF al (2 ^ n - 1))) = True := by rw [e]; exact eq_true y
    rw [decide_eq_true (by omega)]
    simp only [s288_0, s288_1, s288_4, s288_5, s288_6, s288_7, s288_10, s288_11, s288_12, s288_13, s288_16, s288_17, s288_18, s288_19, s288_20, s288_23, s288_24, s288_25, s288_26, s288_29, s288_30, s288_33, s288_33z, s288_34, s288_35, s288_38, s288_39, s288_42, s288_43, k1, k2, k3, y1, y2, hn, m209 hs, h212, qb_andn, h287, c1, c2, hF, pk_mul, nI_add, e1, qx_z1, (qn_c (0) (by omega)).1, (qn_c (0) (by omega)).2, List.length_cons, List.length_nil, Nat.zero_le, Nat.reduceAdd, Nat.reduceLeDiff, Option.bind_some, qx_kn_v, qx_kn_n, Nat.add_zero, Bool.false_eq_true, ↓reduceIte]
    rfl
  · rw [decide_eq_false (by omega)]
    simp only [s288_0, s288_1, s288_4, s288_5, s288_6, s288_7, s288_10, s288_11, s288_12, s288_13, s288_16, s288_17, s288_18, s288_19, s288_20, s288_23, s288_24, s288_25, s288_26, s288_29, s288_30, s288_33, s288_33z, s288_34, s288_35, s288_38, s288_39, s288_42, s288_43, k1, k2, k3, y1, y2, hn, m209 hs, h212, qb_andn, h287, c1, c2, hF, pk_mul, nI_add, e, y, qx_z0, (qn_c (0) (by omega)).1, (qn_c (0) (by omega)).2, List.length_cons, List.length_nil, Nat.zero_le, Nat.reduceAdd, Nat.reduceLeDiff, Option.bind_some, qx_kn_v, qx_kn_n, Nat.add_zero, Bool.false_eq_true, ↓reduceIte]
    rfl
end QL
