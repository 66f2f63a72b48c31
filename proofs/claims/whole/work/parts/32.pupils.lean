/-! Pupils: loops, changes. -/
/-- f i + .. + f (i + k - 1) -/
def qp_sm (f : Nat → Nat) : Nat → Nat → Nat
  | _, 0 => 0
  | i, k + 1 => f i + qp_sm f (i + 1) k
theorem qp_sm_succ (f : Nat → Nat) (i k : Nat) : qp_sm f i (k + 1) = f i + qp_sm f (i + 1) k := rfl
theorem qp_sm_le {f : Nat → Nat} {c : Nat} (h : ∀ j, f j ≤ c) : ∀ k i, qp_sm f i k ≤ k * c
  | 0, _ => Nat.zero_le _
  | k + 1, i => by
    have h1 := qp_sm_le h k (i + 1)
    have h2 := h i
    show f i + qp_sm f (i + 1) k ≤ (k + 1) * c
    rw [Nat.succ_mul]
    omega
theorem qb_pc_le (s : Nat) : qb_pc s ≤ 14 := fb_ct_le _ _
section QL
variable {L : Nat} {xs : Nat → Int32} {d x : Nat} {M : qxM}
theorem m44l {t n : Nat} {f : Nat → Nat} (hP : qx_P t) (hn : M.1 t 0 = nI n) (hn2 : n ≤ 14) (hf : ∀ p, p < 14 → M.1 (t + 1) p = nI (f p) ∧ f p < 16384) : ∀ (k i a : Nat), i + k = n → a + 14 * k ≤ 1000 →
    Rs L xs (d + 1) 44 4 [some (.ref t), some (.int (nI a)), some (.int (nI i))] [] M x = some (.inl (some (.int (nI ((a + qp_sm (fun p => qb_pc (f p)) i k) / 2)))), M, x) := by
  intro k
  induction k with
  | zero =>
    intro i a hi ha
    have h1 : (nI n ≤ nI i) = True := by rw [show i = n by omega]; exact eq_true (Int32.le_refl _)
    have h2 : nI a / nI 2 = nI (a / 2) := pk_div (by omega) (by decide) (by decide)
    have h3 : ¬ nI 2 = 0 := by decide
    simp only [s44_0, s44_1i, s44_1r, s44_1n, s44_2, s44_3i, s44_3r, s44_3n, s44_4, s44_5, s44_6, s44_9, s44_12, s44_13, s44_14, s44_15, s44_18, s44_21, s44_22i, s44_22r, s44_22n, s44_23i, s44_23r, s44_23n, s44_29, s44_30, s44_31, s44_32, hP.1, hn, h1, ↓reduceIte, h2, h3, not_false_eq_true, ne_eq]
    rfl
  | succ k ih =>
    intro i a hi ha
    have h1 : ¬ nI n ≤ nI i := nI_ge (by omega) (by omega)
    have hp : i < 14 := by omega
    obtain ⟨g1, g2⟩ := hf i hp
    have hc := qb_pc_le (f i)
    simp only [s44_0, s44_1i, s44_1r, s44_1n, s44_2, s44_3i, s44_3r, s44_3n, s44_4, s44_5, s44_6, s44_9, s44_12, s44_13, s44_14, s44_15, s44_18, s44_21, s44_22i, s44_22r, s44_22n, s44_23i, s44_23r, s44_23n, s44_29, s44_30, s44_31, s44_32, hP.1, hn, h1, ↓reduceIte, List.length_cons, List.length_nil, Nat.zero_le, Nat.reduceAdd, Nat.reduceLeDiff, m39 hP hp, g1, Option.bind_some, qx_kn_v, Nat.add_zero, m334, qb_bc_ok g2, nI_add]
    rw [s44_26, ih (i + 1) _ (by omega) (by omega), Nat.add_assoc]
    rfl
theorem m44 {t n : Nat} {f : Nat → Nat} (hP : qx_P t) (hn : M.1 t 0 = nI n) (hn2 : n ≤ 14) (hf : ∀ p, p < 14 → M.1 (t + 1) p = nI (f p) ∧ f p < 16384) :
    Rs L xs (d + 1) 44 0 [some (.ref t), none, none] [] M x = some (.inl (some (.int (nI (qp_sm (fun p => qb_pc (f p)) 0 n / 2)))), M, x) := by
  have h := m44l (L := L) (xs := xs) (d := d) (x := x) hP hn hn2 hf n 0 0 (by omega) (by omega)
  rw [Nat.zero_add] at h
  simp only [s44_0, s44_1i, s44_1r, s44_1n, s44_2, s44_3i, s44_3r, s44_3n, s44_5, s44_6, s44_9, s44_12, s44_13, s44_14, s44_15, s44_18, s44_21, s44_22i, s44_22r, s44_22n, s44_23i, s44_23r, s44_23n, s44_26, s44_29, s44_30, s44_31, s44_32]
  exact h
theorem qp_al_lt {r k s p : Nat} (hs : s < 16384) : qp_al r k s p < 16384 := by
  unfold qp_al
  split
  · exact hs
  · split
    · exact qb_dif_le (n := 14) hs
    · exact Nat.lt_of_le_of_lt Nat.and_le_left hs
theorem m45l {t n r q : Nat} {f : Nat → Nat} (hP : qx_P t) (hn : M.1 t 0 = nI n) (hn2 : n ≤ 14) (hr : r ≤ 2) (hr2 : M.1 t 1 = nI r) (hq : M.1 t 2 = nI q) (hq2 : q < 16384) (hf : ∀ p, p < 14 → M.1 (t + 1) p = nI (f p) ∧ f p < 16384) : ∀ (k i a : Nat), i + k = n → a + 14 * k ≤ 1000 →
    Rs L xs (d + 3) 45 4 [some (.ref t), some (.int (nI a)), some (.int (nI i))] [] M x = some (.inl (some (.int (nI ((a + qp_sm (fun p => qb_pc (qp_al r q (f p) p)) i k) / 2)))), M, x) := by
  intro k
  induction k with
  | zero =>
    intro i a hi ha
    have h1 : (nI n ≤ nI i) = True := by rw [show i = n by omega]; exact eq_true (Int32.le_refl _)
    have h2 : nI a / nI 2 = nI (a / 2) := pk_div (by omega) (by decide) (by decide)
    have h3 : ¬ nI 2 = 0 := by decide
    simp only [s45_0, s45_1i, s45_1r, s45_1n, s45_2, s45_3i, s45_3r, s45_3n, s45_4, s45_5, s45_6, s45_9, s45_12, s45_13, s45_14, s45_15, s45_18, s45_21, s45_22i, s45_22r, s45_22n, s45_23i, s45_23r, s45_23n, s45_29, s45_30, s45_31, s45_32, hP.1, hn, h1, ↓reduceIte, h2, h3, not_false_eq_true, ne_eq]
    rfl
  | succ k ih =>
    intro i a hi ha
    have h1 : ¬ nI n ≤ nI i := nI_ge (by omega) (by omega)
    have hp : i < 14 := by omega
    obtain ⟨g1, g2⟩ := hf i hp
    have g3 := qp_al_lt (r := r) (k := q) (p := i) g2
    have hc := qb_pc_le (qp_al r q (f i) i)
    simp only [s45_0, s45_1i, s45_1r, s45_1n, s45_2, s45_3i, s45_3r, s45_3n, s45_4, s45_5, s45_6, s45_9, s45_12, s45_13, s45_14, s45_15, s45_18, s45_21, s45_22i, s45_22r, s45_22n, s45_23i, s45_23r, s45_23n, s45_29, s45_30, s45_31, s45_32, hP.1, hn, h1, ↓reduceIte, List.length_cons, List.length_nil, Nat.zero_le, Nat.reduceAdd, Nat.reduceLeDiff, m42 hP hp hr hr2 hq hq2 g1, Option.bind_some, qx_kn_v, Nat.add_zero, m334, qb_bc_ok g3, nI_add]
    rw [s45_26, ih (i + 1) _ (by omega) (by omega), Nat.add_assoc]
    rfl
theorem m45 {t n r q : Nat} {f : Nat → Nat} (hP : qx_P t) (hn : M.1 t 0 = nI n) (hn2 : n ≤ 14) (hr : r ≤ 2) (hr2 : M.1 t 1 = nI r) (hq : M.1 t 2 = nI q) (hq2 : q < 16384) (hf : ∀ p, p < 14 → M.1 (t + 1) p = nI (f p) ∧ f p < 16384) :
    Rs L xs (d + 3) 45 0 [some (.ref t), none, none] [] M x = some (.inl (some (.int (nI (qp_sm (fun p => qb_pc (qp_al r q (f p) p)) 0 n / 2)))), M, x) := by
  have h := m45l (L := L) (xs := xs) (d := d) (x := x) hP hn hn2 hr hr2 hq hq2 hf n 0 0 (by omega) (by omega)
  rw [Nat.zero_add] at h
  simp only [s45_0, s45_1i, s45_1r, s45_1n, s45_2, s45_3i, s45_3r, s45_3n, s45_5, s45_6, s45_9, s45_12, s45_13, s45_14, s45_15, s45_18, s45_21, s45_22i, s45_22r, s45_22n, s45_23i, s45_23r, s45_23n, s45_26, s45_29, s45_30, s45_31, s45_32]
  exact h
theorem m48l {t n : Nat} (hP : qx_P t) (hn : M.1 t 0 = nI n) (hn2 : n ≤ 14) : ∀ (k i a : Nat), i + k = n → a + 14 * k ≤ 1000 →
    Rs L xs (d + 2) 48 4 [some (.ref t), some (.int (nI a)), some (.int (nI i))] [] M x = some (.inl (some (.int (nI ((a + qp_sm (fun p => if M.1 (t + 2) p = -1 then 0 else 1) i k) / 2)))), M, x) := by
  intro k
  induction k with
  | zero =>
    intro i a hi ha
    have h1 : (nI n ≤ nI i) = True := by rw [show i = n by omega]; exact eq_true (Int32.le_refl _)
    have h2 : nI a / nI 2 = nI (a / 2) := pk_div (by omega) (by decide) (by decide)
    have h3 : ¬ nI 2 = 0 := by decide
    simp only [s48_0, s48_1i, s48_1r, s48_1n, s48_2, s48_3i, s48_3r, s48_3n, s48_4, s48_5, s48_6, s48_9, s48_12, s48_13, s48_14, s48_15, s48_18, s48_21, s48_22, s48_25, s48_26, s48_27i, s48_27r, s48_27n, s48_28i, s48_28r, s48_28n, s48_34, s48_35, s48_36, s48_37, hP.1, hn, h1, ↓reduceIte, h2, h3, not_false_eq_true, ne_eq]
    rfl
  | succ k ih =>
    intro i a hi ha
    have h1 : ¬ nI n ≤ nI i := nI_ge (by omega) (by omega)
    have hp : i < 14 := by omega
    simp only [s48_0, s48_1i, s48_1r, s48_1n, s48_2, s48_3i, s48_3r, s48_3n, s48_4, s48_5, s48_6, s48_9, s48_12, s48_13, s48_14, s48_15, s48_18, s48_21, s48_22, s48_25, s48_26, s48_27i, s48_27r, s48_27n, s48_28i, s48_28r, s48_28n, s48_34, s48_35, s48_36, s48_37, hP.1, hn, h1, ↓reduceIte, List.length_cons, List.length_nil, Nat.zero_le, Nat.reduceAdd, Nat.reduceLeDiff, m47 hP hp, Option.bind_some, qx_kn_v, Nat.add_zero, bI_0, nI_add, decide_eq_false_iff_not]
    by_cases h : M.1 (t + 2) i = -1
    · simp only [h, not_true_eq_false, ↓reduceIte]
      rw [s48_31, ih (i + 1) _ (by omega) (by omega)]
      rw [qp_sm_succ, if_pos h, Nat.zero_add]
    · simp only [h, not_false_eq_true, ↓reduceIte]
      rw [s48_31, ih (i + 1) _ (by omega) (by omega)]
      rw [qp_sm_succ, if_neg h, Nat.add_assoc]
theorem m48 {t n : Nat} (hP : qx_P t) (hn : M.1 t 0 = nI n) (hn2 : n ≤ 14) :
    Rs L xs (d + 2) 48 0 [some (.ref t), none, none] [] M x = some (.inl (some (.int (nI (qp_sm (fun p => if M.1 (t + 2) p = -1 then 0 else 1) 0 n / 2)))), M, x) := by
  have h := m48l (L := L) (xs := xs) (d := d) (x := x) hP hn hn2 n 0 0 (by omega) (by omega)
  rw [Nat.zero_add] at h
  simp only [s48_0, s48_1i, s48_1r, s48_1n, s48_2, s48_3i, s48_3r, s48_3n, s48_5, s48_6, s48_9, s48_12, s48_13, s48_14, s48_15, s48_18, s48_21, s48_22, s48_25, s48_26, s48_27i, s48_27r, s48_27n, s48_28i, s48_28r, s48_28n, s48_31, s48_34, s48_35, s48_36, s48_37]
  exact h
/-- join -/
theorem m49 {t a b : Nat} (hP : qx_P t) (ha : a < 14) (hb : b < 14) : Rs L xs (d + 1) 49 0 [some (.ref t), some (.int (nI a)), some (.int (nI b))] [] M x = some (.inl none, qx_up (qx_up M (t + 2) a (nI b)) (t + 2) b (nI a), x) := by
  obtain ⟨k1, k2, k3, k4, k5⟩ := hP
  simp only [s49_0, s49_1, s49_4, s49_5, s49_6, s49_9, s49_10, s49_13, s49_14, s49_15, s49_18, k1, List.length_nil, Nat.zero_le, m174 k4 k5 ha (by decide), m174 k4 k5 hb (by decide), Option.bind_some, qx_kn_n, Nat.add_zero]
/-- unjoin of one that has a mate -/
theorem m50 {t a b : Nat} (hP : qx_P t) (ha : a < 14) (hb : b < 14) (hm : M.1 (t + 2) a = nI b) : Rs L xs (d + 1) 50 0 [some (.ref t), some (.int (nI a))] [] M x = some (.inl none, qx_up (qx_up M (t + 2) b (-1)) (t + 2) a (-1), x) := by
  have hP2 := hP
  obtain ⟨k1, k2, k3, k4, k5⟩ := hP
  simp only [s50_0, s50_1, s50_4, s50_5, s50_6, s50_9, s50_10, s50_13, s50_14, s50_17, s50_18, s50_19, s50_22, k1, List.length_nil, List.length_cons, Nat.reduceAdd, Nat.reduceLeDiff, Nat.zero_le, m46 hP2 ha, hm, m174 k4 k5 ha (by decide), m174 k4 k5 hb (by decide), Option.bind_some, qx_kn_n, qx_kn_v, Nat.add_zero]
end QL
