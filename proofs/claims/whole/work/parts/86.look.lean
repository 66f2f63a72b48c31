/-! Calls that look: groups counted, search, blossoms. -/
theorem fb_ct_inj {n : Nat} {f : Nat → Nat} : ∀ (m : Nat) (A B : Nat → Bool), fb_ct A n ≤ m → (∀ a, a < n → A a = true → f a < n ∧ B (f a) = true) → (∀ a b, a < n → b < n → A a = true → A b = true → f a = f b → a = b) → fb_ct A n ≤ fb_ct B n := by
  intro m
  induction m with
  | zero => intro A B h _ _; omega
  | succ m ih =>
    intro A B h h1 h2
    by_cases z : 0 < fb_ct A n
    · obtain ⟨a, a1, a2⟩ := fb_ct_pos.mp z
      obtain ⟨b1, b2⟩ := h1 a a1 a2
      have e1 : fb_ct (fun k => if k = a then false else A k) n + 1 = fb_ct A n := fb_ct_drop A a1 a2
      have e2 : fb_ct (fun k => if k = f a then false else B k) n + 1 = fb_ct B n := fb_ct_drop B b1 b2
      have h3 := ih (fun k => if k = a then false else A k) (fun k => if k = f a then false else B k) (by omega) (by
        intro c c1 c2
        by_cases y : c = a
        · rw [if_pos y] at c2
          exact absurd c2 (by decide)
        · rw [if_neg y] at c2
          obtain ⟨d1, d2⟩ := h1 c c1 c2
          refine ⟨d1, ?_⟩
          show (if f c = f a then false else B (f c)) = true
          rw [if_neg (fun w => y (h2 c a c1 a1 c2 a2 w)), d2]) (by
        intro c e c1 e1 c2 e2 heq
        by_cases y : c = a
        · rw [if_pos y] at c2
          exact absurd c2 (by decide)
        · by_cases y2 : e = a
          · rw [if_pos y2] at e2
            exact absurd e2 (by decide)
          · rw [if_neg y] at c2
            rw [if_neg y2] at e2
            exact h2 c e c1 e1 c2 e2 heq)
      omega
    · omega
/-- as many groups by their bases as by their smallest -/
theorem qg_groups {n : Nat} {bs : Nat → Nat} (hb : ∀ p, p < n → bs p < n) (hi : ∀ p, bs (bs p) = bs p) (P : Nat → Bool) :
    fb_ct (fun p => decide (bs p = p) && P p) n = fb_ct (fun p => decide (∀ q, q < p → bs q ≠ bs p) && P (bs p)) n := by
  apply Nat.le_antisymm
  · refine fb_ct_inj (f := fun b => fa_first (fun q => bs q == b) n) n _ _ (fb_ct_le _ _) ?_ ?_
    · intro a a1 a2
      simp only [Bool.and_eq_true, decide_eq_true_eq] at a2
      have hlt : fa_first (fun q => bs q == a) n < n := by
        by_cases z : fa_first (fun q => bs q == a) n < n
        · exact z
        · have := fa_first_no (fun q => bs q == a) n a (by omega)
          simp [a2.1] at this
      have hy := fa_first_yes (fun q => bs q == a) n hlt
      have hy2 : bs (fa_first (fun q => bs q == a) n) = a := by simpa using hy
      refine ⟨hlt, ?_⟩
      simp only [Bool.and_eq_true, decide_eq_true_eq]
      rw [hy2]
      refine ⟨?_, a2.2⟩
      intro q hq
      have := fa_first_no (fun q => bs q == a) n q hq
      simpa using this
    · intro a b a1 b1 a2 b2 heq
      simp only [Bool.and_eq_true, decide_eq_true_eq] at a2 b2
      have hl : ∀ c, c < n → bs c = c → bs (fa_first (fun q => bs q == c) n) = c := by
        intro c c1 c2
        have hlt : fa_first (fun q => bs q == c) n < n := by
          by_cases z : fa_first (fun q => bs q == c) n < n
          · exact z
          · have := fa_first_no (fun q => bs q == c) n c (by omega)
            simp [c2] at this
        simpa using fa_first_yes (fun q => bs q == c) n hlt
      have e1 := hl a a1 a2.1
      have e2 := hl b b1 b2.1
      have heq2 : fa_first (fun q => bs q == a) n = fa_first (fun q => bs q == b) n := heq
      rw [heq2, e2] at e1
      exact e1.symm
  · refine fb_ct_inj (f := bs) n _ _ (fb_ct_le _ _) ?_ ?_
    · intro a a1 a2
      simp only [Bool.and_eq_true, decide_eq_true_eq] at a2
      refine ⟨hb a a1, ?_⟩
      simp only [Bool.and_eq_true, decide_eq_true_eq]
      exact ⟨hi a, a2.2⟩
    · intro a b a1 b1 a2 b2 heq
      simp only [Bool.and_eq_true, decide_eq_true_eq] at a2 b2
      by_cases z : a < b
      · exact absurd heq (b2.1 a z)
      · by_cases y : b < a
        · exact absurd heq.symm (a2.1 b y)
        · omega
section QL
variable {L : Nat} {xs : Nat → Int32} {d x : Nat} {M : qxM}
theorem m172 {s p : Nat} (hs : s < 16384) (hp : p < 14) : Rs L xs (d + 1) 172 0 [some (.int (nI s)), some (.int (nI p))] [] (M) x = some (.inl (some (.int (bI (s.testBit p && decide (s % 2 ^ p = 0))))), M, x) := by
  have h1 := m170 (L := L) (xs := xs) (d := d) (x := 0) (M := M) (show s < 2 ^ 31 by omega) (show p < 31 by omega)
  have h2 : nI (2 ^ p) - nI 1 = nI (2 ^ p - 1) := pk_sub (Nat.one_le_two_pow)
  have hlt : s % 2 ^ p < 2 ^ 31 := Nat.lt_of_le_of_lt (Nat.mod_le _ _) (by omega)
  cases hb : s.testBit p
  · rw [hb] at h1
    simp only [s172_0, s172_1, s172_2, s172_5, s172_8, s172_9, s172_10, s172_13, s172_14, s172_15, s172_16, s172_19, s172_20, s172_23, s172_24, h1, qbf, Bool.false_and, qx_z0, List.length_cons, List.length_nil, Nat.zero_le, Nat.reduceAdd, Nat.reduceLeDiff, Option.bind_some, qx_kn_v, qx_kn_n, Nat.add_zero, Bool.false_eq_true, ↓reduceIte]
    rfl
  · rw [hb] at h1
    by_cases z : s % 2 ^ p = 0
    · have h3 : (nI (s % 2 ^ p) = 0) = True := by rw [z]; decide
      simp only [s172_0, s172_1, s172_2, s172_5, s172_8, s172_9, s172_10, s172_13, s172_14, s172_15, s172_16, s172_19, s172_20, s172_23, s172_24, h1, qbt, m169 (show p < 31 by omega), h2, fa_mask, h3, qx_z1, List.length_cons, List.length_nil, Nat.zero_le, Nat.reduceAdd, Nat.reduceLeDiff, Option.bind_some, qx_kn_v, qx_kn_n, Nat.add_zero, Bool.false_eq_true, ↓reduceIte]
      rw [decide_eq_true z]
      rfl
    · have h3 : (nI (s % 2 ^ p) = 0) = False := eq_false (nI_ne0 (by omega) hlt)
      simp only [s172_0, s172_1, s172_2, s172_5, s172_8, s172_9, s172_10, s172_13, s172_14, s172_15, s172_16, s172_19, s172_20, s172_23, s172_24, h1, qbt, m169 (show p < 31 by omega), h2, fa_mask, h3, qx_z0, List.length_cons, List.length_nil, Nat.zero_le, Nat.reduceAdd, Nat.reduceLeDiff, Option.bind_some, qx_kn_v, qx_kn_n, Nat.add_zero, Bool.false_eq_true, ↓reduceIte]
      rw [decide_eq_false z]
      rfl
theorem qb_mod0 {p : Nat} (s : Nat) : s % 2 ^ p = 0 ↔ ∀ q, q < p → s.testBit q = false := by
  constructor
  · intro h q hq
    have := congrArg (fun z => z.testBit q) h
    simp only [Nat.testBit_mod_two_pow, Nat.zero_testBit] at this
    simpa [hq] using this
  · intro h
    apply Nat.eq_of_testBit_eq
    intro q
    rw [Nat.testBit_mod_two_pow, Nat.zero_testBit]
    by_cases z : q < p
    · simp [h q z]
    · simp [z]
/-- the class counts the groups -/
theorem a115l {n st k0 : Nat} {bs : Nat → Nat} (hn14 : n ≤ 14) (hk : k0 ≤ 14) (hn : M.1 101 0 = nI n) (hst : M.1 104 0 = nI st) (hst4 : st < 4) (hs : st ≠ 0) (hb : qB 104 M bs) (hb2 : ∀ p, p < 14 → bs p < 14) : ∀ (k i : Nat) (a4 : Option Value), i + k = n →
    Rs L xs (d + 4) 115 4 [some (.ref 10), some (.int (nI k0)), some (.int (nI (fb_ct (fun p => decide (∀ q, q < p → bs q ≠ bs p) && decide (k0 ≤ qb_pc (qb_of (fun q => bs q == bs p) 14))) i))), some (.int (nI i)), a4] [] M x =
      some (.inl (some (.int (nI (fb_ct (fun p => decide (∀ q, q < p → bs q ≠ bs p) && decide (k0 ≤ qb_pc (qb_of (fun q => bs q == bs p) 14))) n)))), M, x) := by
  intro k
  induction k with
  | zero =>
    intro i a4 hi
    have h1 : (nI n ≤ nI i) = True := by rw [show i = n by omega]; exact eq_true (Int32.le_refl _)
    rw [show i = n by omega] at h1 ⊢
    simp only [s115_0, s115_1i, s115_1r, s115_1n, s115_2, s115_3i, s115_3r, s115_3n, s115_4, s115_5, s115_6, s115_9, s115_12, s115_15, s115_18, s115_19, s115_20, s115_23i, s115_23r, s115_23n, s115_25, s115_27, s115_28, s115_31, s115_34, s115_36, s115_39, s115_40, s115_43i, s115_43r, s115_43n, s115_46i, s115_46r, s115_46n, s115_52, s115_53, qx_m10, qx_T100.1, qx_T100.2.1.1, hn, h1, ↓reduceIte]
  | succ k ih =>
    intro i a4 hi
    have h1 : ¬ nI n ≤ nI i := nI_ge (by omega) (by omega)
    have hi14 : i < 14 := by omega
    have hg := fun d x => a106 (L := L) (xs := xs) (d := d) (x := x) hi14 hst hst4 hb (fun _ => hb2)
    simp only [hs, ↓reduceIte] at hg
    have hlt : qb_of (fun q => bs q == bs i) 14 < 16384 := qb_of_lt14 _ (Nat.le_refl _)
    have hs1 : (qb_of (fun q => bs q == bs i) 14).testBit i = true := by rw [qb_of_bit]; simp [hi14]
    have hs2 : decide (qb_of (fun q => bs q == bs i) 14 % 2 ^ i = 0) = decide (∀ q, q < i → bs q ≠ bs i) := by
      congr 1
      apply propext
      rw [qb_mod0]
      constructor
      · intro h q hq
        have := h q hq
        rw [qb_of_bit] at this
        simpa [show q < 14 by omega] using this
      · intro h q hq
        rw [qb_of_bit]
        simpa [show q < 14 by omega] using h q hq
    have h172 := fun d x => m172 (L := L) (xs := xs) (d := d) (x := x) (M := M) hlt hi14
    rw [hs1, hs2, Bool.true_and] at h172
    have hpc := qb_pc_le (qb_of (fun q => bs q == bs i) 14)
    have hcl := fb_ct_le (fun p => decide (∀ q, q < p → bs q ≠ bs p) && decide (k0 ≤ qb_pc (qb_of (fun q => bs q == bs p) 14))) i
    have h2 := ih (i + 1) (some (.int (nI (qb_of (fun q => bs q == bs i) 14)))) (by omega)
    rw [fb_ct_succ] at h2
    by_cases z : ∀ q, q < i → bs q ≠ bs i
    · rw [decide_eq_true z] at h172
      by_cases y : k0 ≤ qb_pc (qb_of (fun q => bs q == bs i) 14)
      · rw [if_pos (by rw [decide_eq_true z, decide_eq_true y]; rfl)] at h2
        have h3 : ¬ nI (qb_pc (qb_of (fun q => bs q == bs i) 14)) < nI k0 := nI_nlt y (by omega)
        simp only [s115_0, s115_1i, s115_1r, s115_1n, s115_2, s115_3i, s115_3r, s115_3n, s115_4, s115_5, s115_6, s115_9, s115_12, s115_15, s115_18, s115_19, s115_20, s115_23i, s115_23r, s115_23n, s115_25, s115_27, s115_28, s115_31, s115_34, s115_36, s115_39, s115_40, s115_43i, s115_43r, s115_43n, s115_46i, s115_46r, s115_46n, s115_52, s115_53, qx_m10, qx_T100.1, qx_T100.2.1.1, hn, h1, hg, h172, qbt, m334, qb_bc_ok hlt, h3, nI_add, List.length_cons, List.length_nil, Nat.zero_le, Nat.reduceAdd, Nat.reduceLeDiff, Option.bind_some, qx_kn_v, qx_kn_n, Nat.add_zero, Bool.false_eq_true, ↓reduceIte]
        rw [s115_49, h2]
      · rw [if_neg (by rw [decide_eq_false y, Bool.and_false]; decide)] at h2
        simp only [Nat.add_zero] at h2
        have h3 : nI (qb_pc (qb_of (fun q => bs q == bs i) 14)) < nI k0 := nI_lt (by omega) (by omega)
        simp only [s115_0, s115_1i, s115_1r, s115_1n, s115_2, s115_3i, s115_3r, s115_3n, s115_4, s115_5, s115_6, s115_9, s115_12, s115_15, s115_18, s115_19, s115_20, s115_23i, s115_23r, s115_23n, s115_25, s115_27, s115_28, s115_31, s115_34, s115_36, s115_39, s115_40, s115_43i, s115_43r, s115_43n, s115_46i, s115_46r, s115_46n, s115_52, s115_53, qx_m10, qx_T100.1, qx_T100.2.1.1, hn, h1, hg, h172, qbt, m334, qb_bc_ok hlt, h3, nI_add, List.length_cons, List.length_nil, Nat.zero_le, Nat.reduceAdd, Nat.reduceLeDiff, Option.bind_some, qx_kn_v, qx_kn_n, Nat.add_zero, Bool.false_eq_true, ↓reduceIte]
        rw [s115_49, h2]
    · rw [decide_eq_false z] at h172
      rw [if_neg (by rw [decide_eq_false z, Bool.false_and]; decide)] at h2
      simp only [Nat.add_zero] at h2
      simp only [s115_0, s115_1i, s115_1r, s115_1n, s115_2, s115_3i, s115_3r, s115_3n, s115_4, s115_5, s115_6, s115_9, s115_12, s115_15, s115_18, s115_19, s115_20, s115_23i, s115_23r, s115_23n, s115_25, s115_27, s115_28, s115_31, s115_34, s115_36, s115_39, s115_40, s115_43i, s115_43r, s115_43n, s115_46i, s115_46r, s115_46n, s115_52, s115_53, qx_m10, qx_T100.1, qx_T100.2.1.1, hn, h1, hg, h172, qbf, nI_add, List.length_cons, List.length_nil, Nat.zero_le, Nat.reduceAdd, Nat.reduceLeDiff, Option.bind_some, qx_kn_v, qx_kn_n, Nat.add_zero, Bool.false_eq_true, ↓reduceIte]
      rw [s115_49, h2]
theorem a115z {n k0 : Nat} {bs : Nat → Nat} (hn14 : n ≤ 14) (hn : M.1 101 0 = nI n) (hst : M.1 104 0 = nI 0) (hb : qB 104 M bs) : ∀ (k i : Nat) (a4 : Option Value), i + k = n →
    Rs L xs (d + 4) 115 4 [some (.ref 10), some (.int (nI k0)), some (.int (nI 0)), some (.int (nI i)), a4] [] M x = some (.inl (some (.int (nI 0))), M, x) := by
  intro k
  induction k with
  | zero =>
    intro i a4 hi
    have h1 : (nI n ≤ nI i) = True := by rw [show i = n by omega]; exact eq_true (Int32.le_refl _)
    simp only [s115_0, s115_1i, s115_1r, s115_1n, s115_2, s115_3i, s115_3r, s115_3n, s115_4, s115_5, s115_6, s115_9, s115_12, s115_15, s115_18, s115_19, s115_20, s115_23i, s115_23r, s115_23n, s115_25, s115_27, s115_28, s115_31, s115_34, s115_36, s115_39, s115_40, s115_43i, s115_43r, s115_43n, s115_46i, s115_46r, s115_46n, s115_52, s115_53, qx_m10, qx_T100.1, qx_T100.2.1.1, hn, h1, ↓reduceIte]
  | succ k ih =>
    intro i a4 hi
    have h1 : ¬ nI n ≤ nI i := nI_ge (by omega) (by omega)
    have hi14 : i < 14 := by omega
    have hg : ∀ d x, Rs L xs (d + 3) 106 0 [some (.ref 10), some (.int (nI i))] [] M x = some (.inl (some (.int (nI 0))), M, x) := fun d x => a106 (L := L) (xs := xs) (d := d) (x := x) (st := 0) hi14 hst (by decide) hb (fun h => absurd rfl h)
    have h172 : ∀ d x, Rs L xs (d + 1) 172 0 [some (.int (nI 0)), some (.int (nI i))] [] M x = some (.inl (some (.int (bI false))), M, x) := fun d x => by
      have := m172 (L := L) (xs := xs) (d := d) (x := x) (M := M) (s := 0) (by decide) hi14
      rw [Nat.zero_testBit, Bool.false_and] at this
      exact this
    simp only [s115_0, s115_1i, s115_1r, s115_1n, s115_2, s115_3i, s115_3r, s115_3n, s115_4, s115_5, s115_6, s115_9, s115_12, s115_15, s115_18, s115_19, s115_20, s115_23i, s115_23r, s115_23n, s115_25, s115_27, s115_28, s115_31, s115_34, s115_36, s115_39, s115_40, s115_43i, s115_43r, s115_43n, s115_46i, s115_46r, s115_46n, s115_52, s115_53, qx_m10, qx_T100.1, qx_T100.2.1.1, hn, h1, hg, h172, qbf, nI_add, List.length_cons, List.length_nil, Nat.zero_le, Nat.reduceAdd, Nat.reduceLeDiff, Option.bind_some, qx_kn_v, qx_kn_n, Nat.add_zero, Bool.false_eq_true, ↓reduceIte]
    rw [s115_49, ih (i + 1) _ (by omega)]
theorem a115 {n st k0 : Nat} {bs : Nat → Nat} (hn14 : n ≤ 14) (hk : k0 ≤ 14) (hn : M.1 101 0 = nI n) (hst : M.1 104 0 = nI st) (hst4 : st < 4) (hb : qB 104 M bs) (hb2 : st ≠ 0 → ∀ p, p < 14 → bs p < 14) :
    Rs L xs (d + 4) 115 0 [some (.ref (10)), some (.int (nI k0)), none, none, none] [] (M) x = some (.inl (some (.int (nI (if st = 0 then 0 else fb_ct (fun p => decide (∀ q, q < p → bs q ≠ bs p) && decide (k0 ≤ qb_pc (qb_of (fun q => bs q == bs p) 14))) n)))), M, x) := by
  by_cases hs : st = 0
  · rw [if_pos hs]
    have h := a115z (L := L) (xs := xs) (d := d) (x := x) (k0 := k0) hn14 hn (by rw [hst, hs]) hb n 0 none (by omega)
    simp only [s115_0, s115_1i, s115_1r, s115_1n, s115_2, s115_3i, s115_3r, s115_3n]
    exact h
  · rw [if_neg hs]
    have h := a115l (L := L) (xs := xs) (d := d) (x := x) hn14 hk hn hst hst4 hs hb (hb2 hs) n 0 none (by omega)
    simp only [s115_0, s115_1i, s115_1r, s115_1n, s115_2, s115_3i, s115_3r, s115_3n]
    exact h
/-- the Model counts them -/
theorem g254l {n k0 : Nat} {bs : Nat → Nat} (hn14 : n ≤ 14) (hk : k0 ≤ 14) (hn : M.1 401 0 = nI n) (hb : nB M bs) (hb2 : ∀ p, p < n → bs p < n) : ∀ (k i : Nat), i + k = n →
    Rs L xs (d + 3) 254 4 [some (.ref (400)), some (.int (nI k0)), some (.int (nI (fb_ct (fun p => decide (bs p = p) && decide (k0 ≤ qb_pc (qb_of (fun q => bs q == p) n))) i))), some (.int (nI i))] [] (M) x = some (.inl (some (.int (nI (fb_ct (fun p => decide (bs p = p) && decide (k0 ≤ qb_pc (qb_of (fun q => bs q == p) n))) n)))), M, x) := by
  obtain ⟨k1, k2, k3⟩ := qx_m400
  have e1 := fun d => m179 (L := L) (xs := xs) (d := d) (x := 0) (M := M) true
  have e0 := fun d => m179 (L := L) (xs := xs) (d := d) (x := 0) (M := M) false
  simp only [← bI_t, ← bI_f] at e1 e0
  intro k
  induction k with
  | zero =>
    intro i hi
    have h1 : (nI n ≤ nI i) = True := by rw [show i = n by omega]; exact eq_true (Int32.le_refl _)
    rw [show i = n by omega] at h1 ⊢
    simp only [s254_0, s254_1i, s254_1r, s254_1n, s254_2, s254_3i, s254_3r, s254_3n, s254_4, s254_5, s254_6, s254_9, s254_10, s254_11, s254_14, s254_15, s254_16, s254_19, s254_21, s254_22, s254_23, s254_24, s254_25, s254_28, s254_29, s254_30, s254_33, s254_36, s254_37, s254_40, s254_41, s254_44, s254_45, s254_48, s254_49i, s254_49r, s254_49n, s254_50i, s254_50r, s254_50n, s254_56, s254_57, k1, k2, k3, hn, h1, (qn_c (0) (by omega)).1, (qn_c (0) (by omega)).2, ↓reduceIte]
  | succ k ih =>
    intro i hi
    have h1 : ¬ nI n ≤ nI i := nI_ge (by omega) (by omega)
    have hbi := hb i (by omega)
    have hbn := hb2 i (by omega)
    have he : (nI (bs i) = nI i) = (bs i = i) := qi_eq (by omega) (by omega)
    have h2 := ih (i + 1) (by omega)
    rw [fb_ct_succ] at h2
    have hlt : qb_of (fun q => bs q == i) n < 16384 := qb_of_lt14 _ hn14
    have hg := fun d => g253 (L := L) (xs := xs) (d := d) (x := 0) hn14 hn hb hb2 (show i < n by omega)
    have hpc := qb_pc_le (qb_of (fun q => bs q == i) n)
    by_cases z : bs i = i
    · by_cases y : k0 ≤ qb_pc (qb_of (fun q => bs q == i) n)
      · rw [if_pos (by rw [decide_eq_true z, decide_eq_true y]; rfl)] at h2
        have h3 : ¬ nI (qb_pc (qb_of (fun q => bs q == i) n)) < nI k0 := nI_nlt y (by omega)
        simp only [s254_0, s254_1i, s254_1r, s254_1n, s254_2, s254_3i, s254_3r, s254_3n, s254_4, s254_5, s254_6, s254_9, s254_10, s254_11, s254_14, s254_15, s254_16, s254_19, s254_21, s254_22, s254_23, s254_24, s254_25, s254_28, s254_29, s254_30, s254_33, s254_36, s254_37, s254_40, s254_41, s254_44, s254_45, s254_48, s254_49i, s254_49r, s254_49n, s254_50i, s254_50r, s254_50n, s254_56, s254_57, k1, k2, k3, hn, h1, hbi, he, z, eq_self, hg, m209 hlt, h3, e1, nI_add, (qn_c (0) (by omega)).1, (qn_c (0) (by omega)).2, (qn_c (69 + i) (by omega)).1, (qn_c (69 + i) (by omega)).2, List.length_cons, List.length_nil, Nat.zero_le, Nat.reduceAdd, Nat.reduceLeDiff, Option.bind_some, qx_kn_v, qx_kn_n, Nat.add_zero, Bool.false_eq_true, ↓reduceIte]
        rw [s254_53, h2]
      · rw [if_neg (by rw [decide_eq_false y, Bool.and_false]; decide)] at h2
        simp only [Nat.add_zero] at h2
        have h3 : nI (qb_pc (qb_of (fun q => bs q == i) n)) < nI k0 := nI_lt (by omega) (by omega)
        simp only [s254_0, s254_1i, s254_1r, s254_1n, s254_2, s254_3i, s254_3r, s254_3n, s254_4, s254_5, s254_6, s254_9, s254_10, s254_11, s254_14, s254_15, s254_16, s254_19, s254_21, s254_22, s254_23, s254_24, s254_25, s254_28, s254_29, s254_30, s254_33, s254_36, s254_37, s254_40, s254_41, s254_44, s254_45, s254_48, s254_49i, s254_49r, s254_49n, s254_50i, s254_50r, s254_50n, s254_56, s254_57, k1, k2, k3, hn, h1, hbi, he, z, eq_self, hg, m209 hlt, h3, e0, nI_add, (qn_c (0) (by omega)).1, (qn_c (0) (by omega)).2, (qn_c (69 + i) (by omega)).1, (qn_c (69 + i) (by omega)).2, List.length_cons, List.length_nil, Nat.zero_le, Nat.reduceAdd, Nat.reduceLeDiff, Option.bind_some, qx_kn_v, qx_kn_n, Nat.add_zero, Bool.false_eq_true, ↓reduceIte]
        rw [s254_53, h2]
    · rw [if_neg (by rw [decide_eq_false z, Bool.false_and]; decide)] at h2
      simp only [Nat.add_zero] at h2
      simp only [s254_0, s254_1i, s254_1r, s254_1n, s254_2, s254_3i, s254_3r, s254_3n, s254_4, s254_5, s254_6, s254_9, s254_10, s254_11, s254_14, s254_15, s254_16, s254_19, s254_21, s254_22, s254_23, s254_24, s254_25, s254_28, s254_29, s254_30, s254_33, s254_36, s254_37, s254_40, s254_41, s254_44, s254_45, s254_48, s254_49i, s254_49r, s254_49n, s254_50i, s254_50r, s254_50n, s254_56, s254_57, k1, k2, k3, hn, h1, hbi, he, z, e0, nI_add, (qn_c (0) (by omega)).1, (qn_c (0) (by omega)).2, (qn_c (69 + i) (by omega)).1, (qn_c (69 + i) (by omega)).2, List.length_cons, List.length_nil, Nat.zero_le, Nat.reduceAdd, Nat.reduceLeDiff, Option.bind_some, qx_kn_v, qx_kn_n, Nat.add_zero, Bool.false_eq_true, ↓reduceIte]
      rw [s254_53, h2]
theorem g254 {n k0 : Nat} {bs : Nat → Nat} (hn14 : n ≤ 14) (hk : k0 ≤ 14) (hn : M.1 401 0 = nI n) (hb : nB M bs) (hb2 : ∀ p, p < n → bs p < n) (hb3 : ∀ p, bs (bs p) = bs p) (hb4 : ∀ j, n ≤ j → bs j = j) :
    Rs L xs (d + 3) 254 0 [some (.ref (400)), some (.int (nI k0)), none, none] [] (M) x = some (.inl (some (.int (nI (fb_ct (fun p => decide (∀ q, q < p → bs q ≠ bs p) && decide (k0 ≤ qb_pc (qb_of (fun q => bs q == bs p) 14))) n)))), M, x) := by
  have h := g254l (L := L) (xs := xs) (d := d) (x := x) hn14 hk hn hb hb2 n 0 (by omega)
  rw [qg_groups hb2 hb3 (fun p => decide (k0 ≤ qb_pc (qb_of (fun q => bs q == p) n)))] at h
  have e : fb_ct (fun p => decide (∀ q, q < p → bs q ≠ bs p) && decide (k0 ≤ qb_pc (qb_of (fun q => bs q == bs p) 14))) n = fb_ct (fun p => decide (∀ q, q < p → bs q ≠ bs p) && decide (k0 ≤ qb_pc (qb_of (fun q => bs q == bs p) n))) n := by
    apply fb_ct_cong
    intro p hp
    rw [qb_of_n hn14 (hb2 p hp) hb4]
  rw [e]
  simp only [s254_0, s254_1i, s254_1r, s254_1n, s254_2, s254_3i, s254_3r, s254_3n]
  exact h
theorem j114 {M : qxM} (hR : qREL M) : qPair L xs (d + 40) 114 [some (.ref 10)] 269 [some (.ref 400)] ke0 M := by
  obtain ⟨k1, k2, k3⟩ := qx_m400
  rcases qREL_cmp hR with ⟨b1, b2, b3, b4⟩ | ⟨b1, b2, n, r, q, f, mt, s1, s2, s3, s4, st, rt, sp, bm, ou, inn, qb, e, as, qa, bs, lk, nr, fr, wy, hp, hn1, hT, hou, hinn, he14, hst4, hu, ⟨a1, a2, a3, a4⟩, hS, hm, ⟨m1, m2, m3, m4⟩, h35, hN⟩
  · refine qPair_of hR 1 0 (by decide) ?_ ?_
    · rw [if_neg (by decide)]
      simp only [s114_0, s114_1, qx_m10, a159t b1, List.length_cons, List.length_nil, Nat.zero_le, Nat.reduceAdd, Nat.reduceLeDiff, Option.bind_some, qx_kn_v, qx_kn_n, Nat.add_zero, Bool.false_eq_true, ↓reduceIte]
      exact qx_kn_t rfl rfl rfl
    · intro o
      refine ⟨nI 0, ?_, fun h => absurd h (by decide)⟩
      have h1 := fun (d : Nat) => b263a (L := L) (xs := xs) (d := d) (x := 0) (M := (M.1, o)) b2
      simp only [s269_0, s269_1, s269_4, s269_7, s269_8, s269_11, s269_14, s269_15, s269_16, s269_19, s269_22, s269_23, k1, h1, qbt, qbf, qi_z0, true_or, List.length_cons, List.length_nil, Nat.zero_le, Nat.reduceAdd, Nat.reduceLeDiff, Option.bind_some, qx_kn_v, qx_kn_n, Nat.add_zero, Bool.false_eq_true, ↓reduceIte]
  · have hn14 : n ≤ 14 := hp.1
    have hn0 : M.1 101 0 = nI n := hu.1
    have hneed := fun (d x : Nat) => a159 (L := L) (xs := xs) (d := d) (x := x) b1
    have hmay := fun (o : (Nat → Int64) × (Nat → UInt64)) (d : Nat) => b263c (L := L) (xs := xs) (d := d) (x := 0) (M := (M.1, o)) b2
    have hZ : qx_Z 104 := qx_T100.2.2
    have hP : qx_P 101 := qx_T100.2.1
    have hst0 : M.1 104 0 = nI st := hS.1.1
    have hb2 : st ≠ 0 → ∀ p, p < 14 → bs p < 14 := fun hs => by
      obtain ⟨mt0, tm, hG, _⟩ := gT_g hT hs
      exact fun p hp => qg_bs hG hp
    have ha := fun d x => a115 (L := L) (xs := xs) (d := d) (x := x) (k0 := 3) hn14 (by decide) hn0 hst0 hst4 hS.2.2.1 hb2
    have h1 := fun o d => g255 (L := L) (xs := xs) (d := d) (x := 0) (M := qx_up (M.1, o) 400 0 (nI 0)) (show _ = nI st from h35) hst4
    by_cases hs : st = 0
    · refine qPair_of hR 0 (nI 0) (by decide) ?_ (fun o => ⟨nI 0, ?_, fun _ => rfl⟩)
      · simp only [hs, ↓reduceIte] at ha
        simp only [s114_0, s114_1, s114_4, s114_5, s114_6, s114_9, qx_m10, hneed, ha, List.length_cons, List.length_nil, Nat.zero_le, Nat.reduceAdd, Nat.reduceLeDiff, Option.bind_some, qx_kn_v, qx_kn_n, Nat.add_zero, Bool.false_eq_true, ↓reduceIte]
      · simp only [s269_0, s269_1, s269_4, s269_7, s269_8, s269_11, s269_14, s269_15, s269_16, s269_19, s269_22, s269_23, k1, hmay, qbt, h1, qD_f hs, qbf, List.length_cons, List.length_nil, Nat.zero_le, Nat.reduceAdd, Nat.reduceLeDiff, Option.bind_some, qx_kn_v, qx_kn_n, Nat.add_zero, Bool.false_eq_true, ↓reduceIte]
    · obtain ⟨mt0, tm, hG, _⟩ := gT_g hT hs
      obtain ⟨q1, q2, q3, q4⟩ := qg_bsn hG
      obtain ⟨hN1, hN2, hN3, hN4, hN5⟩ := hN hs
      simp only [hs, ↓reduceIte] at ha
      refine qPair_of hR 0 (nI (fb_ct (fun p => decide (∀ q, q < p → bs q ≠ bs p) && decide (3 ≤ qb_pc (qb_of (fun q => bs q == bs p) 14))) n)) (by decide) ?_ (fun o => ⟨nI (fb_ct (fun p => decide (∀ q, q < p → bs q ≠ bs p) && decide (3 ≤ qb_pc (qb_of (fun q => bs q == bs p) 14))) n), ?_, fun _ => rfl⟩)
      · simp only [s114_0, s114_1, s114_4, s114_5, s114_6, s114_9, qx_m10, hneed, ha, List.length_cons, List.length_nil, Nat.zero_le, Nat.reduceAdd, Nat.reduceLeDiff, Option.bind_some, qx_kn_v, qx_kn_n, Nat.add_zero, Bool.false_eq_true, ↓reduceIte]
      · have h2 := fun d => g254 (L := L) (xs := xs) (d := d) (x := 0) (M := qx_up (M.1, o) 400 0 (nI 0)) (k0 := 3) hn14 (by decide) (show _ = nI n from hm.1) hN4 q1 q3 q2
        simp only [s269_0, s269_1, s269_4, s269_7, s269_8, s269_11, s269_14, s269_15, s269_16, s269_19, s269_22, s269_23, k1, hmay, qbt, h1, qD_t hs, h2, List.length_cons, List.length_nil, Nat.zero_le, Nat.reduceAdd, Nat.reduceLeDiff, Option.bind_some, qx_kn_v, qx_kn_n, Nat.add_zero, Bool.false_eq_true, ↓reduceIte]
end QL
