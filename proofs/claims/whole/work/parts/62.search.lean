/-! Search: groups, rows of groups, the meeting. -/
def qb_of (p : Nat → Bool) : Nat → Nat
  | 0 => 0
  | k + 1 => qb_of p k ||| (if p k then 2 ^ k else 0)
theorem qb_of_bit (p : Nat → Bool) (i : Nat) : ∀ n, (qb_of p n).testBit i = (decide (i < n) && p i)
  | 0 => by simp [qb_of]
  | n + 1 => by
    rw [qb_of, Nat.testBit_or, qb_of_bit p i n]
    by_cases h : p n = true
    · rw [if_pos h, qb_two]
      by_cases e : n = i
      · subst e
        simp [h]
      · simp only [e, decide_false, Bool.or_false]
        by_cases h2 : i < n
        · simp [h2, show i < n + 1 by omega]
        · simp [h2, show ¬ i < n + 1 by omega]
    · rw [if_neg h, Nat.zero_testBit, Bool.or_false]
      by_cases e : n = i
      · subst e
        simp at h
        simp [h]
      · by_cases h2 : i < n
        · simp [h2, show i < n + 1 by omega]
        · simp [h2, show ¬ i < n + 1 by omega]
theorem qb_of_lt (p : Nat → Bool) : ∀ n, qb_of p n < 2 ^ n
  | 0 => Nat.one_pos
  | n + 1 => by
    rw [qb_of]
    have h1 := qb_of_lt p n
    have h2 : 2 ^ n < 2 ^ (n + 1) := Nat.pow_lt_pow_right (by decide) (by omega)
    refine Nat.or_lt_two_pow (by omega) ?_
    split
    · exact h2
    · exact Nat.pos_of_ne_zero (by simp)
def qs_fo (g : Nat → Nat) : List Nat → Nat → Nat
  | [], a => a
  | c :: l, a => qs_fo g l (a ||| g c)
theorem qs_fo_bit (g : Nat → Nat) (p : Nat) : ∀ (l : List Nat) (a : Nat), (qs_fo g l a).testBit p = (a.testBit p || l.any (fun c => (g c).testBit p))
  | [], a => by simp [qs_fo]
  | c :: l, a => by rw [qs_fo, qs_fo_bit g p l, Nat.testBit_or, List.any_cons, Bool.or_assoc]
theorem qs_fo_lt {g : Nat → Nat} {n : Nat} : ∀ (l : List Nat) (a : Nat), a < 2 ^ n → (∀ c, c ∈ l → g c < 2 ^ n) → qs_fo g l a < 2 ^ n
  | [], a, h, _ => h
  | c :: l, a, h, hl => qs_fo_lt l _ (Nat.or_lt_two_pow h (hl c List.mem_cons_self)) (fun b hb => hl b (List.mem_cons_of_mem _ hb))
theorem qi_n1 {b : Nat} (h : b < 2 ^ 31) : (nI b = -1) = False := by
  apply eq_false
  intro e
  have := nI_pos h
  rw [e] at this
  exact this (by decide)
theorem qz_n1 (k : Nat) : (qz k = -1) = (¬ k < 14) := by
  by_cases h : k < 14
  · rw [qz_lt h, qi_n1 (by omega)]
    simp [h]
  · rw [qz_ge h]
    simp [h]
/-- rows of groups can be climbed -/
def qs_cl (rt : Nat) (mt bs lk tm : Nat → Nat) (B : Nat → Prop) : Prop := B rt ∧ ¬ mt rt < 14 ∧ (∀ b, B b → b < 14 ∧ tm b < 14) ∧ ∀ b, B b → b ≠ rt → mt b < 14 ∧ lk (mt b) < 14 ∧ B (qs_up mt bs lk b) ∧ tm (qs_up mt bs lk b) < tm b
def qB (t : Nat) (M : qxM) (bs : Nat → Nat) : Prop := ∀ p, p < 14 → M.1 (t + 2) p = nI (bs p)
def qLk (t : Nat) (M : qxM) (lk : Nat → Nat) : Prop := ∀ p, p < 14 → M.1 (t + 3) p = qz (lk p)
section QL
variable {L : Nat} {xs : Nat → Int32} {d x : Nat} {M : qxM} {t u rt : Nat} {mt bs lk tm : Nat → Nat} {B : Nat → Prop}
theorem m58n (hZ : qx_Z t) : Rs L xs (d) 58 0 [some (.ref (t)), some (.int (-1))] [] (M) x = some (.inl (some (.int (-1))), M, x) := by
  have h1 : ((-1 : Int32) < 0) = True := by decide
  simp only [s58_0, s58_1, s58_4, s58_5, s58_6, s58_9, s58_10, s58_13, s58_14, s58_17, s58_18, s58_19, s58_22, s58_23, hZ.1, h1, ↓reduceIte]
theorem g69 (hZ : qx_Z t) (hP : qx_P u) (hC : qs_cl rt mt bs lk tm B) (hm : qMt u M mt) (hb : qB t M bs) (hl : qLk t M lk) {b : Nat} (hB : B b) (hr : b ≠ rt) : Rs L xs (d + 1) 69 0 [some (.ref (t)), some (.ref (u)), some (.int (nI b))] [] (M) x = some (.inl (some (.int (nI (qs_up mt bs lk b)))), M, x) := by
  obtain ⟨c1, c2, c3, c4⟩ := hC
  obtain ⟨e1, e2, e3, e4⟩ := c4 b hB hr
  have b14 := (c3 b hB).1
  have hk := hZ.2.1 3 (by decide) (by decide)
  have h1 := hm b b14
  have h2 := hl _ e1
  rw [qz_lt e1] at h1
  rw [qz_lt e2] at h2
  simp only [s69_0, s69_1, s69_2, s69_5, s69_6, s69_7, s69_10, s69_13, s69_16, hZ.1, hP.1, m46 hP b14, h1, m173 hk.1 hk.2 e1 (by decide), h2, m58 hZ e2, hb _ e2, List.length_cons, List.length_nil, Nat.zero_le, Nat.reduceAdd, Nat.reduceLeDiff, Option.bind_some, qx_kn_v, qx_kn_n, Nat.add_zero, ↓reduceIte]
  rfl
theorem g69n (hZ : qx_Z t) (hP : qx_P u) (hC : qs_cl rt mt bs lk tm B) (hm : qMt u M mt) : Rs L xs (d + 1) 69 0 [some (.ref (t)), some (.ref (u)), some (.int (nI rt))] [] (M) x = some (.inl (some (.int (-1))), M, x) := by
  obtain ⟨c1, c2, c3, c4⟩ := hC
  have h1 := hm rt (c3 rt c1).1
  rw [qz_ge c2] at h1
  simp only [s69_0, s69_1, s69_2, s69_5, s69_6, s69_7, s69_10, s69_13, s69_16, hZ.1, hP.1, m46 hP (c3 rt c1).1, h1, m173n, m58n hZ, List.length_cons, List.length_nil, Nat.zero_le, Nat.reduceAdd, Nat.reduceLeDiff, Option.bind_some, qx_kn_v, qx_kn_n, Nat.add_zero, ↓reduceIte]
theorem g59l (hZ : qx_Z t) (hb : qB t M bs) (hb2 : ∀ p, p < 14 → bs p < 14) {b : Nat} (hb3 : b < 14) : ∀ (k i : Nat), i + k = 14 →
    Rs L xs (d + 1) 59 4 [some (.ref (t)), some (.int (nI b)), some (.int (nI (qb_of (fun q => bs q == b) i))), some (.int (nI i))] [] (M) x = some (.inl (some (.int (nI (qb_of (fun q => bs q == b) 14)))), M, x) := by
  intro k
  induction k with
  | zero =>
    intro i hi
    rw [show i = 14 by omega]
    have h1 : (nI 14 ≤ nI 14) = True := eq_true (Int32.le_refl _)
    simp only [s59_0, s59_1i, s59_1r, s59_1n, s59_2, s59_3i, s59_3r, s59_3n, s59_4, s59_5, s59_7, s59_10, s59_11, s59_12, s59_15, s59_16, s59_19, s59_20, s59_21, s59_24, s59_25i, s59_25r, s59_25n, s59_26i, s59_26r, s59_26n, s59_32, s59_33, h1, ↓reduceIte]
  | succ k ih =>
    intro i hi
    have h1 : ¬ nI 14 ≤ nI i := nI_ge (by omega) (by decide)
    have h58 := fun (d : Nat) => m58 (L := L) (xs := xs) (d := d) (x := 0) (M := M) hZ (show i < 14 by omega)
    have he := hb i (by omega)
    have he2 : (nI (bs i) = nI b) = (bs i = b) := qi_eq (by have := hb2 i (by omega); omega) (by omega)
    have ih2 := ih (i + 1) (by omega)
    rw [qb_of] at ih2
    by_cases q : bs i = b
    · simp only [q, BEq.rfl, ↓reduceIte] at ih2
      simp only [s59_0, s59_1i, s59_1r, s59_1n, s59_2, s59_3i, s59_3r, s59_3n, s59_4, s59_5, s59_7, s59_10, s59_11, s59_12, s59_15, s59_16, s59_19, s59_20, s59_21, s59_24, s59_25i, s59_25r, s59_25n, s59_26i, s59_26r, s59_26n, s59_32, s59_33, h1, hZ.1, h58, he, he2, q, m169 (show i < 31 by omega), qb_or, nI_add, List.length_cons, List.length_nil, Nat.zero_le, Nat.reduceAdd, Nat.reduceLeDiff, Option.bind_some, qx_kn_v, qx_kn_n, Nat.add_zero, ↓reduceIte]
      rw [s59_29, ih2]
    · have q2 : (bs i == b) = false := by simpa using q
      simp only [q2, Bool.false_eq_true, ↓reduceIte, Nat.or_zero] at ih2
      simp only [s59_0, s59_1i, s59_1r, s59_1n, s59_2, s59_3i, s59_3r, s59_3n, s59_4, s59_5, s59_7, s59_10, s59_11, s59_12, s59_15, s59_16, s59_19, s59_20, s59_21, s59_24, s59_25i, s59_25r, s59_25n, s59_26i, s59_26r, s59_26n, s59_32, s59_33, h1, hZ.1, h58, he, he2, q, qb_or, nI_add, List.length_cons, List.length_nil, Nat.zero_le, Nat.reduceAdd, Nat.reduceLeDiff, Option.bind_some, qx_kn_v, qx_kn_n, Nat.add_zero, ↓reduceIte]
      rw [s59_29, ih2]
theorem g59 (hZ : qx_Z t) (hb : qB t M bs) (hb2 : ∀ p, p < 14 → bs p < 14) {b : Nat} (hb3 : b < 14) : Rs L xs (d + 1) 59 0 [some (.ref (t)), some (.int (nI b)), none, none] [] (M) x = some (.inl (some (.int (nI (qb_of (fun q => bs q == b) 14)))), M, x) := by
  have h := g59l (L := L) (xs := xs) (d := d) (x := x) hZ hb hb2 hb3 14 0 (by omega)
  simp only [s59_0, s59_1i, s59_1r, s59_1n, s59_2, s59_3i, s59_3r, s59_3n]
  exact h
theorem g70a (hZ : qx_Z t) (hP : qx_P u) (hC : qs_cl rt mt bs lk tm B) (hm : qMt u M mt) (hb : qB t M bs) (hl : qLk t M lk) {v w : Nat} : ∀ (k b i a : Nat), B b → tm b < k → i + k ≤ 14 →
    ∃ i', Rs L xs (d + 2) 70 13 [some (.ref t), some (.ref u), some (.int (nI v)), some (.int (nI w)), some (.int (nI a)), some (.int (nI b)), some (.int (nI i))] [] M x = Rs L xs (d + 2) 70 51 [some (.ref t), some (.ref u), some (.int (nI v)), some (.int (nI w)), some (.int (nI (qs_fo (fun c => 2 ^ c) (qs_row (qs_up mt bs lk) rt k b) a))), some (.int (-1)), some (.int (nI i'))] [] M x := by
  intro k
  induction k with
  | zero => intro b i a _ h; omega
  | succ k ih =>
    intro b i a hB hk hi
    have h1 : ¬ nI 14 ≤ nI i := nI_ge (by omega) (by decide)
    have b14 := (hC.2.2.1 b hB).1
    have h2 := qi_n1 (show b < 2 ^ 31 by omega)
    rw [qs_row]
    by_cases hr : b = rt
    · rw [if_pos hr, hr]
      rw [hr] at h2 b14
      refine ⟨i + 1, ?_⟩
      simp only [s70_13, s70_15, s70_17, s70_20, s70_22, s70_23, s70_26, s70_28, s70_30, s70_33, s70_34i, s70_36, s70_37, s70_38, s70_40, s70_43i, s70_45i, h1, h2, hP.1, hZ.1, m169 (show rt < 31 by omega), qb_or, g69n hZ hP hC hm, nI_add, List.length_cons, List.length_nil, Nat.zero_le, Nat.reduceAdd, Nat.reduceLeDiff, Option.bind_some, qx_kn_v, qx_kn_n, Nat.add_zero, ↓reduceIte]
      rw [s70_48, qs_fo, qs_fo]
      by_cases h3 : nI 14 ≤ nI (i + 1)
      · simp only [s70_13, s70_15, s70_17, h3, ↓reduceIte]
      · simp only [s70_13, s70_15, s70_17, s70_20, s70_22, s70_23, h3, eq_self, ↓reduceIte]
    · rw [if_neg hr, qs_fo]
      obtain ⟨e1, e2, e3, e4⟩ := hC.2.2.2 b hB hr
      obtain ⟨i', hi'⟩ := ih (qs_up mt bs lk b) (i + 1) (a ||| 2 ^ b) e3 (by omega) (by omega)
      refine ⟨i', ?_⟩
      simp only [s70_13, s70_15, s70_17, s70_20, s70_22, s70_23, s70_26, s70_28, s70_30, s70_33, s70_34i, s70_36, s70_37, s70_38, s70_40, s70_43i, s70_45i, h1, h2, hP.1, hZ.1, m169 (show b < 31 by omega), qb_or, g69 hZ hP hC hm hb hl hB hr, nI_add, List.length_cons, List.length_nil, Nat.zero_le, Nat.reduceAdd, Nat.reduceLeDiff, Option.bind_some, qx_kn_v, qx_kn_n, Nat.add_zero, ↓reduceIte]
      rw [s70_48, hi']
theorem g70b (hZ : qx_Z t) (hP : qx_P u) (hC : qs_cl rt mt bs lk tm B) (hm : qMt u M mt) (hb : qB t M bs) (hl : qLk t M lk) {v w a : Nat} (ha : a < 2 ^ 31) (har : a.testBit rt = true) : ∀ (k b i : Nat), B b → tm b < k → i + k ≤ 14 →
    Rs L xs (d + 2) 70 61 [some (.ref t), some (.ref u), some (.int (nI v)), some (.int (nI w)), some (.int (nI a)), some (.int (nI b)), some (.int (nI i))] [] M x = some (.inl (some (.int (nI (qs_top (qs_up mt bs lk) a.testBit k b)))), M, x) := by
  intro k
  induction k with
  | zero => intro b i _ h; omega
  | succ k ih =>
    intro b i hB hk hi
    have h1 : ¬ nI 14 ≤ nI i := nI_ge (by omega) (by decide)
    have b14 := (hC.2.2.1 b hB).1
    have h2 := qi_n1 (show b < 2 ^ 31 by omega)
    rw [qs_top]
    by_cases hW : a.testBit b = true
    · rw [if_pos hW]
      simp only [s70_0, s70_1i, s70_1r, s70_1n, s70_3, s70_4, s70_5, s70_8i, s70_8r, s70_8n, s70_10, s70_11i, s70_11r, s70_11n, s70_15, s70_17, s70_20, s70_22, s70_23, s70_26, s70_28, s70_30, s70_33, s70_34i, s70_34r, s70_34n, s70_36, s70_37, s70_38, s70_40, s70_43i, s70_43r, s70_43n, s70_45i, s70_45r, s70_45n, s70_51, s70_52, s70_53, s70_56i, s70_56r, s70_56n, s70_58, s70_59i, s70_59r, s70_59n, s70_61, s70_63, s70_65, s70_68, s70_70, s70_71, s70_74, s70_76, s70_78, s70_81, s70_84, s70_85, s70_86, s70_88, s70_91i, s70_91r, s70_91n, s70_93i, s70_93r, s70_93n, s70_99, s70_101, h1, h2, m170 ha (show b < 31 by omega), hW, bI_0, Bool.true_eq_false, List.length_cons, List.length_nil, Nat.zero_le, Nat.reduceAdd, Nat.reduceLeDiff, Option.bind_some, qx_kn_v, qx_kn_n, Nat.add_zero, ↓reduceIte]
    · rw [if_neg hW]
      have hr : b ≠ rt := fun e => hW (by rw [e]; exact har)
      obtain ⟨e1, e2, e3, e4⟩ := hC.2.2.2 b hB hr
      have hW2 : a.testBit b = false := by simpa using hW
      simp only [s70_0, s70_1i, s70_1r, s70_1n, s70_3, s70_4, s70_5, s70_8i, s70_8r, s70_8n, s70_10, s70_11i, s70_11r, s70_11n, s70_15, s70_17, s70_20, s70_22, s70_23, s70_26, s70_28, s70_30, s70_33, s70_34i, s70_34r, s70_34n, s70_36, s70_37, s70_38, s70_40, s70_43i, s70_43r, s70_43n, s70_45i, s70_45r, s70_45n, s70_51, s70_52, s70_53, s70_56i, s70_56r, s70_56n, s70_58, s70_59i, s70_59r, s70_59n, s70_63, s70_65, s70_68, s70_70, s70_71, s70_74, s70_76, s70_78, s70_81, s70_84, s70_85, s70_86, s70_88, s70_91i, s70_91r, s70_91n, s70_93i, s70_93r, s70_93n, s70_99, s70_101, s70_61, h1, h2, hP.1, hZ.1, m170 ha (show b < 31 by omega), hW2, bI_0, g69 hZ hP hC hm hb hl hB hr, nI_add, List.length_cons, List.length_nil, Nat.zero_le, Nat.reduceAdd, Nat.reduceLeDiff, Option.bind_some, qx_kn_v, qx_kn_n, Nat.add_zero, ↓reduceIte]
      rw [s70_96, ih (qs_up mt bs lk b) (i + 1) e3 (by omega) (by omega)]
theorem g70 (hZ : qx_Z t) (hP : qx_P u) (hC : qs_cl rt mt bs lk tm B) (hm : qMt u M mt) (hb : qB t M bs) (hl : qLk t M lk) {v w : Nat} (hv : v < 14) (hw : w < 14) (hBv : B (bs v)) (hBw : B (bs w)) :
    Rs L xs (d + 2) 70 0 [some (.ref (t)), some (.ref (u)), some (.int (nI v)), some (.int (nI w)), none, none, none] [] (M) x = some (.inl (some (.int (nI (qs_top (qs_up mt bs lk) (qs_fo (fun c => 2 ^ c) (qs_row (qs_up mt bs lk) rt 14 (bs w)) 0).testBit 14 (bs v))))), M, x) := by
  have hup : ∀ b, B b → b ≠ rt → B (qs_up mt bs lk b) ∧ tm (qs_up mt bs lk b) < tm b := fun b q r => (hC.2.2.2 b q r).2.2
  have hrow := qs_row_mem hup 14 (bs w) hBw (hC.2.2.1 _ hBw).2
  have hlt : qs_fo (fun c => 2 ^ c) (qs_row (qs_up mt bs lk) rt 14 (bs w)) 0 < 2 ^ 14 := qs_fo_lt _ _ (by decide) (fun c hc => Nat.pow_lt_pow_right (by decide) (hC.2.2.1 c (hrow.2.2 c hc).1).1)
  have hbit : (qs_fo (fun c => 2 ^ c) (qs_row (qs_up mt bs lk) rt 14 (bs w)) 0).testBit rt = true := by
    rw [qs_fo_bit, Nat.zero_testBit, Bool.false_or, List.any_eq_true]
    exact ⟨rt, hrow.1, by simp⟩
  obtain ⟨i', h1⟩ := g70a (L := L) (xs := xs) (d := d) (x := x) (v := v) (w := w) hZ hP hC hm hb hl 14 (bs w) 0 0 hBw (hC.2.2.1 _ hBw).2 (by omega)
  have h2 := g70b (L := L) (xs := xs) (d := d) (x := x) (v := v) (w := w) hZ hP hC hm hb hl (show _ < 2 ^ 31 by omega) hbit 14 (bs v) 0 hBv (hC.2.2.1 _ hBv).2 (by omega)
  have hcb : ∀ p, p < 14 → M.1 (t + 2) p = nI (bs p) := hb
  simp only [s70_0, s70_1i, s70_1r, s70_1n, s70_3, s70_4, s70_5, s70_8i, s70_8r, s70_8n, s70_10, s70_11i, s70_11r, s70_11n, hZ.1, m58 hZ hw, hcb w hw, List.length_cons, List.length_nil, Nat.zero_le, Nat.reduceAdd, Nat.reduceLeDiff, Option.bind_some, qx_kn_v, qx_kn_n, Nat.add_zero, ↓reduceIte]
  rw [h1]
  simp only [s70_51, s70_52, s70_53, s70_56i, s70_56r, s70_56n, s70_58, s70_59i, s70_59r, s70_59n, hZ.1, m58 hZ hv, hcb v hv, List.length_cons, List.length_nil, Nat.zero_le, Nat.reduceAdd, Nat.reduceLeDiff, Option.bind_some, qx_kn_v, qx_kn_n, Nat.add_zero, ↓reduceIte]
  exact h2
theorem g72l (hZ : qx_Z t) (hP : qx_P u) (hC : qs_cl rt mt bs lk tm B) (hm : qMt u M mt) (hb : qB t M bs) (hb2 : ∀ p, p < 14 → bs p < 14) (hl : qLk t M lk) {v tp : Nat} (htp : tp < 14) : ∀ (k b i a : Nat), B b → tm b < k → i + k ≤ 14 → tp ∈ qs_row (qs_up mt bs lk) rt k b →
    Rs L xs (d + 2) 72 17 [some (.ref t), some (.ref u), some (.int (nI v)), some (.int (nI tp)), some (.int (nI a)), some (.int (nI b)), some (.int (nI i))] [] M x = some (.inl (some (.int (nI (qs_fo (fun c => qb_of (fun q => bs q == c) 14) (qs_bel (qs_up mt bs lk) tp k b) a)))), M, x) := by
  intro k
  induction k with
  | zero => intro b i a _ h; omega
  | succ k ih =>
    intro b i a hB hk hi ht
    have h1 : ¬ nI 14 ≤ nI i := nI_ge (by omega) (by decide)
    have b14 := (hC.2.2.1 b hB).1
    have h2 := qi_n1 (show b < 2 ^ 31 by omega)
    have h3 : (nI b = nI tp) = (b = tp) := qi_eq (by omega) (by omega)
    rw [qs_bel]
    by_cases h0 : b = tp
    · rw [if_pos h0, qs_fo]
      rw [h0] at h2
      simp only [s72_0, s72_1, s72_2, s72_5i, s72_5r, s72_5n, s72_7, s72_8, s72_9, s72_12i, s72_12r, s72_12n, s72_14, s72_15i, s72_15r, s72_15n, s72_19, s72_21, s72_24, s72_26, s72_27, s72_30, s72_32, s72_33, s72_36, s72_38, s72_39, s72_41, s72_44, s72_45i, s72_45r, s72_45n, s72_47, s72_48, s72_49, s72_51, s72_54i, s72_54r, s72_54n, s72_56i, s72_56r, s72_56n, s72_62, s72_64, s72_17, h1, h2, h0, eq_self, List.length_cons, List.length_nil, Nat.zero_le, Nat.reduceAdd, Nat.reduceLeDiff, Option.bind_some, qx_kn_v, qx_kn_n, Nat.add_zero, ↓reduceIte]
    · rw [if_neg h0, qs_fo]
      rw [qs_row] at ht
      have hr : b ≠ rt := by
        intro e
        rw [if_pos e, List.mem_singleton] at ht
        exact h0 ht.symm
      rw [if_neg hr] at ht
      have ht2 : tp ∈ qs_row (qs_up mt bs lk) rt k (qs_up mt bs lk b) := by
        rcases List.mem_cons.mp ht with e | e
        · exact absurd e.symm h0
        · exact e
      obtain ⟨e1, e2, e3, e4⟩ := hC.2.2.2 b hB hr
      simp only [s72_0, s72_1, s72_2, s72_5i, s72_5r, s72_5n, s72_7, s72_8, s72_9, s72_12i, s72_12r, s72_12n, s72_14, s72_15i, s72_15r, s72_15n, s72_19, s72_21, s72_24, s72_26, s72_27, s72_30, s72_32, s72_33, s72_36, s72_38, s72_39, s72_41, s72_44, s72_45i, s72_45r, s72_45n, s72_47, s72_48, s72_49, s72_51, s72_54i, s72_54r, s72_54n, s72_56i, s72_56r, s72_56n, s72_62, s72_64, s72_17, h1, h2, h3, h0, hP.1, hZ.1, g59 hZ hb hb2 b14, qb_or, g69 hZ hP hC hm hb hl hB hr, nI_add, List.length_cons, List.length_nil, Nat.zero_le, Nat.reduceAdd, Nat.reduceLeDiff, Option.bind_some, qx_kn_v, qx_kn_n, Nat.add_zero, ↓reduceIte]
      rw [s72_59, ih (qs_up mt bs lk b) (i + 1) _ e3 (by omega) (by omega) ht2]
theorem g72 (hZ : qx_Z t) (hP : qx_P u) (hC : qs_cl rt mt bs lk tm B) (hm : qMt u M mt) (hb : qB t M bs) (hb2 : ∀ p, p < 14 → bs p < 14) (hl : qLk t M lk) {v tp : Nat} (hv : v < 14) (htp : tp < 14) (hBv : B (bs v)) (ht : tp ∈ qs_row (qs_up mt bs lk) rt 14 (bs v)) :
    Rs L xs (d + 2) 72 0 [some (.ref (t)), some (.ref (u)), some (.int (nI v)), some (.int (nI tp)), none, none, none] [] (M) x = some (.inl (some (.int (nI (qs_fo (fun c => qb_of (fun q => bs q == c) 14) (qs_bel (qs_up mt bs lk) tp 14 (bs v)) (qb_of (fun q => bs q == tp) 14))))), M, x) := by
  have h2 := g72l (L := L) (xs := xs) (d := d) (x := x) (v := v) hZ hP hC hm hb hb2 hl htp 14 (bs v) 0 (qb_of (fun q => bs q == tp) 14) hBv (hC.2.2.1 _ hBv).2 (by omega) ht
  have hcb : ∀ p, p < 14 → M.1 (t + 2) p = nI (bs p) := hb
  simp only [s72_0, s72_1, s72_2, s72_5i, s72_5r, s72_5n, s72_7, s72_8, s72_9, s72_12i, s72_12r, s72_12n, s72_14, s72_15i, s72_15r, s72_15n, s72_19, s72_21, s72_24, s72_26, s72_27, s72_30, s72_32, s72_33, s72_36, s72_38, s72_39, s72_41, s72_44, s72_45i, s72_45r, s72_45n, s72_47, s72_48, s72_49, s72_51, s72_54i, s72_54r, s72_54n, s72_56i, s72_56r, s72_56n, s72_62, s72_64, hZ.1, m58 hZ hv, hcb v hv, g59 hZ hb hb2 htp, List.length_cons, List.length_nil, Nat.zero_le, Nat.reduceAdd, Nat.reduceLeDiff, Option.bind_some, qx_kn_v, qx_kn_n, Nat.add_zero, ↓reduceIte]
  exact h2
end QL
