/-! The Model's search: rows, bridges. -/
def qs_lb (ou inn p : Nat) : Nat := if ou.testBit p then 1 else if inn.testBit p then 2 else 0
def nMt (M : qxM) (mt : Nat → Nat) : Prop := ∀ p, p < 14 → M.1 401 (21 + p) = qz (mt p)
def nB (M : qxM) (bs : Nat → Nat) : Prop := ∀ p, p < 14 → M.1 401 (69 + p) = nI (bs p)
def nLk (M : qxM) (lk : Nat → Nat) : Prop := ∀ p, p < 14 → M.1 401 (83 + p) = qz (lk p)
def nNr (M : qxM) (nr : Nat → Nat) : Prop := ∀ p, p < 14 → M.1 401 (97 + p) = qz (nr p)
def nFr (M : qxM) (fr : Nat → Nat) : Prop := ∀ p, p < 14 → M.1 401 (111 + p) = qz (fr p)
theorem nMt_fr {M M' : qxM} {g : Nat → Nat} {R : Nat → Prop} (h : nMt M g) (hf : mf R M M') (hR : ∀ j, R j → j < 21 ∨ 35 ≤ j) : nMt M' g := fun p hp => by
  rw [hf.2 _ (fun q => by have := hR _ q; omega)]
  exact h p hp
theorem nB_fr {M M' : qxM} {g : Nat → Nat} {R : Nat → Prop} (h : nB M g) (hf : mf R M M') (hR : ∀ j, R j → j < 69 ∨ 83 ≤ j) : nB M' g := fun p hp => by
  rw [hf.2 _ (fun q => by have := hR _ q; omega)]
  exact h p hp
theorem nLk_fr {M M' : qxM} {g : Nat → Nat} {R : Nat → Prop} (h : nLk M g) (hf : mf R M M') (hR : ∀ j, R j → j < 83 ∨ 97 ≤ j) : nLk M' g := fun p hp => by
  rw [hf.2 _ (fun q => by have := hR _ q; omega)]
  exact h p hp
theorem nNr_fr {M M' : qxM} {g : Nat → Nat} {R : Nat → Prop} (h : nNr M g) (hf : mf R M M') (hR : ∀ j, R j → j < 97 ∨ 111 ≤ j) : nNr M' g := fun p hp => by
  rw [hf.2 _ (fun q => by have := hR _ q; omega)]
  exact h p hp
theorem nFr_fr {M M' : qxM} {g : Nat → Nat} {R : Nat → Prop} (h : nFr M g) (hf : mf R M M') (hR : ∀ j, R j → j < 111 ∨ 125 ≤ j) : nFr M' g := fun p hp => by
  rw [hf.2 _ (fun q => by have := hR _ q; omega)]
  exact h p hp
/-- the ways that bridges give -/
def qs_wb (mt : Nat → Nat) (a b : List Nat) : List Nat → (Nat → List Nat) → (Nat → List Nat)
  | [], W => W
  | c :: l, W => qs_wb mt a b l (qu W (mt c) (qs_back (mt c) a ++ b))
theorem qs_wb_eq (mt : Nat → Nat) (a b : List Nat) (p : Nat) : ∀ (l : List Nat) (W : Nat → List Nat), qs_wb mt a b l W p = if (∃ c, c ∈ l ∧ mt c = p) then qs_back p a ++ b else W p
  | [], W => by
    rw [if_neg (by simp)]
    rfl
  | c :: l, W => by
    rw [qs_wb, qs_wb_eq mt a b p l]
    by_cases h : ∃ c, c ∈ l ∧ mt c = p
    · rw [if_pos h, if_pos]
      obtain ⟨z, z1, z2⟩ := h
      exact ⟨z, List.mem_cons_of_mem _ z1, z2⟩
    · rw [if_neg h]
      by_cases e : p = mt c
      · rw [e, qu_eq, if_pos ⟨c, List.mem_cons_self, rfl⟩]
      · rw [qu_ne _ _ e, if_neg]
        rintro ⟨z, a1, a2⟩
        rcases List.mem_cons.mp a1 with q | q
        · rw [q] at a2
          exact e a2.symm
        · exact h ⟨z, q, a2⟩
section QL
variable {L : Nat} {xs : Nat → Int32} {d x : Nat} {rt : Nat} {mt bs lk tm : Nat → Nat} {B : Nat → Prop} {M : qxM}
theorem g244 (hC : qs_cl rt mt bs lk tm B) (hm : nMt M mt) (hb : nB M bs) (hl : nLk M lk) {b : Nat} (hB : B b) (hr : b ≠ rt) : Rs L xs (d + 1) 244 0 [some (.ref (400)), some (.int (nI b))] [] (M) x = some (.inl (some (.int (nI (qs_up mt bs lk b)))), M, x) := by
  obtain ⟨k1, k2, k3⟩ := qx_m400
  obtain ⟨c1, c2, c3, c4⟩ := hC
  obtain ⟨e1, e2, e3, e4⟩ := c4 b hB hr
  have b14 := (c3 b hB).1
  have h1 := hm b b14
  have h2 := hl _ e1
  rw [qz_lt e1] at h1
  rw [qz_lt e2] at h2
  simp only [s244_0, s244_1, s244_4, s244_6, s244_7, s244_10, s244_12, s244_13, s244_14, s244_17, s244_18, s244_19, s244_20, s244_21, k1, k2, k3, nI_add, m213 b14, h1, h2, hb _ e2, (qn_c (83 + mt b) (by omega)).1, (qn_c (83 + mt b) (by omega)).2, (qn_c (69 + lk (mt b)) (by omega)).1, (qn_c (69 + lk (mt b)) (by omega)).2, List.length_cons, List.length_nil, Nat.zero_le, Nat.reduceAdd, Nat.reduceLeDiff, Option.bind_some, qx_kn_v, qx_kn_n, Nat.add_zero, ↓reduceIte]
  rfl
theorem g245l (hC : qs_cl rt mt bs lk tm B) (hm : nMt M mt) (hb : nB M bs) (hl : nLk M lk) (hrt : M.1 401 36 = nI rt) {z : Nat} : ∀ (k b a : Nat), B b → tm b < k →
    Rs L xs (d + 2) 245 6 [some (.ref (400)), some (.int (nI z)), some (.int (nI (a ||| 2 ^ b))), some (.int (nI b))] [] (M) x = some (.inl (some (.int (nI (qs_fo (fun c => 2 ^ c) (qs_row (qs_up mt bs lk) rt k b) a)))), M, x) := by
  obtain ⟨k1, k2, k3⟩ := qx_m400
  intro k
  induction k with
  | zero => intro b a _ h; omega
  | succ k ih =>
    intro b a hB hk
    have b14 := (hC.2.2.1 b hB).1
    have r14 := (hC.2.2.1 rt hC.1).1
    have h3 : (nI b = nI rt) = (b = rt) := qi_eq (by omega) (by omega)
    rw [qs_row]
    by_cases hr : b = rt
    · rw [if_pos hr, qs_fo, qs_fo]
      simp only [s245_0, s245_1, s245_2, s245_3i, s245_3r, s245_3n, s245_4, s245_5i, s245_5r, s245_5n, s245_6, s245_7, s245_8, s245_11, s245_13, s245_14, s245_17, s245_18, s245_19, s245_22i, s245_22r, s245_22n, s245_23, s245_24, s245_25, s245_26, s245_27, s245_28i, s245_28r, s245_28n, s245_32, s245_33, k1, k2, k3, hrt, h3, hr, (qn_c (36) (by omega)).1, (qn_c (36) (by omega)).2, eq_self, List.length_cons, List.length_nil, Nat.zero_le, Nat.reduceAdd, Nat.reduceLeDiff, Option.bind_some, qx_kn_v, qx_kn_n, Nat.add_zero, ↓reduceIte]
    · rw [if_neg hr, qs_fo]
      obtain ⟨e1, e2, e3, e4⟩ := hC.2.2.2 b hB hr
      have u14 := (hC.2.2.1 _ e3).1
      have h2 := ih (qs_up mt bs lk b) (a ||| 2 ^ b) e3 (by omega)
      simp only [s245_0, s245_1, s245_2, s245_3i, s245_3r, s245_3n, s245_4, s245_5i, s245_5r, s245_5n, s245_6, s245_7, s245_8, s245_11, s245_13, s245_14, s245_17, s245_18, s245_19, s245_22i, s245_22r, s245_22n, s245_23, s245_24, s245_25, s245_26, s245_27, s245_28i, s245_28r, s245_28n, s245_32, s245_33, k1, k2, k3, hrt, h3, hr, g244 hC hm hb hl hB hr, qb_shl (show qs_up mt bs lk b < 32 by omega), qb_or, (qn_c (36) (by omega)).1, (qn_c (36) (by omega)).2, List.length_cons, List.length_nil, Nat.zero_le, Nat.reduceAdd, Nat.reduceLeDiff, Option.bind_some, qx_kn_v, qx_kn_n, Nat.add_zero, ↓reduceIte]
      rw [s245_29, h2]
theorem g245 (hC : qs_cl rt mt bs lk tm B) (hm : nMt M mt) (hb : nB M bs) (hl : nLk M lk) (hrt : M.1 401 36 = nI rt) {b : Nat} (hB : B b) :
    Rs L xs (d + 2) 245 0 [some (.ref (400)), some (.int (nI b)), none, none] [] (M) x = some (.inl (some (.int (nI (qs_fo (fun c => 2 ^ c) (qs_row (qs_up mt bs lk) rt 14 b) 0)))), M, x) := by
  have b14 := (hC.2.2.1 b hB).1
  have h := g245l (L := L) (xs := xs) (d := d) (x := x) (z := b) hC hm hb hl hrt 14 b 0 hB (hC.2.2.1 b hB).2
  rw [Nat.zero_or] at h
  simp only [s245_0, s245_1, s245_2, s245_3i, s245_3r, s245_3n, s245_4, s245_5i, s245_5r, s245_5n, qb_shl (show b < 32 by omega)]
  exact h
theorem g247l (hC : qs_cl rt mt bs lk tm B) (hm : nMt M mt) (hb : nB M bs) (hl : nLk M lk) {z tp : Nat} (htp : tp < 14) : ∀ (k b a : Nat), B b → tm b < k → tp ∈ qs_row (qs_up mt bs lk) rt k b →
    Rs L xs (d + 2) 247 5 [some (.ref (400)), some (.int (nI z)), some (.int (nI tp)), some (.int (nI a)), some (.int (nI b))] [] (M) x = some (.inl (some (.int (nI (qs_fo (fun c => 2 ^ c) (qs_bel (qs_up mt bs lk) tp k b) a)))), M, x) := by
  intro k
  induction k with
  | zero => intro b a _ h; omega
  | succ k ih =>
    intro b a hB hk ht
    have b14 := (hC.2.2.1 b hB).1
    have h3 : (nI b = nI tp) = (b = tp) := qi_eq (by omega) (by omega)
    rw [qs_bel]
    by_cases h0 : b = tp
    · rw [if_pos h0, qs_fo]
      simp only [s247_0, s247_1i, s247_1r, s247_1n, s247_2, s247_3i, s247_3r, s247_3n, s247_5, s247_7, s247_8, s247_11, s247_12, s247_13, s247_15, s247_16, s247_17i, s247_17r, s247_17n, s247_18, s247_19, s247_21, s247_24i, s247_24r, s247_24n, s247_29, s247_30, h0, eq_self, List.length_cons, List.length_nil, Nat.zero_le, Nat.reduceAdd, Nat.reduceLeDiff, Option.bind_some, qx_kn_v, qx_kn_n, Nat.add_zero, ↓reduceIte]
    · rw [if_neg h0, qs_fo]
      rw [qs_row] at ht
      have hr : b ≠ rt := by
        intro e
        rw [if_pos e, List.mem_singleton] at ht
        exact h0 ht.symm
      rw [if_neg hr] at ht
      have ht2 : tp ∈ qs_row (qs_up mt bs lk) rt k (qs_up mt bs lk b) := by
        rcases List.mem_cons.mp ht with e | e
        · exact absurd e.symm h0
        · exact e
      obtain ⟨e1, e2, e3, e4⟩ := hC.2.2.2 b hB hr
      simp only [s247_0, s247_1i, s247_1r, s247_1n, s247_2, s247_3i, s247_3r, s247_3n, s247_5, s247_7, s247_8, s247_11, s247_12, s247_13, s247_15, s247_16, s247_17i, s247_17r, s247_17n, s247_18, s247_19, s247_21, s247_24i, s247_24r, s247_24n, s247_29, s247_30, qx_m400.1, h3, h0, g244 hC hm hb hl hB hr, qb_shl (show b < 32 by omega), qb_or, List.length_cons, List.length_nil, Nat.zero_le, Nat.reduceAdd, Nat.reduceLeDiff, Option.bind_some, qx_kn_v, qx_kn_n, Nat.add_zero, ↓reduceIte]
      rw [s247_26, ih (qs_up mt bs lk b) _ e3 (by omega) ht2]
theorem g247 (hC : qs_cl rt mt bs lk tm B) (hm : nMt M mt) (hb : nB M bs) (hl : nLk M lk) {b tp : Nat} (htp : tp < 14) (hB : B b) (ht : tp ∈ qs_row (qs_up mt bs lk) rt 14 b) :
    Rs L xs (d + 2) 247 0 [some (.ref (400)), some (.int (nI b)), some (.int (nI tp)), none, none] [] (M) x = some (.inl (some (.int (nI (qs_fo (fun c => 2 ^ c) (qs_bel (qs_up mt bs lk) tp 14 b) 0)))), M, x) := by
  have h := g247l (L := L) (xs := xs) (d := d) (x := x) (z := b) hC hm hb hl htp 14 b 0 hB (hC.2.2.1 b hB).2 ht
  simp only [s247_0, s247_1i, s247_1r, s247_1n, s247_2, s247_3i, s247_3r, s247_3n]
  exact h
/-- where the mate lies on the way -/
theorem g246a {v w tp a b m : Nat} {wy : Nat → List Nat} {l1 l2 : List Nat} (hv : v < 14) (hm14 : m < 14) (hW : nW M wy) (hel : ∀ c, c ∈ wy v → c < 14) (hw : wy v = l1 ++ m :: l2) (hl1 : ∀ c, c ∈ l1 → c ≠ m) : ∀ (k i : Nat), i + k = l1.length →
    Rs L xs (d + 2) 246 53 [some (.ref 400), some (.int (nI v)), some (.int (nI w)), some (.int (nI tp)), some (.int (nI a)), some (.int (nI b)), some (.int (nI m)), some (.int (nI i))] [] M x = Rs L xs (d + 2) 246 71 [some (.ref 400), some (.int (nI v)), some (.int (nI w)), some (.int (nI tp)), some (.int (nI a)), some (.int (nI b)), some (.int (nI m)), some (.int (nI l1.length))] [] M x := by
  have hwv := hW v hv
  have hlen : (wy v).length = l1.length + (l2.length + 1) := by rw [hw, List.length_append, List.length_cons]
  intro k
  induction k with
  | zero =>
    intro i hi
    have hg : (wy v).getD i 0 = m := by
      rw [show i = l1.length by omega, hw, List.getD_eq_getElem?_getD, List.getElem?_append_right (Nat.le_refl _)]
      simp
    rw [show l1.length = i by omega]
    simp only [s246_53, s246_54, s246_55, s246_57, s246_60, s246_62, qx_m400.1, g235 hv (show i < 14 by omega), hwv.2.2 i (by omega), hg, eq_self, List.length_cons, List.length_nil, Nat.zero_le, Nat.reduceAdd, Nat.reduceLeDiff, Option.bind_some, qx_kn_v, qx_kn_n, Nat.add_zero, ↓reduceIte]
  | succ k ih =>
    intro i hi
    have hg : (wy v).getD i 0 ∈ l1 := by
      rw [hw, List.getD_eq_getElem?_getD, List.getElem?_append_left (by omega), ← List.getD_eq_getElem?_getD]
      exact qs_getD_mem _ _ (by omega)
    have hne := hl1 _ hg
    have h3 : (nI ((wy v).getD i 0) = nI m) = ((wy v).getD i 0 = m) := qi_eq (by have := hel _ (qs_getD_mem (wy v) i (by omega)); omega) (by omega)
    simp only [s246_53, s246_54, s246_55, s246_57, s246_60, s246_62, s246_65i, s246_65r, s246_65n, qx_m400.1, g235 hv (show i < 14 by omega), hwv.2.2 i (by omega), h3, hne, nI_add, List.length_cons, List.length_nil, Nat.zero_le, Nat.reduceAdd, Nat.reduceLeDiff, Option.bind_some, qx_kn_v, qx_kn_n, Nat.add_zero, ↓reduceIte]
    rw [s246_68, ih (i + 1) (by omega)]
theorem g246b {v w tp a b m : Nat} (hv : v < 14) (hm14 : m < 14) (hvm : m ≠ v) : ∀ (k : Nat) (M : qxM) (wy : Nat → List Nat), k ≤ (wy v).length → nW M wy → (∀ c, c ∈ wy v → c < 14) → (wy m).length + k ≤ 14 →
    ∃ M', Rs L xs (d + 2) 246 71 [some (.ref 400), some (.int (nI v)), some (.int (nI w)), some (.int (nI tp)), some (.int (nI a)), some (.int (nI b)), some (.int (nI m)), some (.int (nI k + (-1)))] [] M x = Rs L xs (d + 2) 246 95 [some (.ref 400), some (.int (nI v)), some (.int (nI w)), some (.int (nI tp)), some (.int (nI a)), some (.int (nI b)), some (.int (nI m)), some (.int (nI 0 + (-1)))] [] M' x ∧
      nW M' (qu wy m (wy m ++ ((wy v).take k).reverse)) ∧ mf (fun j => 125 ≤ j) M M' := by
  intro k
  induction k with
  | zero =>
    intro M wy hk hW hel hl
    have h1 : (nI 0 + (-1) < 0) = True := by decide
    refine ⟨M, ?_, ?_, mf_refl _ _⟩
    · simp only [s246_71, s246_73, h1, ↓reduceIte]
    · rw [List.take_zero, List.reverse_nil, List.append_nil, qu_self]
      exact hW
  | succ k ih =>
    intro M wy hk hW hel hl
    have hlo := hW v hv
    have h1 : ¬ nI k < 0 := nI_pos (by omega)
    obtain ⟨M1, e1, w1, f1⟩ := g236 (L := L) (xs := xs) (d := d + 1) (x := 0) (q := (wy v).getD k 0) hm14 hW (by omega)
    have eo : qu wy m (wy m ++ [(wy v).getD k 0]) v = wy v := qu_ne _ _ (Ne.symm hvm)
    obtain ⟨M2, e2, w2, f2⟩ := ih M1 (qu wy m (wy m ++ [(wy v).getD k 0])) (by rw [eo]; omega) w1 (by rw [eo]; exact hel) (by rw [qu_eq, List.length_append, List.length_singleton]; omega)
    rw [qu_eq, qu_twice, eo, List.append_assoc, List.singleton_append] at w2
    refine ⟨M2, ?_, ?_, mf_trans f1 f2⟩
    · simp only [s246_71, s246_73, s246_76, s246_77, s246_79, s246_80, s246_81, s246_83, s246_86, s246_89i, s246_89r, s246_89n, qx_m400.1, qi_pred, h1, g235 hv (show k < 14 by omega), hlo.2.2 k (by omega), e1, List.length_cons, List.length_nil, Nat.zero_le, Nat.reduceAdd, Nat.reduceLeDiff, Option.bind_some, qx_kn_v, qx_kn_n, Nat.add_zero, ↓reduceIte]
      rw [s246_92, e2]
    · rw [qs_take _ _ (by omega), List.reverse_append, List.reverse_singleton, List.singleton_append]
      exact w2
/-- what a bridge's mate needs -/
def qs_h1 (wy : Nat → List Nat) (v w m : Nat) : Prop := wy m = [] ∧ m < 14 ∧ m ≠ v ∧ m ≠ w ∧ ∃ l1 l2, wy v = l1 ++ m :: l2 ∧ (∀ a, a ∈ l1 → a ≠ m) ∧ l1.length + 1 + (wy w).length ≤ 14
theorem g246l (hC : qs_cl rt mt bs lk tm B) (hmm : ∀ b, B b → b ≠ rt → mt (mt b) = b) {v w tp : Nat} (hv : v < 14) (hw : w < 14) (htp : tp < 14) : ∀ (k b a : Nat) (M : qxM) (wy : Nat → List Nat) (nr fr : Nat → Nat) (a6 a7 : Option Value), B b → tm b < k → tp ∈ qs_row (qs_up mt bs lk) rt k b →
    nMt M mt → nB M bs → nLk M lk → nNr M nr → nFr M fr → nW M wy → (∀ c, c ∈ wy v → c < 14) → (∀ c, c ∈ qs_bel (qs_up mt bs lk) tp k b → qs_h1 wy v w (mt c)) →
    (a6 = none ∨ ∃ z, a6 = some (.int z)) → (a7 = none ∨ ∃ z, a7 = some (.int z)) →
    ∃ M', Rs L xs (d + 2) 246 14 [some (.ref 400), some (.int (nI v)), some (.int (nI w)), some (.int (nI tp)), some (.int (nI a)), some (.int (nI b)), a6, a7] [] M x = some (.inl (some (.int (nI (qs_fo (fun c => 2 ^ mt c) (qs_bel (qs_up mt bs lk) tp k b) a)))), M', x) ∧
      nNr M' (qs_st mt v (qs_bel (qs_up mt bs lk) tp k b) nr) ∧ nFr M' (qs_st mt w (qs_bel (qs_up mt bs lk) tp k b) fr) ∧ nW M' (qs_wb mt (wy v) (wy w) (qs_bel (qs_up mt bs lk) tp k b) wy) ∧ mf (fun j => 97 ≤ j) M M' := by
  obtain ⟨k1, k2, k3⟩ := qx_m400
  intro k
  induction k with
  | zero => intro b a M wy nr fr a6 a7 _ h; omega
  | succ k ih =>
    intro b a M wy nr fr a6 a7 hB hk ht hm hb hl hn hf hW hel hH h6 h7
    have b14 := (hC.2.2.1 b hB).1
    have h3 : (nI b = nI tp) = (b = tp) := qi_eq (by omega) (by omega)
    rw [qs_bel] at hH ⊢
    by_cases h0 : b = tp
    · rw [if_pos h0, qs_fo, qs_st, qs_st, qs_wb]
      refine ⟨M, ?_, hn, hf, hW, mf_refl _ _⟩
      simp only [s246_0, s246_1i, s246_1r, s246_1n, s246_3, s246_4, s246_7, s246_9, s246_10, s246_11, s246_12i, s246_12r, s246_12n, s246_14, s246_16, s246_17, s246_20, s246_21, s246_23, s246_26i, s246_26r, s246_26n, s246_28, s246_29, s246_32, s246_34, s246_36, s246_37, s246_38, s246_39, s246_40, s246_43, s246_45, s246_47, s246_48, s246_49, s246_50, s246_51i, s246_51r, s246_51n, s246_53, s246_54, s246_55, s246_57, s246_60, s246_62, s246_65i, s246_65r, s246_65n, s246_71, s246_73, s246_76, s246_77, s246_79, s246_80, s246_81, s246_83, s246_86, s246_89i, s246_89r, s246_89n, s246_95, s246_96, s246_98, s246_99, s246_102, s246_104, s246_105, s246_107, s246_108, s246_109i, s246_109r, s246_109n, s246_111, s246_112, s246_114, s246_117i, s246_117r, s246_117n, s246_122, s246_124, h0, eq_self, List.length_cons, List.length_nil, Nat.zero_le, Nat.reduceAdd, Nat.reduceLeDiff, Option.bind_some, qx_kn_v, qx_kn_n, Nat.add_zero, ↓reduceIte]
    · rw [if_neg h0] at hH ⊢
      rw [qs_fo, qs_st, qs_st, qs_wb]
      rw [qs_row] at ht
      have hr : b ≠ rt := by
        intro e
        rw [if_pos e, List.mem_singleton] at ht
        exact h0 ht.symm
      rw [if_neg hr] at ht
      have ht2 : tp ∈ qs_row (qs_up mt bs lk) rt k (qs_up mt bs lk b) := by
        rcases List.mem_cons.mp ht with e | e
        · exact absurd e.symm h0
        · exact e
      obtain ⟨e1, e2, e3, e4⟩ := hC.2.2.2 b hB hr
      have hup : ∀ b, B b → b ≠ rt → B (qs_up mt bs lk b) ∧ tm (qs_up mt bs lk b) < tm b := fun b q r => (hC.2.2.2 b q r).2.2
      have hmb := hm b b14
      rw [qz_lt e1] at hmb
      obtain ⟨q1, q2, q3, q4, l1, l2, q5, q6, q7⟩ := hH b List.mem_cons_self
      -- near and far
      have f1 : mf (fun j => 97 ≤ j ∧ j < 125) M (qx_up (qx_up M 401 (97 + mt b) (nI v)) 401 (111 + mt b) (nI w)) := mf_trans (mf_up _ _ _ (by omega)) (mf_up _ _ _ (by omega))
      have hm1 := nMt_fr hm f1 (fun j hj => by omega)
      have hb1 := nB_fr hb f1 (fun j hj => by omega)
      have hl1 := nLk_fr hl f1 (fun j hj => by omega)
      have hW1 := nW_fr hW f1 (fun j hj => by omega)
      have hn1 : nNr (qx_up (qx_up M 401 (97 + mt b) (nI v)) 401 (111 + mt b) (nI w)) (qu nr (mt b) v) := by
        intro p hp
        rw [qx_up_at, if_neg (by omega), qx_up_at]
        by_cases e : p = mt b
        · rw [if_pos ⟨rfl, by omega⟩, e, qu_eq, qz_lt hv]
        · rw [if_neg (by omega), qu_ne _ _ e, hn p hp]
      have hf1 : nFr (qx_up (qx_up M 401 (97 + mt b) (nI v)) 401 (111 + mt b) (nI w)) (qu fr (mt b) w) := by
        intro p hp
        rw [qx_up_at]
        by_cases e : p = mt b
        · rw [if_pos ⟨rfl, by omega⟩, e, qu_eq, qz_lt hw]
        · rw [if_neg (by omega), qx_up_at, if_neg (by omega), qu_ne _ _ e, hf p hp]
      have hlv : (wy v).length = l1.length + (l2.length + 1) := by rw [q5, List.length_append, List.length_cons]
      have g1 := g246a (L := L) (xs := xs) (d := d) (x := x) (w := w) (tp := tp) (a := a) (b := b) hv q2 hW1 hel q5 q6 l1.length 0 (by omega)
      obtain ⟨M2, g2, w2, f2⟩ := g246b (L := L) (xs := xs) (d := d) (x := x) (w := w) (tp := tp) (a := a) (b := b) hv q2 q3 (l1.length + 1) _ wy (by omega) hW1 hel (by rw [q1, List.length_nil]; omega)
      rw [qi_pred] at g2
      have htk : ((wy v).take (l1.length + 1)).reverse = qs_back (mt b) (wy v) := by
        rw [q5, qs_back_eq q6, List.take_append, List.take_of_length_le (show l1.length ≤ l1.length + 1 by omega)]
        simp
      rw [htk, q1, List.nil_append] at w2
      have eW : qu wy (mt b) (qs_back (mt b) (wy v)) w = wy w := qu_ne _ _ (Ne.symm q4)
      have hbl : (qs_back (mt b) (wy v)).length = l1.length + 1 := by rw [q5, qs_back_eq q6]; simp
      obtain ⟨M3, g3, w3, f3⟩ := g237 (L := L) (xs := xs) (d := d) (x := 0) (M := M2) q2 hw q4 w2 (by rw [qu_eq, eW, hbl]; exact q7)
      rw [qu_eq, qu_twice, eW] at w3
      have f23 := mf_trans f2 f3
      have hm3 := nMt_fr hm1 f23 (fun j hj => by omega)
      have hb3 := nB_fr hb1 f23 (fun j hj => by omega)
      have hl3 := nLk_fr hl1 f23 (fun j hj => by omega)
      have hn3 := nNr_fr hn1 f23 (fun j hj => by omega)
      have hf3 := nFr_fr hf1 f23 (fun j hj => by omega)
      have ev : qu wy (mt b) (qs_back (mt b) (wy v) ++ wy w) v = wy v := qu_ne _ _ (Ne.symm q3)
      have ew : qu wy (mt b) (qs_back (mt b) (wy v) ++ wy w) w = wy w := qu_ne _ _ (Ne.symm q4)
      have hH3 : ∀ c, c ∈ qs_bel (qs_up mt bs lk) tp k (qs_up mt bs lk b) → qs_h1 (qu wy (mt b) (qs_back (mt b) (wy v) ++ wy w)) v w (mt c) := by
        intro c hc
        have r1 := qs_bel_mem hup tp k (qs_up mt bs lk b) e3 (by omega) ht2 c hc
        have r2 : mt c ≠ mt b := by
          intro e
          have r3 := hmm c r1.2.1 r1.2.2.1
          rw [e, hmm b hB hr] at r3
          rw [← r3] at r1
          omega
        have r4 := hH c (List.mem_cons_of_mem _ hc)
        unfold qs_h1 at r4 ⊢
        rw [ev, ew, qu_ne _ _ r2]
        exact r4
      obtain ⟨M4, g4, n4, p4, w4, f4⟩ := ih (qs_up mt bs lk b) (a ||| 2 ^ mt b) M3 _ _ _ (some (.int (nI (mt b)))) (some (.int (nI 0 + (-1)))) e3 (by omega) ht2 hm3 hb3 hl3 hn3 hf3 w3 (by rw [ev]; exact hel) hH3 (Or.inr ⟨_, rfl⟩) (Or.inr ⟨_, rfl⟩)
      rw [ev, ew] at w4
      refine ⟨M4, ?_, n4, p4, w4, mf_trans (mf_mono f1 (fun j hj => by omega)) (mf_trans (mf_mono f23 (fun j hj => by omega)) f4)⟩
      rcases h6 with h6 | ⟨z6, h6⟩ <;> rcases h7 with h7 | ⟨z7, h7⟩ <;> subst h6 <;> subst h7 <;>
      · simp only [s246_0, s246_1i, s246_1r, s246_1n, s246_3, s246_4, s246_7, s246_9, s246_10, s246_11, s246_12i, s246_12r, s246_12n, s246_14, s246_16, s246_17, s246_20, s246_21, s246_23, s246_26i, s246_26r, s246_26n, s246_28, s246_29, s246_32, s246_34, s246_36, s246_37, s246_38, s246_39, s246_40, s246_43, s246_45, s246_47, s246_48, s246_49, s246_50, s246_51i, s246_51r, s246_51n, s246_54, s246_55, s246_57, s246_60, s246_62, s246_65i, s246_65r, s246_65n, s246_73, s246_76, s246_77, s246_79, s246_80, s246_81, s246_83, s246_86, s246_89i, s246_89r, s246_89n, s246_96, s246_98, s246_99, s246_102, s246_104, s246_105, s246_107, s246_108, s246_109i, s246_109r, s246_109n, s246_111, s246_112, s246_114, s246_117i, s246_117r, s246_117n, s246_122, s246_124, h3, h0, k1, k2, k3, nI_add, m213 b14, hmb, (qn_c (97 + mt b) (by omega)).1, (qn_c (97 + mt b) (by omega)).2, (qn_c (111 + mt b) (by omega)).1, (qn_c (111 + mt b) (by omega)).2, List.length_cons, List.length_nil, Nat.zero_le, Nat.reduceAdd, Nat.reduceLeDiff, Option.bind_some, qx_kn_v, qx_kn_n, Nat.add_zero, ↓reduceIte]
        rw [g1, g2]
        simp only [s246_0, s246_1i, s246_1r, s246_1n, s246_3, s246_4, s246_7, s246_9, s246_10, s246_11, s246_12i, s246_12r, s246_12n, s246_14, s246_16, s246_17, s246_20, s246_21, s246_23, s246_26i, s246_26r, s246_26n, s246_28, s246_29, s246_32, s246_34, s246_36, s246_37, s246_38, s246_39, s246_40, s246_43, s246_45, s246_47, s246_48, s246_49, s246_50, s246_51i, s246_51r, s246_51n, s246_54, s246_55, s246_57, s246_60, s246_62, s246_65i, s246_65r, s246_65n, s246_73, s246_76, s246_77, s246_79, s246_80, s246_81, s246_83, s246_86, s246_89i, s246_89r, s246_89n, s246_95, s246_96, s246_98, s246_99, s246_102, s246_104, s246_105, s246_107, s246_108, s246_109i, s246_109r, s246_109n, s246_111, s246_112, s246_114, s246_117i, s246_117r, s246_117n, s246_122, s246_124, k1, k2, k3, g3, qb_shl (show mt b < 32 by omega), qb_or, g244 hC hm3 hb3 hl3 hB hr, List.length_cons, List.length_nil, Nat.zero_le, Nat.reduceAdd, Nat.reduceLeDiff, Option.bind_some, qx_kn_v, qx_kn_n, Nat.add_zero, ↓reduceIte]
        rw [s246_119, g4]
theorem g246 (hC : qs_cl rt mt bs lk tm B) (hmm : ∀ b, B b → b ≠ rt → mt (mt b) = b) {v w tp : Nat} {wy : Nat → List Nat} {nr fr : Nat → Nat} (hv : v < 14) (hw : w < 14) (htp : tp < 14) (hBv : B (bs v)) (ht : tp ∈ qs_row (qs_up mt bs lk) rt 14 (bs v))
    (hm : nMt M mt) (hb : nB M bs) (hl : nLk M lk) (hn : nNr M nr) (hf : nFr M fr) (hW : nW M wy) (hel : ∀ c, c ∈ wy v → c < 14) (hH : ∀ c, c ∈ qs_bel (qs_up mt bs lk) tp 14 (bs v) → qs_h1 wy v w (mt c)) :
    ∃ M', Rs L xs (d + 2) 246 0 [some (.ref (400)), some (.int (nI v)), some (.int (nI w)), some (.int (nI tp)), none, none, none, none] [] (M) x = some (.inl (some (.int (nI (qs_fo (fun c => 2 ^ mt c) (qs_bel (qs_up mt bs lk) tp 14 (bs v)) 0)))), M', x) ∧
      nNr M' (qs_st mt v (qs_bel (qs_up mt bs lk) tp 14 (bs v)) nr) ∧ nFr M' (qs_st mt w (qs_bel (qs_up mt bs lk) tp 14 (bs v)) fr) ∧ nW M' (qs_wb mt (wy v) (wy w) (qs_bel (qs_up mt bs lk) tp 14 (bs v)) wy) ∧ mf (fun j => 97 ≤ j) M M' := by
  obtain ⟨k1, k2, k3⟩ := qx_m400
  obtain ⟨M4, g4, n4, p4, w4, f4⟩ := g246l (L := L) (xs := xs) (d := d) (x := x) hC hmm hv hw htp 14 (bs v) 0 M wy nr fr none none hBv (hC.2.2.1 _ hBv).2 ht hm hb hl hn hf hW hel hH (Or.inl rfl) (Or.inl rfl)
  have hcb : ∀ p, p < 14 → M.1 401 (69 + p) = nI (bs p) := hb
  refine ⟨M4, ?_, n4, p4, w4, f4⟩
  simp only [s246_0, s246_1i, s246_1r, s246_1n, s246_3, s246_4, s246_7, s246_9, s246_10, s246_11, s246_12i, s246_12r, s246_12n, s246_16, s246_17, s246_20, s246_21, s246_23, s246_26i, s246_26r, s246_26n, s246_28, s246_29, s246_32, s246_34, s246_36, s246_37, s246_38, s246_39, s246_40, s246_43, s246_45, s246_47, s246_48, s246_49, s246_50, s246_51i, s246_51r, s246_51n, s246_54, s246_55, s246_57, s246_60, s246_62, s246_65i, s246_65r, s246_65n, s246_73, s246_76, s246_77, s246_79, s246_80, s246_81, s246_83, s246_86, s246_89i, s246_89r, s246_89n, s246_95, s246_96, s246_98, s246_99, s246_102, s246_104, s246_105, s246_107, s246_108, s246_109i, s246_109r, s246_109n, s246_111, s246_112, s246_114, s246_117i, s246_117r, s246_117n, s246_122, s246_124, k1, k2, k3, nI_add, hcb v hv, (qn_c (69 + v) (by omega)).1, (qn_c (69 + v) (by omega)).2, List.length_cons, List.length_nil, Nat.zero_le, Nat.reduceAdd, Nat.reduceLeDiff, Option.bind_some, qx_kn_v, qx_kn_n, Nat.add_zero, ↓reduceIte]
  exact g4
end QL
