/-! States that are kept; a search begins in the Model. -/
section QL
variable {L : Nat} {xs : Nat → Int32} {d x : Nat}
theorem g182l {a b i j la lb : Nat} (ka : qx_kd a = 0) (na : qx_ln a = la) (kb : qx_kd b = 0) (nb : qx_ln b = lb) (hi : i + 335 ≤ la) (hj : j + 335 ≤ lb) (hla : la < 2 ^ 31) (hlb : lb < 2 ^ 31) (hab : a ≠ b) : ∀ (k m : Nat) (M : qxM), m + k = 335 →
    Rs L xs (d) 182 3 [some (.ref (a)), some (.int (nI i)), some (.ref (b)), some (.int (nI j)), some (.int (nI m))] [] (M) x = some (.inl (none), qx_ur M b (fun q => if j + m ≤ q ∧ q < j + 335 then M.1 a (i + (q - j)) else M.1 b q), x) := by
  intro k
  induction k with
  | zero =>
    intro m M hm
    have h1 : (nI 335 ≤ nI m) = True := by rw [show m = 335 by omega]; exact eq_true (Int32.le_refl _)
    have e : (fun q => if j + m ≤ q ∧ q < j + 335 then M.1 a (i + (q - j)) else M.1 b q) = M.1 b := funext fun q => if_neg (by omega)
    rw [e, qx_ur_self]
    simp only [s182_0, s182_1i, s182_1r, s182_1n, s182_3, s182_5, s182_8, s182_11, s182_12, s182_13, s182_15, s182_16, s182_17, s182_18, s182_20, s182_21, s182_22, s182_23i, s182_23r, s182_23n, s182_29, h1, ↓reduceIte]
  | succ k ih =>
    intro m M hm
    have h1 : ¬ nI 335 ≤ nI m := nI_ge (by omega) (by decide)
    have q1 : qx_ib (nI (i + m)) la = true := qx_ib_of (by omega) hla
    have q2 : (nI (i + m)).toNatClampNeg = i + m := nI_clamp (by omega)
    have q3 : qx_ib (nI (j + m)) lb = true := qx_ib_of (by omega) hlb
    have q4 : (nI (j + m)).toNatClampNeg = j + m := nI_clamp (by omega)
    have h2 := ih (m + 1) (qx_up M b (j + m) (M.1 a (i + m))) (by omega)
    have e : (fun q => if j + (m + 1) ≤ q ∧ q < j + 335 then (qx_up M b (j + m) (M.1 a (i + m))).1 a (i + (q - j)) else (qx_up M b (j + m) (M.1 a (i + m))).1 b q) = (fun q => if j + m ≤ q ∧ q < j + 335 then M.1 a (i + (q - j)) else M.1 b q) := by
      funext q
      rw [qx_up_at, qx_up_at]
      by_cases z : q = j + m
      · rw [if_neg (by omega), if_pos ⟨rfl, z⟩, if_pos (by omega), z, show i + (j + m - j) = i + m by omega]
      · by_cases y : j + (m + 1) ≤ q ∧ q < j + 335
        · rw [if_pos y, if_neg (fun w => hab w.1), if_pos (by omega)]
        · rw [if_neg y, if_neg (by omega), if_neg (by omega)]
    rw [e, qx_up_ur, qx_ur_ur] at h2
    simp only [s182_0, s182_1i, s182_1r, s182_1n, s182_3, s182_5, s182_8, s182_11, s182_12, s182_13, s182_15, s182_16, s182_17, s182_18, s182_20, s182_21, s182_22, s182_23i, s182_23r, s182_23n, s182_29, h1, nI_add, ka, na, kb, nb, q1, q2, q3, q4, List.length_cons, List.length_nil, Nat.zero_le, Nat.reduceAdd, Nat.reduceLeDiff, Option.bind_some, qx_kn_v, qx_kn_n, Nat.add_zero, Bool.false_eq_true, ↓reduceIte]
    rw [s182_26, qx_up_ur, h2]
theorem g182 {a b i j la lb : Nat} (ka : qx_kd a = 0) (na : qx_ln a = la) (kb : qx_kd b = 0) (nb : qx_ln b = lb) (hi : i + 335 ≤ la) (hj : j + 335 ≤ lb) (hla : la < 2 ^ 31) (hlb : lb < 2 ^ 31) (hab : a ≠ b) {M : qxM} :
    ∃ M', Rs L xs (d) 182 0 [some (.ref (a)), some (.int (nI i)), some (.ref (b)), some (.int (nI j)), none] [] (M) x = some (.inl (none), M', x) ∧ (∀ k, k < 335 → M'.1 b (j + k) = M.1 a (i + k)) ∧ (∀ q, q < j ∨ j + 335 ≤ q → M'.1 b q = M.1 b q) ∧ qf (fun c => c = b) M M' := by
  have h := g182l (L := L) (xs := xs) (d := d) (x := x) ka na kb nb hi hj hla hlb hab 335 0 M (by omega)
  have h0 : Rs L xs d 182 0 [some (.ref a), some (.int (nI i)), some (.ref b), some (.int (nI j)), none] [] M x = Rs L xs d 182 3 [some (.ref a), some (.int (nI i)), some (.ref b), some (.int (nI j)), some (.int (nI 0))] [] M x := by
    simp only [s182_0, s182_1i, s182_1r, s182_1n]
  refine ⟨_, h0.trans h, ?_, ?_, qf_ur _ _ _ rfl⟩
  · intro k hk
    rw [qx_ur_eq, if_pos (by omega), show i + (j + k - j) = i + k by omega]
  · intro q hq
    rw [qx_ur_eq, if_neg (by omega)]
theorem qx_m4 : (qx_kd 402 = 0 ∧ qx_ln 402 = 335) ∧ (qx_kd 403 = 0 ∧ qx_ln 403 = 2680) ∧ (qx_kd 404 = 0 ∧ qx_ln 404 = 670) ∧ (qx_kd 405 = 2 ∧ qx_ln 405 = 2) := by decide +kernel
/-- thinks, back -/
theorem g183 {M : qxM} : ∃ M', Rs L xs (d + 1) 183 0 [some (.ref (400))] [] (M) x = some (.inl (none), M', x) ∧ (∀ k, k < 335 → M'.1 402 k = M.1 401 k) ∧ qf (fun c => c = 402) M M' := by
  obtain ⟨k1, k2, k3⟩ := qx_m400
  obtain ⟨⟨a1, a2⟩, b⟩ := qx_m4
  obtain ⟨M1, g1, w1, w2, f1⟩ := g182 (L := L) (xs := xs) (d := d) (x := 0) (i := 0) (j := 0) (M := M) k2 k3 a1 a2 (by decide) (by decide) (by decide) (by decide) (by decide)
  refine ⟨M1, ?_, fun k hk => ?_, f1⟩
  · simp only [s183_0, s183_1, s183_4, s183_5, s183_6, s183_9, s183_10, s183_13, k1, k2, a1, g1, List.length_cons, List.length_nil, Nat.zero_le, Nat.reduceAdd, Nat.reduceLeDiff, Option.bind_some, qx_kn_v, qx_kn_n, Nat.add_zero, Bool.false_eq_true, ↓reduceIte]
  · have := w1 k hk
    rw [Nat.zero_add] at this
    exact this
theorem g184 {M : qxM} {z : Int32} : ∃ M', Rs L xs (d + 1) 184 0 [some (.ref (400)), some (.int (z))] [] (M) x = some (.inl (some (.int (z))), M', x) ∧ (∀ k, k < 335 → M'.1 401 k = M.1 402 k) ∧ qf (fun c => c = 401) M M' := by
  obtain ⟨k1, k2, k3⟩ := qx_m400
  obtain ⟨⟨a1, a2⟩, b⟩ := qx_m4
  obtain ⟨M1, g1, w1, w2, f1⟩ := g182 (L := L) (xs := xs) (d := d) (x := 0) (i := 0) (j := 0) (M := M) a1 a2 k2 k3 (by decide) (by decide) (by decide) (by decide) (by decide)
  refine ⟨M1, ?_, fun k hk => ?_, f1⟩
  · simp only [s184_0, s184_1, s184_4, s184_5, s184_6, s184_9, s184_10, s184_13, s184_14, k1, k2, a1, g1, List.length_cons, List.length_nil, Nat.zero_le, Nat.reduceAdd, Nat.reduceLeDiff, Option.bind_some, qx_kn_v, qx_kn_n, Nat.add_zero, Bool.false_eq_true, ↓reduceIte]
  · have := w1 k hk
    rw [Nat.zero_add] at this
    exact this
/-- begins -/
theorem g238a {p : Nat} : ∀ (k i : Nat) (M : qxM), i + k = 335 → 35 ≤ i →
    Rs L xs (d + 1) 238 3 [some (.ref 400), some (.int (nI p)), some (.int (nI i))] [] M x = Rs L xs (d + 1) 238 23 [some (.ref 400), some (.int (nI p)), some (.int (nI 335))] [] (qx_ur M 401 (fun j => if i ≤ j ∧ j < 335 then nI 0 else M.1 401 j)) x := by
  obtain ⟨k1, k2, k3⟩ := qx_m400
  intro k
  induction k with
  | zero =>
    intro i M hi h35
    rw [show i = 335 by omega]
    have h1 : (nI 335 ≤ nI 335) = True := eq_true (Int32.le_refl _)
    have e : (fun j => if 335 ≤ j ∧ j < 335 then nI 0 else M.1 401 j) = M.1 401 := funext fun j => if_neg (by omega)
    rw [e, qx_ur_self]
    simp only [s238_3, s238_4, s238_7, h1, ↓reduceIte]
  | succ k ih =>
    intro i M hi h35
    have h1 : ¬ nI 335 ≤ nI i := nI_ge (by omega) (by decide)
    have h2 := ih (i + 1) (qx_up M 401 i (nI 0)) (by omega) (by omega)
    have e : (fun j => if i + 1 ≤ j ∧ j < 335 then nI 0 else (qx_up M 401 i (nI 0)).1 401 j) = (fun j => if i ≤ j ∧ j < 335 then nI 0 else M.1 401 j) := by
      funext j
      rw [qx_up_at]
      by_cases z : j = i
      · rw [if_neg (by omega), if_pos ⟨rfl, z⟩, if_pos (by omega)]
      · by_cases y : i + 1 ≤ j ∧ j < 335
        · rw [if_pos y, if_pos (by omega)]
        · rw [if_neg y, if_neg (by omega), if_neg (by omega)]
    rw [e, qx_up_ur, qx_ur_ur] at h2
    simp only [s238_3, s238_4, s238_7, s238_10, s238_11, s238_14, s238_15, s238_16, s238_17i, s238_17r, s238_17n, k1, k2, k3, h1, nI_add, (qn_c (i) (by omega)).1, (qn_c (i) (by omega)).2, List.length_cons, List.length_nil, Nat.zero_le, Nat.reduceAdd, Nat.reduceLeDiff, Option.bind_some, qx_kn_v, qx_kn_n, Nat.add_zero, Bool.false_eq_true, ↓reduceIte]
    rw [s238_20, qx_up_ur, h2]
theorem g238b {p : Nat} : ∀ (k i : Nat) (M : qxM), i + k = 14 →
    ∃ M', Rs L xs (d + 1) 238 25 [some (.ref 400), some (.int (nI p)), some (.int (nI i))] [] M x = Rs L xs (d + 1) 238 77 [some (.ref 400), some (.int (nI p)), some (.int (nI 14))] [] M' x ∧
      (∀ q, i ≤ q → q < 14 → M'.1 401 (69 + q) = nI q ∧ M'.1 401 (83 + q) = -1 ∧ M'.1 401 (97 + q) = -1 ∧ M'.1 401 (111 + q) = -1) ∧ (∀ q, q < i → M'.1 401 (69 + q) = M.1 401 (69 + q) ∧ M'.1 401 (83 + q) = M.1 401 (83 + q) ∧ M'.1 401 (97 + q) = M.1 401 (97 + q) ∧ M'.1 401 (111 + q) = M.1 401 (111 + q)) ∧ mf (fun j => 69 ≤ j ∧ j < 125) M M' := by
  obtain ⟨k1, k2, k3⟩ := qx_m400
  intro k
  induction k with
  | zero =>
    intro i M hi
    rw [show i = 14 by omega]
    have h1 : (nI 14 ≤ nI 14) = True := eq_true (Int32.le_refl _)
    refine ⟨M, ?_, fun q h1 h2 => by omega, fun q _ => ⟨rfl, rfl, rfl, rfl⟩, mf_refl _ _⟩
    simp only [s238_25, s238_26, s238_28, h1, ↓reduceIte]
  | succ k ih =>
    intro i M hi
    have h1 : ¬ nI 14 ≤ nI i := nI_ge (by omega) (by decide)
    have f1 : mf (fun j => 69 ≤ j ∧ j < 125) M (qx_up (qx_up (qx_up (qx_up M 401 (69 + i) (nI i)) 401 (83 + i) (-1)) 401 (97 + i) (-1)) 401 (111 + i) (-1)) := mf_trans (mf_up _ _ _ (by omega)) (mf_trans (mf_up _ _ _ (by omega)) (mf_trans (mf_up _ _ _ (by omega)) (mf_up _ _ _ (by omega))))
    obtain ⟨M2, g2, w1, w2, f2⟩ := ih (i + 1) _ (by omega)
    refine ⟨M2, ?_, ?_, ?_, mf_trans f1 f2⟩
    · simp only [s238_25, s238_26, s238_28, s238_31, s238_32, s238_35, s238_37, s238_38, s238_39, s238_40, s238_41, s238_42, s238_45, s238_47, s238_48, s238_49, s238_50, s238_51, s238_52, s238_55, s238_57, s238_58, s238_59, s238_60, s238_61, s238_62, s238_65, s238_67, s238_68, s238_69, s238_70, s238_71i, s238_71r, s238_71n, k1, k2, k3, h1, nI_add, (qn_c (69 + i) (by omega)).1, (qn_c (69 + i) (by omega)).2, (qn_c (83 + i) (by omega)).1, (qn_c (83 + i) (by omega)).2, (qn_c (97 + i) (by omega)).1, (qn_c (97 + i) (by omega)).2, (qn_c (111 + i) (by omega)).1, (qn_c (111 + i) (by omega)).2, List.length_cons, List.length_nil, Nat.zero_le, Nat.reduceAdd, Nat.reduceLeDiff, Option.bind_some, qx_kn_v, qx_kn_n, Nat.add_zero, Bool.false_eq_true, ↓reduceIte]
      rw [s238_74, g2]
    · intro q h1 h2
      by_cases z : q = i
      · obtain ⟨y1, y2, y3, y4⟩ := w2 q (by omega)
        rw [y1, y2, y3, y4, z]
        refine ⟨?_, ?_, ?_, ?_⟩
        · rw [qx_up_at, if_neg (by omega), qx_up_at, if_neg (by omega), qx_up_at, if_neg (by omega), qx_up_at, if_pos ⟨rfl, rfl⟩]
        · rw [qx_up_at, if_neg (by omega), qx_up_at, if_neg (by omega), qx_up_at, if_pos ⟨rfl, rfl⟩]
        · rw [qx_up_at, if_neg (by omega), qx_up_at, if_pos ⟨rfl, rfl⟩]
        · rw [qx_up_at, if_pos ⟨rfl, rfl⟩]
      · exact w1 q (by omega) h2
    · intro q hq
      obtain ⟨y1, y2, y3, y4⟩ := w2 q (by omega)
      rw [y1, y2, y3, y4]
      refine ⟨?_, ?_, ?_, ?_⟩ <;> rw [qx_up_at, if_neg (by omega), qx_up_at, if_neg (by omega), qx_up_at, if_neg (by omega), qx_up_at, if_neg (by omega)]
theorem g238 {p : Nat} {M : qxM} (qa : Nat → Nat) (hp : p < 14) : ∃ M', Rs L xs (d + 1) 238 0 [some (.ref (400)), some (.int (nI p)), none] [] (M) x = some (.inl (none), M', x) ∧ mS M' (gBeg p qa) ∧ mf (fun j => 35 ≤ j) M M' := by
  obtain ⟨k1, k2, k3⟩ := qx_m400
  have h1 := g238a (L := L) (xs := xs) (d := d) (x := x) (p := p) 300 35 M (by decide) (by decide)
  generalize hM1 : qx_ur M 401 (fun j => if 35 ≤ j ∧ j < 335 then nI 0 else M.1 401 j) = M1 at h1
  have z1 : ∀ j, 35 ≤ j → j < 335 → M1.1 401 j = nI 0 := fun j a b => by rw [← hM1, qx_ur_eq, if_pos ⟨a, b⟩]
  have f1 : mf (fun j => 35 ≤ j) M M1 := by
    refine ⟨?_, fun j hj => ?_⟩
    · rw [← hM1]
      exact qf_ur _ _ _ rfl
    · rw [← hM1, qx_ur_eq, if_neg (by omega)]
  obtain ⟨M2, g2, w1, w2, f2⟩ := g238b (L := L) (xs := xs) (d := d) (x := x) (p := p) 14 0 M1 (by decide)
  have z2 : ∀ j, 35 ≤ j → j < 335 → (j < 69 ∨ 125 ≤ j) → M2.1 401 j = nI 0 := fun j a b c => by rw [f2.2 j (by omega), z1 j a b]
  have f3 : mf (fun j => 35 ≤ j ∧ j < 69) M2 (qx_up (qx_up (qx_up M2 401 35 (nI 1)) 401 36 (nI p)) 401 (55 + p) (nI 1)) := mf_trans (mf_up _ _ _ (by omega)) (mf_trans (mf_up _ _ _ (by omega)) (mf_up _ _ _ (by omega)))
  have hW3 : nW (qx_up (qx_up (qx_up M2 401 35 (nI 1)) 401 36 (nI p)) 401 (55 + p) (nI 1)) (fun _ => []) := by
    intro q hq
    refine ⟨Nat.zero_le _, ?_, fun i hi => absurd hi (Nat.not_lt_zero i)⟩
    rw [f3.2 _ (by omega)]
    exact z2 _ (by omega) (by omega) (by omega)
  obtain ⟨M4, g4, w4, f4⟩ := g236 (L := L) (xs := xs) (d := d) (x := 0) (q := p) hp hW3 (by simp)
  have h40 : M4.1 401 40 = nI 0 := by
    rw [f4.2 _ (by omega), qx_up_at, if_neg (by omega), qx_up_at, if_neg (by omega), qx_up_at, if_neg (by omega)]
    exact z2 _ (by omega) (by omega) (by omega)
  have f5 : mf (fun j => 40 ≤ j ∧ j < 42) M4 (qx_up (qx_up M4 401 (41 + 0) (nI p)) 401 40 (nI (0 + 1))) := mf_trans (mf_up _ _ _ (by omega)) (mf_up _ _ _ (by omega))
  have fA : ∀ j, 42 ≤ j → j < 125 → (qx_up (qx_up M4 401 (41 + 0) (nI p)) 401 40 (nI (0 + 1))).1 401 j = if j = 55 + p then nI 1 else M2.1 401 j := by
    intro j a b
    rw [f5.2 _ (by omega), f4.2 _ (by omega), qx_up_at]
    by_cases z : j = 55 + p
    · rw [if_pos ⟨rfl, z⟩, if_pos z]
    · rw [if_neg (by omega), if_neg z, qx_up_at, if_neg (by omega), qx_up_at, if_neg (by omega)]
  have fB : ∀ j, 37 ≤ j → j < 40 → (qx_up (qx_up M4 401 (41 + 0) (nI p)) 401 40 (nI (0 + 1))).1 401 j = nI 0 := by
    intro j a b
    rw [f5.2 _ (by omega), f4.2 _ (by omega), qx_up_at, if_neg (by omega), qx_up_at, if_neg (by omega), qx_up_at, if_neg (by omega)]
    exact z2 _ (by omega) (by omega) (by omega)
  refine ⟨_, ?_, ⟨⟨?_, ?_, ?_, ?_, ?_, ?_⟩, ?_, ?_, ?_, ?_, ?_, ?_, ?_⟩, mf_trans f1 (mf_trans (mf_mono f2 (by omega)) (mf_trans (mf_mono f3 (by omega)) (mf_trans (mf_mono f4 (by omega)) (mf_mono f5 (by omega)))))⟩
  rotate_left
  · rw [f5.2 _ (by omega), f4.2 _ (by omega), qx_up_at, if_neg (by omega), qx_up_at, if_neg (by omega), qx_up_at, if_pos ⟨rfl, rfl⟩]
    rfl
  · rw [f5.2 _ (by omega), f4.2 _ (by omega), qx_up_at, if_neg (by omega), qx_up_at, if_pos ⟨rfl, rfl⟩]
    rfl
  · exact fB 37 (by decide) (by decide)
  · exact fB 38 (by decide) (by decide)
  · exact fB 39 (by decide) (by decide)
  · rw [qx_up_at, if_pos ⟨rfl, rfl⟩]
    rfl
  · intro j h1 h2
    have h2' : j < 1 := h2
    have hj : j = 0 := by omega
    subst hj
    show (qx_up (qx_up M4 401 (41 + 0) (nI p)) 401 40 (nI (0 + 1))).1 401 41 = nI (qu qa 0 p 0)
    rw [qx_up_at, if_neg (by omega), qx_up_at, if_pos ⟨rfl, rfl⟩, qu_eq]
  · intro q hq
    rw [fA _ (by omega) (by omega)]
    show _ = nI (qs_lb (2 ^ p) 0 q)
    unfold qs_lb
    rw [qb_two, Nat.zero_testBit]
    by_cases z : p = q
    · rw [if_pos (by omega)]
      simp [z]
    · rw [if_neg (by omega), z2 _ (by omega) (by omega) (by omega)]
      simp [z]
  · intro q hq
    rw [fA _ (by omega) (by omega), if_neg (by omega)]
    exact (w1 q (Nat.zero_le _) hq).1
  · intro q hq
    rw [fA _ (by omega) (by omega), if_neg (by omega)]
    exact (w1 q (Nat.zero_le _) hq).2.1
  · intro q hq
    rw [fA _ (by omega) (by omega), if_neg (by omega)]
    exact (w1 q (Nat.zero_le _) hq).2.2.1
  · intro q hq
    rw [fA _ (by omega) (by omega), if_neg (by omega)]
    exact (w1 q (Nat.zero_le _) hq).2.2.2
  · exact nW_fr w4 f5 (by omega)
  · simp only [s238_0, s238_2i, s238_2r, s238_2n]
    rw [h1]
    simp only [s238_23, s238_24i, s238_24r, s238_24n]
    rw [g2]
    simp only [s238_77, s238_78, s238_81, s238_83, s238_84, s238_85, s238_86, s238_89, s238_91, s238_92, s238_93, s238_94, s238_95, s238_96, s238_99i, s238_99r, s238_99n, s238_100, s238_101, s238_102, s238_103, s238_106, s238_107, s238_108, s238_111, k1, k2, k3, g233 hp, g4, g234 h40 (show 0 < 14 by decide), (qn_c (35) (by omega)).1, (qn_c (35) (by omega)).2, (qn_c (36) (by omega)).1, (qn_c (36) (by omega)).2, List.length_cons, List.length_nil, Nat.zero_le, Nat.reduceAdd, Nat.reduceLeDiff, Option.bind_some, qx_kn_v, qx_kn_n, Nat.add_zero, Bool.false_eq_true, ↓reduceIte]
/-- remembers -/
theorem g318l : ∀ (k i : Nat) (M : qxM), i + k = 2345 →
    Rs L xs (d + 1) 318 11 [some (.ref 400), some (.int (nI i))] [] M x = Rs L xs (d + 1) 318 40 [some (.ref 400), some (.int (nI 2345))] [] (qx_ur M 403 (fun j => if i ≤ j ∧ j < 2345 then M.1 403 (j + 335) else M.1 403 j)) x := by
  obtain ⟨k1, k2, k3⟩ := qx_m400
  obtain ⟨a, ⟨b1, b2⟩, c⟩ := qx_m4
  intro k
  induction k with
  | zero =>
    intro i M hi
    rw [show i = 2345 by omega]
    have h1 : (nI 2345 ≤ nI 2345) = True := eq_true (Int32.le_refl _)
    have e : (fun j => if 2345 ≤ j ∧ j < 2345 then M.1 403 (j + 335) else M.1 403 j) = M.1 403 := funext fun j => if_neg (by omega)
    rw [e, qx_ur_self]
    simp only [s318_11, s318_12, s318_15, h1, ↓reduceIte]
  | succ k ih =>
    intro i M hi
    have h1 : ¬ nI 2345 ≤ nI i := nI_ge (by omega) (by decide)
    have q1 : qx_ib (nI i) 2680 = true := qx_ib_of (by omega) (by decide)
    have q2 : (nI i).toNatClampNeg = i := nI_clamp (by omega)
    have q3 : qx_ib (nI (i + 335)) 2680 = true := qx_ib_of (by omega) (by decide)
    have q4 : (nI (i + 335)).toNatClampNeg = i + 335 := nI_clamp (by omega)
    have h2 := ih (i + 1) (qx_up M 403 i (M.1 403 (i + 335))) (by omega)
    have e : (fun j => if i + 1 ≤ j ∧ j < 2345 then (qx_up M 403 i (M.1 403 (i + 335))).1 403 (j + 335) else (qx_up M 403 i (M.1 403 (i + 335))).1 403 j) = (fun j => if i ≤ j ∧ j < 2345 then M.1 403 (j + 335) else M.1 403 j) := by
      funext j
      rw [qx_up_at, qx_up_at]
      by_cases z : j = i
      · rw [if_neg (by omega), if_pos ⟨rfl, z⟩, if_pos (by omega), z]
      · by_cases y : i + 1 ≤ j ∧ j < 2345
        · rw [if_pos y, if_neg (by omega), if_pos (by omega)]
        · rw [if_neg y, if_neg (by omega), if_neg (by omega)]
    rw [e, qx_up_ur, qx_ur_ur] at h2
    simp only [s318_11, s318_12, s318_15, s318_18, s318_19, s318_22, s318_23, s318_24, s318_27, s318_28, s318_31, s318_32, s318_33, s318_34i, s318_34r, s318_34n, k1, b1, b2, h1, nI_add, q1, q2, q3, q4, List.length_cons, List.length_nil, Nat.zero_le, Nat.reduceAdd, Nat.reduceLeDiff, Option.bind_some, qx_kn_v, qx_kn_n, Nat.add_zero, Bool.false_eq_true, ↓reduceIte]
    rw [s318_37, qx_up_ur, h2]
theorem g318 {M : qxM} {c : Nat} (hc : M.1 400 7 = nI c) (hc8 : c ≤ 8) :
    ∃ M', Rs L xs (d + 1) 318 0 [some (.ref (400)), none] [] (M) x = some (.inl (none), M', x) ∧ M'.1 400 7 = nI (if c = 8 then 8 else c + 1) ∧ (∀ k, k ≠ 7 → M'.1 400 k = M.1 400 k) ∧
      (∀ k, k < 335 → M'.1 403 (335 * (if c = 8 then 7 else c) + k) = M.1 401 k) ∧ (∀ j k, j < (if c = 8 then 7 else c) → k < 335 → M'.1 403 (335 * j + k) = M.1 403 (335 * (if c = 8 then j + 1 else j) + k)) ∧ qf (fun a => a = 400 ∨ a = 403) M M' := by
  obtain ⟨k1, k2, k3⟩ := qx_m400
  obtain ⟨a, ⟨b1, b2⟩, c0⟩ := qx_m4
  by_cases h8 : c = 8
  · rw [if_pos h8, if_pos h8]
    have e8 : (nI c = nI 8) = True := by rw [h8]; exact eq_self _
    have h1 := g318l (L := L) (xs := xs) (d := d) (x := x) 2345 0 M (by decide)
    generalize hM1 : qx_ur M 403 (fun j => if 0 ≤ j ∧ j < 2345 then M.1 403 (j + 335) else M.1 403 j) = M1 at h1
    have f1 : qf (fun a => a = 400 ∨ a = 403) M M1 := by rw [← hM1]; exact qf_ur _ _ _ (Or.inr rfl)
    have w1 : ∀ j, j < 2345 → M1.1 403 j = M.1 403 (j + 335) := fun j hj => by rw [← hM1, qx_ur_eq, if_pos ⟨Nat.zero_le _, hj⟩]
    have c1 : M1.1 400 = M.1 400 := by rw [← hM1, qx_ur_ne _ _ (by decide)]
    have c2 : M1.1 401 = M.1 401 := by rw [← hM1, qx_ur_ne _ _ (by decide)]
    have f2 : qf (fun a => a = 400 ∨ a = 403) M1 (qx_up M1 400 7 (nI 7)) := qf_up _ _ _ _ (Or.inl rfl)
    obtain ⟨M3, g3, w3, v3, f3⟩ := g182 (L := L) (xs := xs) (d := d) (x := 0) (i := 0) (j := 2345) (M := qx_up M1 400 7 (nI 7)) k2 k3 b1 b2 (by decide) (by decide) (by decide) (by decide) (by decide)
    have e7 : (qx_up M1 400 7 (nI 7)).1 400 7 = nI 7 := by simp [qx_up_at]
    have e37 : M3.1 400 7 = nI 7 := by rw [f3.1 _ (by decide), e7]
    have f4 : qf (fun a => a = 400) M3 (qx_up M3 400 7 (nI 8)) := qf_up _ _ _ _ rfl
    refine ⟨qx_up M3 400 7 (nI 8), ?_, ?_, ?_, ?_, ?_, ?_⟩
    · have hs : nI c - nI 1 = nI 7 := by rw [h8]; decide
      simp only [s318_0, s318_1, s318_4, s318_6, s318_9, s318_10i, s318_10r, s318_10n, k1, hc, e8, List.length_cons, List.length_nil, Nat.zero_le, Nat.reduceAdd, Nat.reduceLeDiff, Option.bind_some, qx_kn_v, qx_kn_n, Nat.add_zero, Bool.false_eq_true, ↓reduceIte]
      rw [h1]
      simp only [s318_40, s318_41r, s318_41i, s318_42, s318_45, s318_46, s318_47, s318_50, s318_51, s318_54, s318_55, s318_56, s318_59, s318_60, s318_63, s318_66, s318_67, s318_70, s318_71r, s318_71i, s318_72, s318_75, s318_76, s318_77, s318_80, k1, k2, b1, c1, hc, hs, e7, pk_mul, Nat.reduceMul, g3, e37, nI_add, List.length_cons, List.length_nil, Nat.zero_le, Nat.reduceAdd, Nat.reduceLeDiff, Option.bind_some, qx_kn_v, qx_kn_n, Nat.add_zero, Bool.false_eq_true, ↓reduceIte]
    · rw [qx_up_at, if_pos ⟨rfl, rfl⟩]
    · intro k hk
      rw [qx_up_at, if_neg (by omega), f3.1 _ (by decide), qx_up_at, if_neg (by omega), c1]
    · intro k hk
      rw [f4.1 _ (by decide), show 335 * 7 + k = 2345 + k by omega, w3 k hk, Nat.zero_add, f2.1 _ (by omega), c2]
    · intro j k hj hk
      rw [f4.1 _ (by decide), v3 _ (by omega), qx_up_at, if_neg (by omega), w1 _ (by omega), if_pos h8, show 335 * j + k + 335 = 335 * (j + 1) + k by omega]
    · exact qf_trans f1 (qf_trans f2 (qf_trans (qf_mono f3 (fun a ha => Or.inr ha)) (qf_mono f4 (fun a ha => Or.inl ha))))
  · rw [if_neg h8, if_neg h8]
    have e8 : (nI c = nI 8) = False := by
      rw [qi_eq (by omega) (by decide)]
      exact eq_false h8
    obtain ⟨M3, g3, w3, v3, f3⟩ := g182 (L := L) (xs := xs) (d := d) (x := 0) (i := 0) (j := c * 335) (M := M) k2 k3 b1 b2 (by decide) (by omega) (by decide) (by decide) (by decide)
    have e37 : M3.1 400 7 = nI c := by rw [f3.1 _ (by decide), hc]
    have f4 : qf (fun a => a = 400) M3 (qx_up M3 400 7 (nI (c + 1))) := qf_up _ _ _ _ rfl
    refine ⟨qx_up M3 400 7 (nI (c + 1)), ?_, ?_, ?_, ?_, ?_, ?_⟩
    · simp only [s318_0, s318_1, s318_4, s318_6, s318_50, s318_51, s318_54, s318_55, s318_56, s318_59, s318_60, s318_63, s318_66, s318_67, s318_70, s318_71r, s318_71i, s318_72, s318_75, s318_76, s318_77, s318_80, k1, k2, b1, hc, e8, pk_mul, g3, e37, nI_add, List.length_cons, List.length_nil, Nat.zero_le, Nat.reduceAdd, Nat.reduceLeDiff, Option.bind_some, qx_kn_v, qx_kn_n, Nat.add_zero, Bool.false_eq_true, ↓reduceIte]
    · rw [qx_up_at, if_pos ⟨rfl, rfl⟩]
    · intro k hk
      rw [qx_up_at, if_neg (by omega), f3.1 _ (by decide)]
    · intro k hk
      rw [f4.1 _ (by decide), Nat.mul_comm, w3 k hk, Nat.zero_add]
    · intro j k hj hk
      rw [f4.1 _ (by decide), v3 _ (by omega), if_neg h8]
    · exact qf_trans (qf_mono f3 (fun a ha => Or.inr ha)) (qf_mono f4 (fun a ha => Or.inl ha))
/-- the class keeps a state -/
theorem a166 {M : qxM} {c E : Nat} {G : qGs} (hE : M.1 10 7 = nI E) (hE8 : E < 8) (hc : M.1 10 8 = nI c) (hc8 : c ≤ 8) (h : cT 100 M G) (he : G.2.2.2.2.2.1.2.2.2.1 ≤ 14) :
    ∃ M', Rs L xs (d + 4) 166 0 [some (.ref (10))] [] (M) x = some (.inl (none), M', x) ∧ M'.1 10 7 = nI (if E = 7 then 0 else E + 1) ∧ M'.1 10 8 = nI (if c = 8 then 8 else c + 1) ∧ (∀ k, k ≠ 7 → k ≠ 8 → M'.1 10 k = M.1 10 k) ∧ cT (140 + 20 * E) M' G ∧ qf (fun a => a = 10 ∨ qTf (140 + 20 * E) a) M M' := by
  obtain ⟨M1, g1, w1, f1⟩ := g74 (L := L) (xs := xs) (d := d) (x := 0) (s := 140 + 20 * E) (o := 100) (G := G) (qx_Te hE8) qx_T100 (by omega) h he
  have h10 : M1.1 10 = M.1 10 := f1.1 10 (by unfold qTf; omega)
  have hT := qx_Te hE8
  have f2 : qf (fun a => a = 10) M1 (qx_up (qx_up M1 10 7 (nI (if E = 7 then 0 else E + 1))) 10 8 (nI (if c = 8 then 8 else c + 1))) := qf_trans (qf_up _ _ _ _ rfl) (qf_up _ _ _ _ rfl)
  have w2 : cT (140 + 20 * E) (qx_up (qx_up M1 10 7 (nI (if E = 7 then 0 else E + 1))) 10 8 (nI (if c = 8 then 8 else c + 1))) G := by
    obtain ⟨a1, a2, a3⟩ := w1
    refine ⟨qPu_step (t := 0) a1 f2 (qMt_fr a1.2.2.2.2 f2 (by omega)) (by omega) (by omega), ?_, qS_fr a3 f2 (by omega)⟩
    rw [f2.1 _ (by omega)]
    exact a2
  refine ⟨_, ?_, ?_, ?_, ?_, w2, qf_trans (qf_mono f1 (fun a ha => Or.inr ha)) (qf_mono f2 (fun a ha => Or.inl ha))⟩
  · have x8 : ∀ v, (qx_up M1 10 7 v).1 10 8 = nI c := fun v => by rw [qx_up_at, if_neg (by omega), h10, hc]
    have hmin : (if nI 8 < nI (c + 1) then nI 8 else nI (c + 1)) = nI (if c = 8 then 8 else c + 1) := by
      by_cases z : c = 8
      · rw [if_pos z, if_pos (nI_lt (by omega) (by omega))]
      · rw [if_neg z, if_neg (nI_nlt (by omega) (by omega))]
    by_cases z : E = 7
    · have h1 : (nI 8 ≤ nI (E + 1)) = True := eq_true (nI_le (by omega) (by omega))
      rw [if_pos z]
      simp only [s166_0, s166_1, s166_2, s166_5, s166_6, s166_9, s166_12, s166_13, s166_16, s166_19, s166_20, s166_21, s166_24, s166_25, s166_26, s166_28, s166_31, s166_32, s166_35, s166_36, s166_37, s166_40, s166_41, s166_44, s166_45, s166_46, s166_49, s166_50, s166_51, s166_53, s166_56, s166_59, qx_m10, qx_T100.1, hT.1, hE, a167e hE8, g1, h10, nI_add, h1, x8, hmin, List.length_cons, List.length_nil, Nat.zero_le, Nat.reduceAdd, Nat.reduceLeDiff, Option.bind_some, qx_kn_v, qx_kn_n, Nat.add_zero, Bool.false_eq_true, ↓reduceIte]
    · have h1 : ¬ nI 8 ≤ nI (E + 1) := nI_ge (by omega) (by decide)
      rw [if_neg z]
      simp only [s166_0, s166_1, s166_2, s166_5, s166_6, s166_9, s166_12, s166_13, s166_16, s166_19, s166_20, s166_21, s166_24, s166_25, s166_26, s166_28, s166_31, s166_32, s166_35, s166_36, s166_37, s166_40, s166_41, s166_44, s166_45, s166_46, s166_49, s166_50, s166_51, s166_53, s166_56, s166_59, qx_m10, qx_T100.1, hT.1, hE, a167e hE8, g1, h10, nI_add, h1, x8, hmin, List.length_cons, List.length_nil, Nat.zero_le, Nat.reduceAdd, Nat.reduceLeDiff, Option.bind_some, qx_kn_v, qx_kn_n, Nat.add_zero, Bool.false_eq_true, ↓reduceIte]
  · simp [qx_up_at]
  · simp [qx_up_at]
  · intro k h7 h8
    rw [qx_up_at, if_neg (by omega), qx_up_at, if_neg (by omega), h10]
end QL
