/-! Words and numbers of a text. -/
theorem qx_w : ∀ k, k < 6 → 1 ≤ k → (qx_txc k).length ≤ 8 ∧ qx_txc (20 + k) = qx_txc k := by decide +kernel
def wdk (B : Nat → Int32) (s : Nat) (l : List Nat) : Nat → Nat → Bool
  | 0, _ => true
  | j + 1, i => decide (B (s + i) = nI (l.getD i 0)) && wdk B s l j (i + 1)
def isW (B : Nat → Int32) (N s : Nat) (l : List Nat) : Bool := decide (tkK B N s = 1) && (decide (tkE B N s = s + l.length) && wdk B s l l.length 0)
theorem tkK_le (B : Nat → Int32) (N s : Nat) : tkK B N s ≤ 4 := by
  unfold tkK
  repeat' split
  all_goals omega
theorem mkd_le (k : Nat) : mkd k ≤ 4 := by
  unfold mkd
  repeat' split
  all_goals omega
theorem mkd_2 : ∀ k, k ≤ 4 → (mkd k = 2) = (k = 1) := by decide
theorem mkd_3 : ∀ k, k ≤ 4 → (mkd k = 3) = (k = 2) := by decide
theorem mkd_4 : ∀ k, k ≤ 4 → (mkd k = 4) = (k = 3) := by decide
theorem mkd_1 : ∀ k, k ≤ 4 → (mkd k = 1) = (k = 4) := by decide
def qft (W : qxM) (c s : Nat) : qxM := qx_up (qx_up W 400 10 (nI c)) 400 11 (nI s)
section QL
variable {L : Nat} {xs : Nat → Int32} {B : Nat → Int32} {N : Nat}
theorem m31l {d k s e : Nat} {M : qxM} (hN : N ≤ 500) (hk : 1 ≤ k ∧ k ≤ 5 ∨ 21 ≤ k ∧ k < 26) (hl : (qx_txc k).length ≤ 8) (hs : s + (qx_txc k).length ≤ N) (h8 : M.1 20 8 = nI s) (hP : cPo M B N e) : ∀ (j i x : Nat), i + j = (qx_txc k).length → Rs L xs (d + 1) 31 28 [some (.ref (20)), some (.ref (500 + k)), some (.int (nI i))] [] (M) x = some (.inl (some (.int (bI (wdk B s (qx_txc k) j i)))), M, x) := by
  obtain ⟨k1, k2, k3, k4, k5⟩ := qx_m20
  intro j
  induction j with
  | zero =>
    intro i x hi
    have h1 : (nI (qx_txc k).length ≤ nI i) = True := eq_true (nI_le (by omega) (by omega))
    simp only [s31_28, s31_29, s31_30, s31_33, s31_62, s31_63, hk, h1, qx_z1, wdk, List.length_cons, List.length_nil, Nat.zero_le, Nat.reduceAdd, Nat.reduceLeDiff, Option.bind_some, qx_kn_v, qx_kn_n, Nat.add_zero, Bool.false_eq_true, ↓reduceIte]
    rfl
  | succ j ih =>
    intro i x hi
    have h1 : ¬ nI (qx_txc k).length ≤ nI i := nI_ge (by omega) (by omega)
    have h33 := m33 (L := L) (xs := xs) (d := d) (x := 0) (i := s + i) (M := M) (by omega)
    rw [hP.2.2 (s + i) (by omega)] at h33
    have h3 : qx_ib (nI i) (qx_txc k).length = true := qx_ib_of (by omega) (by omega)
    have h4 : (nI i).toNatClampNeg = i := nI_clamp (by omega)
    unfold wdk
    by_cases z : B (s + i) = nI ((qx_txc k).getD i 0)
    · have hz : (B (s + i) = nI ((qx_txc k).getD i 0)) = True := eq_true z
      rw [decide_eq_true z, Bool.true_and]
      simp only [s31_28, s31_29, s31_30, s31_33, s31_36, s31_37, s31_38, s31_41, s31_42, s31_43, s31_46, s31_47, s31_48, s31_51, s31_54, s31_55, s31_56i, s31_56r, s31_56n, k1, hk, h1, h8, nI_add, h33, h3, h4, hz, List.length_cons, List.length_nil, Nat.zero_le, Nat.reduceAdd, Nat.reduceLeDiff, Option.bind_some, qx_kn_v, qx_kn_n, Nat.add_zero, Bool.false_eq_true, ↓reduceIte]
      rw [s31_59]
      exact ih (i + 1) x (by omega)
    · rw [decide_eq_false z, Bool.false_and]
      simp only [s31_28, s31_29, s31_30, s31_33, s31_36, s31_37, s31_38, s31_41, s31_42, s31_43, s31_46, s31_47, s31_48, s31_51, s31_54, s31_55, k1, hk, h1, h8, nI_add, h33, h3, h4, z, qx_z0, List.length_cons, List.length_nil, Nat.zero_le, Nat.reduceAdd, Nat.reduceLeDiff, Option.bind_some, qx_kn_v, qx_kn_n, Nat.add_zero, Bool.false_eq_true, ↓reduceIte]
      rfl
theorem m31 {d x k s : Nat} {M : qxM} (hN : N ≤ 500) (hk : 1 ≤ k ∧ k ≤ 5 ∨ 21 ≤ k ∧ k < 26) (hl : (qx_txc k).length ≤ 8) (hs : s ≤ N) (hT : cTk M B N s) : Rs L xs (d + 1) 31 0 [some (.ref (20)), some (.ref (500 + k)), none] [] (M) x = some (.inl (some (.int (bI (isW B N s (qx_txc k))))), M, x) := by
  obtain ⟨k1, k2, k3, k4, k5⟩ := qx_m20
  obtain ⟨t1, t2, t3, t4⟩ := hT
  have hK := tkK_le B N s
  have hE := tkE_le (B := B) hs
  unfold isW
  by_cases h7 : tkK B N s = 1
  · have z7 : (nI (tkK B N s) = nI 1) = True := eq_true (by rw [h7])
    have hsub : nI (tkE B N s) - nI s = nI (tkE B N s - s) := pk_sub (by omega)
    rw [decide_eq_true h7, Bool.true_and]
    by_cases hEl : tkE B N s = s + (qx_txc k).length
    · have z8 : (nI (tkE B N s - s) = nI (qx_txc k).length) = True := eq_true (by rw [hEl, Nat.add_sub_cancel_left])
      have g := m31l (L := L) (xs := xs) (d := d) hN hk hl (by omega) t3 t1 (qx_txc k).length 0 x (by omega)
      rw [decide_eq_true hEl, Bool.true_and]
      simp only [s31_0, s31_1, s31_4, s31_5, s31_8, s31_9, s31_12, s31_13, s31_16, s31_17, s31_18, s31_21, s31_26, s31_27i, s31_27r, s31_27n, k1, hk, t2, t3, t1.2.1, hsub, z7, z8, List.length_cons, List.length_nil, Nat.zero_le, Nat.reduceAdd, Nat.reduceLeDiff, Option.bind_some, qx_kn_v, qx_kn_n, Nat.add_zero, Bool.false_eq_true, ↓reduceIte]
      exact g
    · have z8 : (nI (tkE B N s - s) = nI (qx_txc k).length) = False := by rw [qi_eq (by omega) (by omega)]; exact eq_false (by omega)
      rw [decide_eq_false hEl, Bool.false_and]
      simp only [s31_0, s31_1, s31_4, s31_5, s31_8, s31_9, s31_12, s31_13, s31_16, s31_17, s31_18, s31_21, s31_24, s31_25, k1, hk, t2, t3, t1.2.1, hsub, z7, z8, qx_z0, List.length_cons, List.length_nil, Nat.zero_le, Nat.reduceAdd, Nat.reduceLeDiff, Option.bind_some, qx_kn_v, qx_kn_n, Nat.add_zero, Bool.false_eq_true, ↓reduceIte]
      rfl
  · have z7 : (nI (tkK B N s) = nI 1) = False := by rw [qi_eq (by omega) (by omega)]; exact eq_false h7
    rw [decide_eq_false h7, Bool.false_and]
    simp only [s31_0, s31_1, s31_4, s31_5, s31_8, s31_9, s31_12, s31_13, s31_16, s31_17, s31_18, s31_21, s31_24, s31_25, k1, t2, z7, qx_z0, List.length_cons, List.length_nil, Nat.zero_le, Nat.reduceAdd, Nat.reduceLeDiff, Option.bind_some, qx_kn_v, qx_kn_n, Nat.add_zero, Bool.false_eq_true, ↓reduceIte]
    rfl
theorem m194 {d x i j : Nat} {M : qxM} (h10 : M.1 400 10 = nI 0) (h15 : M.1 400 15 = nI i) (hi : i < 10) (hj : j < 10) : Rs L xs (d) 194 0 [some (.ref (400)), some (.int (nI j))] [] (M) x = some (.inl (some (.int (bI (decide (i = j))))), M, x) := by
  have k1 := qx_m400.1
  by_cases z : i = j
  · have hz : (nI i = nI j) = True := eq_true (by rw [z])
    rw [decide_eq_true z]
    simp only [s194_0, s194_1, s194_4, s194_7, s194_8, s194_11, s194_12, s194_15, s194_16, s194_19, s194_20, k1, h10, h15, hz, qi_z0, qx_z1, List.length_cons, List.length_nil, Nat.zero_le, Nat.reduceAdd, Nat.reduceLeDiff, Option.bind_some, qx_kn_v, qx_kn_n, Nat.add_zero, Bool.false_eq_true, ↓reduceIte]
    rfl
  · have hz : (nI i = nI j) = False := by rw [qi_eq (by omega) (by omega)]; exact eq_false z
    rw [decide_eq_false z]
    simp only [s194_0, s194_1, s194_4, s194_7, s194_8, s194_11, s194_12, s194_15, s194_16, s194_19, s194_20, k1, h10, h15, hz, qi_z0, true_or, List.length_cons, List.length_nil, Nat.zero_le, Nat.reduceAdd, Nat.reduceLeDiff, Option.bind_some, qx_kn_v, qx_kn_n, Nat.add_zero, Bool.false_eq_true, ↓reduceIte]
    rfl
theorem m194e {d x c j : Nat} {M : qxM} (hc : 0 < c) (hc9 : c < 9) (h10 : M.1 400 10 = nI c) : Rs L xs (d) 194 0 [some (.ref (400)), some (.int (nI j))] [] (M) x = some (.inl (some (.int (bI false))), M, x) := by
  have k1 := qx_m400.1
  have hz : (nI c = 0) = False := by
    have := qi_eq (a := c) (b := 0) (by omega) (by decide)
    exact this.trans (eq_false (by omega))
  simp only [s194_0, s194_1, s194_4, s194_7, s194_8, s194_11, s194_12, s194_15, s194_16, s194_19, s194_20, k1, h10, hz, qx_z0, List.length_cons, List.length_nil, Nat.zero_le, Nat.reduceAdd, Nat.reduceLeDiff, Option.bind_some, qx_kn_v, qx_kn_n, Nat.add_zero, Bool.false_eq_true, ↓reduceIte]
  rfl
theorem m193 {d x c s : Nat} {M : qxM} (h10 : M.1 400 10 = nI 0) (h14 : M.1 400 14 = nI s) : Rs L xs (d) 193 0 [some (.ref (400)), some (.int (nI c))] [] (M) x = some (.inl (none), qft M c s, x) := by
  have k1 := qx_m400.1
  have t : (nI 0 ≤ 0) = True := by decide
  have h2 : ∀ v, (qx_up M 400 10 v).1 400 14 = nI s := fun v => by rw [qx_up_at, if_neg (by omega), h14]
  simp only [s193_0, s193_1, s193_4, s193_7, s193_8, s193_9, s193_10, s193_13, s193_14, s193_15, s193_18, s193_21, k1, h10, h2, t, List.length_cons, List.length_nil, Nat.zero_le, Nat.reduceAdd, Nat.reduceLeDiff, Option.bind_some, qx_kn_v, qx_kn_n, Nat.add_zero, Bool.false_eq_true, ↓reduceIte]
  rfl
theorem m193e {d x c j : Nat} {M : qxM} (hc : 0 < c) (hc9 : c < 9) (h10 : M.1 400 10 = nI c) : Rs L xs (d) 193 0 [some (.ref (400)), some (.int (nI j))] [] (M) x = some (.inl (none), M, x) := by
  have k1 := qx_m400.1
  have t : (nI c ≤ 0) = False := eq_false (nI_nle (by omega) (by omega))
  simp only [s193_0, s193_1, s193_4, s193_7, k1, h10, t, List.length_cons, List.length_nil, Nat.zero_le, Nat.reduceAdd, Nat.reduceLeDiff, Option.bind_some, qx_kn_v, qx_kn_n, Nat.add_zero, Bool.false_eq_true, ↓reduceIte]
theorem m195l {d k s e : Nat} {M : qxM} (hN : N ≤ 500) (hk : 1 ≤ k ∧ k ≤ 5 ∨ 21 ≤ k ∧ k < 26) (hl : (qx_txc k).length ≤ 8) (hs : s + (qx_txc k).length ≤ N) (h14 : M.1 400 14 = nI s) (hP : nPo M B N e) : ∀ (j i x : Nat), i + j = (qx_txc k).length → Rs L xs (d + 1) 195 28 [some (.ref (400)), some (.ref (500 + k)), some (.int (nI i))] [] (M) x = some (.inl (some (.int (bI (wdk B s (qx_txc k) j i)))), M, x) := by
  obtain ⟨k1, _, _⟩ := qx_m400
  obtain ⟨_, _, _, k4, k5⟩ := qx_m20
  intro j
  induction j with
  | zero =>
    intro i x hi
    have h1 : (nI (qx_txc k).length ≤ nI i) = True := eq_true (nI_le (by omega) (by omega))
    simp only [s195_28, s195_29, s195_30, s195_33, s195_63, s195_64, hk, h1, qx_z1, wdk, List.length_cons, List.length_nil, Nat.zero_le, Nat.reduceAdd, Nat.reduceLeDiff, Option.bind_some, qx_kn_v, qx_kn_n, Nat.add_zero, Bool.false_eq_true, ↓reduceIte]
    rfl
  | succ j ih =>
    intro i x hi
    have h1 : ¬ nI (qx_txc k).length ≤ nI i := nI_ge (by omega) (by omega)
    have hb := hP.2.2 (s + i) (by omega)
    have g3 : qx_ib (nI (s + i)) 500 = true := qx_ib_of (by omega) (by decide)
    have g4 : (nI (s + i)).toNatClampNeg = s + i := nI_clamp (by omega)
    have h3 : qx_ib (nI i) (qx_txc k).length = true := qx_ib_of (by omega) (by omega)
    have h4 : (nI i).toNatClampNeg = i := nI_clamp (by omega)
    unfold wdk
    by_cases z : B (s + i) = nI ((qx_txc k).getD i 0)
    · have hz : (B (s + i) = nI ((qx_txc k).getD i 0)) = True := eq_true z
      rw [decide_eq_true z, Bool.true_and]
      simp only [s195_28, s195_29, s195_30, s195_33, s195_36, s195_37, s195_40, s195_41, s195_44, s195_45, s195_46, s195_46z, s195_47, s195_48, s195_49, s195_52, s195_55, s195_56, s195_57i, s195_57r, s195_57n, k1, k4, k5, hk, h1, h14, nI_add, g3, g4, hb, h3, h4, hz, List.length_cons, List.length_nil, Nat.zero_le, Nat.reduceAdd, Nat.reduceLeDiff, Option.bind_some, qx_kn_v, qx_kn_n, Nat.add_zero, Bool.false_eq_true, ↓reduceIte]
      rw [s195_60]
      exact ih (i + 1) x (by omega)
    · rw [decide_eq_false z, Bool.false_and]
      simp only [s195_28, s195_29, s195_30, s195_33, s195_36, s195_37, s195_40, s195_41, s195_44, s195_45, s195_46, s195_46z, s195_47, s195_48, s195_49, s195_52, s195_55, s195_56, k1, k4, k5, hk, h1, h14, nI_add, g3, g4, hb, h3, h4, z, qx_z0, List.length_cons, List.length_nil, Nat.zero_le, Nat.reduceAdd, Nat.reduceLeDiff, Option.bind_some, qx_kn_v, qx_kn_n, Nat.add_zero, Bool.false_eq_true, ↓reduceIte]
      rfl
theorem m195 {d x k s : Nat} {M : qxM} (hN : N ≤ 500) (hk : 1 ≤ k ∧ k ≤ 5 ∨ 21 ≤ k ∧ k < 26) (hl : (qx_txc k).length ≤ 8) (hs : s ≤ N) (h10 : M.1 400 10 = nI 0) (hT : nTk M B N s) : Rs L xs (d + 1) 195 0 [some (.ref (400)), some (.ref (500 + k)), none] [] (M) x = some (.inl (some (.int (bI (isW B N s (qx_txc k))))), M, x) := by
  obtain ⟨k1, _, _⟩ := qx_m400
  obtain ⟨_, _, _, k4, k5⟩ := qx_m20
  obtain ⟨t1, t2, t3, t4⟩ := hT
  have hK := tkK_le B N s
  have hm := mkd_le (tkK B N s)
  have hE := tkE_le (B := B) hs
  have g194 := m194 (L := L) (xs := xs) (d := d) (x := 0) (j := 2) h10 t2 (by omega) (by decide)
  rw [decide_eq_decide.mpr (show mkd (tkK B N s) = 2 ↔ tkK B N s = 1 by rw [mkd_2 _ hK])] at g194
  unfold isW
  by_cases h7 : tkK B N s = 1
  · rw [decide_eq_true h7] at g194
    have hsub : nI (tkE B N s) - nI s = nI (tkE B N s - s) := pk_sub (by omega)
    rw [decide_eq_true h7, Bool.true_and]
    by_cases hEl : tkE B N s = s + (qx_txc k).length
    · have z8 : (nI (tkE B N s - s) = nI (qx_txc k).length) = True := eq_true (by rw [hEl, Nat.add_sub_cancel_left])
      have g := m195l (L := L) (xs := xs) (d := d) hN hk hl (by omega) t3 t1 (qx_txc k).length 0 x (by omega)
      rw [decide_eq_true hEl, Bool.true_and]
      simp only [s195_0, s195_1, s195_2, s195_5, s195_8, s195_9, s195_12, s195_13, s195_16, s195_17, s195_18, s195_21, s195_26, s195_27i, s195_27r, s195_27n, k1, hk, g194, qbt, t3, t1.2.1, hsub, z8, List.length_cons, List.length_nil, Nat.zero_le, Nat.reduceAdd, Nat.reduceLeDiff, Option.bind_some, qx_kn_v, qx_kn_n, Nat.add_zero, Bool.false_eq_true, ↓reduceIte]
      exact g
    · have z8 : (nI (tkE B N s - s) = nI (qx_txc k).length) = False := by rw [qi_eq (by omega) (by omega)]; exact eq_false (by omega)
      rw [decide_eq_false hEl, Bool.false_and]
      simp only [s195_0, s195_1, s195_2, s195_5, s195_8, s195_9, s195_12, s195_13, s195_16, s195_17, s195_18, s195_21, s195_24, s195_25, k1, hk, g194, qbt, t3, t1.2.1, hsub, z8, qx_z0, List.length_cons, List.length_nil, Nat.zero_le, Nat.reduceAdd, Nat.reduceLeDiff, Option.bind_some, qx_kn_v, qx_kn_n, Nat.add_zero, Bool.false_eq_true, ↓reduceIte]
      rfl
  · rw [decide_eq_false h7] at g194
    rw [decide_eq_false h7, Bool.false_and]
    simp only [s195_0, s195_1, s195_2, s195_5, s195_8, s195_9, s195_12, s195_13, s195_16, s195_17, s195_18, s195_21, s195_24, s195_25, k1, g194, qbf, qx_z0, List.length_cons, List.length_nil, Nat.zero_le, Nat.reduceAdd, Nat.reduceLeDiff, Option.bind_some, qx_kn_v, qx_kn_n, Nat.add_zero, Bool.false_eq_true, ↓reduceIte]
    rfl
/-- a number between two bounds: the class and the Model -/
theorem num {lo hi : Int32} {s : Nat} {M W : qxM} (hT : cTk M B N s) (hW : nTk W B N s) (h10 : W.1 400 10 = nI 0) :
    (∃ c, 0 < c ∧ c < 3 ∧ (tkK B N s ≠ 2 → c = 1) ∧ (∀ d x : Nat, Rs L xs (d) 27 0 [some (.ref (20)), some (.int (lo)), some (.int (hi))] [] (M) x = some (.inl (some (.int (nI c))), M, x)) ∧ ∀ d x : Nat, Rs L xs (d + 1) 196 0 [some (.ref (400)), some (.int (lo)), some (.int (hi))] [] (W) x = some (.inl (some (.int (lo))), qft W c s, x)) ∨
    (∃ z, ¬ z < lo ∧ ¬ hi < z ∧ tkK B N s = 2 ∧ M.1 20 9 = z ∧ (∀ d x : Nat, Rs L xs (d) 27 0 [some (.ref (20)), some (.int (lo)), some (.int (hi))] [] (M) x = some (.inl (some (.int (nI 0))), M, x)) ∧ ∀ d x : Nat, Rs L xs (d + 1) 196 0 [some (.ref (400)), some (.int (lo)), some (.int (hi))] [] (W) x = some (.inl (some (.int (z))), W, x)) := by
  have k1 := qx_m400.1
  have k0 := qx_m20.1
  obtain ⟨t1, t2, t3, t4⟩ := hT
  obtain ⟨w1, w2, w3, w4⟩ := hW
  have hK := tkK_le B N s
  have hm := mkd_le (tkK B N s)
  have g194 := fun d : Nat => m194 (L := L) (xs := xs) (d := d) (x := 0) (j := 3) h10 w2 (by omega) (by decide)
  simp only [mkd_3 _ hK] at g194
  have e10 : ∀ c, (qft W c s).1 400 10 = nI c := fun c => by unfold qft; rw [qx_up_at, if_neg (by omega), qx_up_eq]
  have p1 : (nI 1 ≤ 0) = False := by decide
  have p2 : (nI 2 ≤ 0) = False := by decide
  have p0 : (nI 0 ≤ 0) = True := by decide
  by_cases h7 : tkK B N s = 2
  · have z7 : (nI (tkK B N s) = nI 2) = True := eq_true (by rw [h7])
    simp only [decide_eq_true h7] at g194
    have hv := t4 h7
    have hv2 := w4 h7
    by_cases hr : ¬ tkV B N s < lo ∧ ¬ hi < tkV B N s
    · refine Or.inr ⟨tkV B N s, hr.1, hr.2, h7, hv, fun d x => ?_, fun d x => ?_⟩
      · have r2 : (tkV B N s ≤ hi) = True := eq_true (by rw [← i_nlt]; exact hr.2)
        simp only [s27_0, s27_1, s27_4, s27_5, s27_8, s27_9, s27_10, s27_11, s27_14, s27_15, s27_18, s27_19, s27_22, s27_23, s27_26, s27_27, s27_30, s27_31, k0, t2, z7, hv, hr.1, r2, List.length_cons, List.length_nil, Nat.zero_le, Nat.reduceAdd, Nat.reduceLeDiff, Option.bind_some, qx_kn_v, qx_kn_n, Nat.add_zero, Bool.false_eq_true, ↓reduceIte]
      · have h178 := a178 (L := L) (xs := xs) (d := d) (x := 0) (M := W) (tkV B N s) lo hi
        rw [decide_eq_true hr] at h178
        simp only [s196_0, s196_1, s196_2, s196_5, s196_8, s196_9, s196_10, s196_13, s196_16, s196_17, s196_20, s196_21, s196_22, s196_25, s196_28, s196_29, s196_30, s196_33, s196_34, s196_37, s196_40, s196_41, s196_44, s196_45, s196_48, k1, g194, qbt, hv2, h178, h10, p0, List.length_cons, List.length_nil, Nat.zero_le, Nat.reduceAdd, Nat.reduceLeDiff, Option.bind_some, qx_kn_v, qx_kn_n, Nat.add_zero, Bool.false_eq_true, ↓reduceIte]
    · refine Or.inl ⟨2, by decide, by decide, fun w => absurd h7 w, fun d x => ?_, fun d x => ?_⟩
      · by_cases hr1 : tkV B N s < lo
        · simp only [s27_0, s27_1, s27_4, s27_5, s27_8, s27_9, s27_10, s27_11, s27_14, s27_15, s27_18, s27_19, s27_22, s27_23, s27_26, s27_27, s27_30, s27_31, k0, t2, z7, hv, hr1, List.length_cons, List.length_nil, Nat.zero_le, Nat.reduceAdd, Nat.reduceLeDiff, Option.bind_some, qx_kn_v, qx_kn_n, Nat.add_zero, Bool.false_eq_true, ↓reduceIte]
        · have r2 : (tkV B N s ≤ hi) = False := eq_false (by rw [i_nle]; exact Decidable.by_contra fun w => hr ⟨hr1, w⟩)
          simp only [s27_0, s27_1, s27_4, s27_5, s27_8, s27_9, s27_10, s27_11, s27_14, s27_15, s27_18, s27_19, s27_22, s27_23, s27_26, s27_27, s27_30, s27_31, k0, t2, z7, hv, hr1, r2, List.length_cons, List.length_nil, Nat.zero_le, Nat.reduceAdd, Nat.reduceLeDiff, Option.bind_some, qx_kn_v, qx_kn_n, Nat.add_zero, Bool.false_eq_true, ↓reduceIte]
      · have h178 := a178 (L := L) (xs := xs) (d := d) (x := 0) (M := W) (tkV B N s) lo hi
        rw [decide_eq_false hr] at h178
        have h193 := m193 (L := L) (xs := xs) (d := d) (x := 0) (c := 2) (s := s) h10 w3
        simp only [s196_0, s196_1, s196_2, s196_5, s196_8, s196_9, s196_10, s196_13, s196_16, s196_17, s196_20, s196_21, s196_22, s196_25, s196_28, s196_29, s196_30, s196_33, s196_34, s196_37, s196_40, s196_41, s196_44, s196_45, s196_48, k1, g194, qbt, qbf, hv2, h178, h193, e10, p2, List.length_cons, List.length_nil, Nat.zero_le, Nat.reduceAdd, Nat.reduceLeDiff, Option.bind_some, qx_kn_v, qx_kn_n, Nat.add_zero, Bool.false_eq_true, ↓reduceIte]
  · have z7 : (nI (tkK B N s) = nI 2) = False := by rw [qi_eq (by omega) (by omega)]; exact eq_false h7
    simp only [decide_eq_false h7] at g194
    refine Or.inl ⟨1, by decide, by decide, fun _ => rfl, fun d x => ?_, fun d x => ?_⟩
    · simp only [s27_0, s27_1, s27_4, s27_5, s27_8, s27_9, s27_10, s27_11, s27_14, s27_15, s27_18, s27_19, s27_22, s27_23, s27_26, s27_27, s27_30, s27_31, k0, t2, z7, List.length_cons, List.length_nil, Nat.zero_le, Nat.reduceAdd, Nat.reduceLeDiff, Option.bind_some, qx_kn_v, qx_kn_n, Nat.add_zero, Bool.false_eq_true, ↓reduceIte]
    · have h193 := m193 (L := L) (xs := xs) (d := d) (x := 0) (c := 1) (s := s) h10 w3
      simp only [s196_0, s196_1, s196_2, s196_5, s196_8, s196_9, s196_10, s196_13, s196_16, s196_17, s196_20, s196_21, s196_22, s196_25, s196_28, s196_29, s196_30, s196_33, s196_34, s196_37, s196_40, s196_41, s196_44, s196_45, s196_48, k1, g194, qbf, h193, e10, p1, List.length_cons, List.length_nil, Nat.zero_le, Nat.reduceAdd, Nat.reduceLeDiff, Option.bind_some, qx_kn_v, qx_kn_n, Nat.add_zero, Bool.false_eq_true, ↓reduceIte]
/-- behind a fault a number is its low bound -/
theorem m196e {d x c : Nat} {lo hi : Int32} {W : qxM} (hc : 0 < c) (hc9 : c < 9) (h10 : W.1 400 10 = nI c) : Rs L xs (d + 1) 196 0 [some (.ref (400)), some (.int (lo)), some (.int (hi))] [] (W) x = some (.inl (some (.int (lo))), W, x) := by
  have k1 := qx_m400.1
  have t : (nI c ≤ 0) = False := eq_false (nI_nle (by omega) (by omega))
  simp only [s196_0, s196_1, s196_2, s196_5, s196_8, s196_9, s196_10, s196_13, s196_16, s196_17, s196_20, s196_21, s196_22, s196_25, s196_28, s196_29, s196_30, s196_33, s196_34, s196_37, s196_40, s196_41, s196_44, s196_45, s196_48, k1, m194e hc hc9 h10, m193e hc hc9 h10, qbf, h10, t, List.length_cons, List.length_nil, Nat.zero_le, Nat.reduceAdd, Nat.reduceLeDiff, Option.bind_some, qx_kn_v, qx_kn_n, Nat.add_zero, Bool.false_eq_true, ↓reduceIte]
end QL
