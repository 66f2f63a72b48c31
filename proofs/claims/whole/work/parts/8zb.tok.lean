/-! Tokens: the Model reads one. -/
def nPo (M : qxM) (B : Nat → Int32) (N p : Nat) : Prop := M.1 400 12 = nI N ∧ M.1 400 13 = nI p ∧ ∀ i, i < N → M.1 406 i = B i
def q4 (R : Nat → Prop) (M M1 : qxM) : Prop := (∀ j, ¬ R j → M1.1 400 j = M.1 400 j) ∧ qf (fun a => a = 400) M M1
theorem q4_trans {R : Nat → Prop} {M M1 M2 : qxM} (h : q4 R M M1) (g : q4 R M1 M2) : q4 R M M2 := ⟨fun j hj => by rw [g.1 j hj, h.1 j hj], qf_trans h.2 g.2⟩
theorem q4_refl (R : Nat → Prop) (M : qxM) : q4 R M M := ⟨fun _ _ => rfl, qf_refl _ _⟩
theorem q4_up {R : Nat → Prop} (M : qxM) (k : Nat) (v : Int32) (h : R k) : q4 R M (qx_up M 400 k v) := ⟨fun j hj => by rw [qx_up_at, if_neg (fun (w : 400 = 400 ∧ j = k) => hj (by rw [w.2]; exact h))], qf_up _ _ _ _ rfl⟩
theorem q4_mono {R Q : Nat → Prop} {M M1 : qxM} (h : q4 R M M1) (hq : ∀ j, R j → Q j) : q4 Q M M1 := ⟨fun j hj => h.1 j (fun z => hj (hq j z)), h.2⟩
theorem nPo_fr {M M1 : qxM} {B : Nat → Int32} {N p : Nat} {R : Nat → Prop} (h : nPo M B N p) (hf : q4 R M M1) (h5 : ¬ R 12) (h6 : ¬ R 13) : nPo M1 B N p := ⟨by rw [hf.1 12 h5, h.1], by rw [hf.1 13 h6, h.2.1], fun i hi => by rw [hf.2.1 406 (by decide), h.2.2 i hi]⟩
theorem nPo_up {M M1 : qxM} {B : Nat → Int32} {N p p1 : Nat} {R : Nat → Prop} (h : nPo M B N p) (hf : q4 R M M1) (h5 : ¬ R 12) (h6 : M1.1 400 13 = nI p1) : nPo M1 B N p1 := ⟨by rw [hf.1 12 h5, h.1], h6, fun i hi => by rw [hf.2.1 406 (by decide), h.2.2 i hi]⟩
def qnF (j : Nat) : Prop := 13 ≤ j ∧ j ≤ 16
theorem vlk_end (B : Nat → Int32) : ∀ (k : Nat) (z : Int32) (i : Nat), vlk B (k + 1) z i = nI 10 * vlk B k z i + B (i + k) - nI 48
  | 0, z, i => rfl
  | k + 1, z, i => by
    show vlk B (k + 1) (nI 10 * z + B i - nI 48) (i + 1) = _
    rw [vlk_end B k]
    show nI 10 * vlk B k (nI 10 * z + B i - nI 48) (i + 1) + B (i + 1 + k) - nI 48 = nI 10 * vlk B k (nI 10 * z + B i - nI 48) (i + 1) + B (i + (k + 1)) - nI 48
    rw [show i + 1 + k = i + (k + 1) by omega]
section QL
variable {L : Nat} {xs : Nat → Int32} {B : Nat → Int32} {N : Nat}
theorem m190 {d x p : Nat} {M : qxM} (hN : N ≤ 500) (hP : nPo M B N p) (hp : p ≤ N) : Rs L xs (d + 1) 190 0 [some (.ref (400)), some (.int (nI p))] [] (M) x = some (.inl (some (.int (bI (decide (p < N) && isLt (B p))))), M, x) := by
  obtain ⟨k1, _, _⟩ := qx_m400
  obtain ⟨_, _, _, k4, k5⟩ := qx_m20
  by_cases z : p < N
  · have h1 : ¬ nI N ≤ nI p := nI_ge z (by omega)
    have h3 : qx_ib (nI p) 500 = true := qx_ib_of (by omega) (by decide)
    have h4 : (nI p).toNatClampNeg = p := nI_clamp (by omega)
    have h178 : Rs L xs d 178 0 [some (.int (B p)), some (.int (nI 97)), some (.int (nI 122))] [] M 0 = some (.inl (some (.int (bI (isLt (B p))))), M, 0) := a178 (B p) (nI 97) (nI 122)
    rw [decide_eq_true z, Bool.true_and]
    cases y : isLt (B p)
    · rw [y] at h178
      simp only [s190_0, s190_1, s190_2, s190_5, s190_8, s190_9, s190_12, s190_13, s190_13z, s190_14, s190_16, s190_18, s190_21, s190_24, s190_25, s190_28, s190_29, k1, k4, k5, hP.1, h1, h3, h4, hP.2.2 p z, h178, qbf, qx_z0, List.length_cons, List.length_nil, Nat.zero_le, Nat.reduceAdd, Nat.reduceLeDiff, Option.bind_some, qx_kn_v, qx_kn_n, Nat.add_zero, Bool.false_eq_true, ↓reduceIte]
      rfl
    · rw [y] at h178
      simp only [s190_0, s190_1, s190_2, s190_5, s190_8, s190_9, s190_12, s190_13, s190_13z, s190_14, s190_16, s190_18, s190_21, s190_24, s190_25, s190_28, s190_29, k1, k4, k5, hP.1, h1, h3, h4, hP.2.2 p z, h178, qbt, qx_z1, List.length_cons, List.length_nil, Nat.zero_le, Nat.reduceAdd, Nat.reduceLeDiff, Option.bind_some, qx_kn_v, qx_kn_n, Nat.add_zero, Bool.false_eq_true, ↓reduceIte]
      rfl
  · have h1 : (nI N ≤ nI p) = True := eq_true (nI_le (by omega) (by omega))
    rw [decide_eq_false z, Bool.false_and]
    simp only [s190_0, s190_1, s190_2, s190_5, s190_8, s190_9, s190_12, s190_13, s190_13z, s190_14, s190_16, s190_18, s190_21, s190_24, s190_25, s190_28, s190_29, k1, hP.1, h1, qx_z0, List.length_cons, List.length_nil, Nat.zero_le, Nat.reduceAdd, Nat.reduceLeDiff, Option.bind_some, qx_kn_v, qx_kn_n, Nat.add_zero, Bool.false_eq_true, ↓reduceIte]
    rfl
theorem m191 {d x p : Nat} {M : qxM} (hN : N ≤ 500) (hP : nPo M B N p) (hp : p ≤ N) : Rs L xs (d + 1) 191 0 [some (.ref (400)), some (.int (nI p))] [] (M) x = some (.inl (some (.int (bI (decide (p < N) && isDg (B p))))), M, x) := by
  obtain ⟨k1, _, _⟩ := qx_m400
  obtain ⟨_, _, _, k4, k5⟩ := qx_m20
  by_cases z : p < N
  · have h1 : ¬ nI N ≤ nI p := nI_ge z (by omega)
    have h3 : qx_ib (nI p) 500 = true := qx_ib_of (by omega) (by decide)
    have h4 : (nI p).toNatClampNeg = p := nI_clamp (by omega)
    have h178 : Rs L xs d 178 0 [some (.int (B p)), some (.int (nI 48)), some (.int (nI 57))] [] M 0 = some (.inl (some (.int (bI (isDg (B p))))), M, 0) := a178 (B p) (nI 48) (nI 57)
    rw [decide_eq_true z, Bool.true_and]
    cases y : isDg (B p)
    · rw [y] at h178
      simp only [s191_0, s191_1, s191_2, s191_5, s191_8, s191_9, s191_12, s191_13, s191_13z, s191_14, s191_16, s191_18, s191_21, s191_24, s191_25, s191_28, s191_29, k1, k4, k5, hP.1, h1, h3, h4, hP.2.2 p z, h178, qbf, qx_z0, List.length_cons, List.length_nil, Nat.zero_le, Nat.reduceAdd, Nat.reduceLeDiff, Option.bind_some, qx_kn_v, qx_kn_n, Nat.add_zero, Bool.false_eq_true, ↓reduceIte]
      rfl
    · rw [y] at h178
      simp only [s191_0, s191_1, s191_2, s191_5, s191_8, s191_9, s191_12, s191_13, s191_13z, s191_14, s191_16, s191_18, s191_21, s191_24, s191_25, s191_28, s191_29, k1, k4, k5, hP.1, h1, h3, h4, hP.2.2 p z, h178, qbt, qx_z1, List.length_cons, List.length_nil, Nat.zero_le, Nat.reduceAdd, Nat.reduceLeDiff, Option.bind_some, qx_kn_v, qx_kn_n, Nat.add_zero, Bool.false_eq_true, ↓reduceIte]
      rfl
  · have h1 : (nI N ≤ nI p) = True := eq_true (nI_le (by omega) (by omega))
    rw [decide_eq_false z, Bool.false_and]
    simp only [s191_0, s191_1, s191_2, s191_5, s191_8, s191_9, s191_12, s191_13, s191_13z, s191_14, s191_16, s191_18, s191_21, s191_24, s191_25, s191_28, s191_29, k1, hP.1, h1, qx_z0, List.length_cons, List.length_nil, Nat.zero_le, Nat.reduceAdd, Nat.reduceLeDiff, Option.bind_some, qx_kn_v, qx_kn_n, Nat.add_zero, Bool.false_eq_true, ↓reduceIte]
    rfl
theorem m192b {d : Nat} (hN : N ≤ 500) : ∀ (k p x : Nat) (M : qxM), p + k = N → nPo M B N p → ∃ M', Rs L xs d 192 8 [some (.ref 400)] [] M x = Rs L xs d 192 46 [some (.ref 400)] [] M' x ∧ nPo M' B N (rnk isBl B k p) ∧ q4 (fun j => j = 13) M M' := by
  obtain ⟨k1, _, _⟩ := qx_m400
  obtain ⟨_, _, _, k4, k5⟩ := qx_m20
  intro k
  induction k with
  | zero =>
    intro p x M hp hP
    have h1' : (nI N ≤ nI p) = True := eq_true (nI_le (by omega) (by omega))
    refine ⟨M, ?_, hP, q4_refl _ _⟩
    simp only [s192_8, s192_9, s192_12, s192_13, s192_16, k1, hP.1, hP.2.1, h1', ↓reduceIte]
  | succ k ih =>
    intro p x M hp hP
    have h1 : ¬ nI N ≤ nI p := nI_ge (by omega) (by omega)
    have h3 : qx_ib (nI p) 500 = true := qx_ib_of (by omega) (by decide)
    have h4 : (nI p).toNatClampNeg = p := nI_clamp (by omega)
    have hb := hP.2.2 p (by omega)
    unfold rnk
    by_cases z : B p = nI 32
    · rw [if_pos (show isBl (B p) = true from decide_eq_true z)]
      have f1 : q4 (fun j => j = 13) M (qx_up M 400 13 (nI (p + 1))) := q4_up _ _ _ rfl
      obtain ⟨M2, g2, c2, f2⟩ := ih (p + 1) x (qx_up M 400 13 (nI (p + 1))) (by omega) (nPo_up hP f1 (by decide) (qx_up_eq _ _ _ _))
      refine ⟨M2, ?_, c2, q4_trans f1 f2⟩
      have hz : (B p = nI 32) = True := eq_true z
      simp only [s192_8, s192_9, s192_12, s192_13, s192_16, s192_19, s192_20, s192_23, s192_24, s192_27, s192_27z, s192_28, s192_30, s192_33, s192_34r, s192_34i, s192_35, s192_38, s192_39, s192_40, k1, k4, k5, hP.1, hP.2.1, h1, h3, h4, hb, hz, nI_add, List.length_cons, List.length_nil, Nat.zero_le, Nat.reduceAdd, Nat.reduceLeDiff, Option.bind_some, qx_kn_v, qx_kn_n, Nat.add_zero, Bool.false_eq_true, ↓reduceIte]
      rw [s192_43, g2]
    · rw [if_neg (show ¬ isBl (B p) = true from fun w => z (of_decide_eq_true w))]
      refine ⟨M, ?_, hP, q4_refl _ _⟩
      simp only [s192_8, s192_9, s192_12, s192_13, s192_16, s192_19, s192_20, s192_23, s192_24, s192_27, s192_27z, s192_28, s192_30, s192_33, s192_34r, s192_34i, s192_35, s192_38, s192_39, s192_40, k1, k4, k5, hP.1, hP.2.1, h1, h3, h4, hb, z, List.length_cons, List.length_nil, Nat.zero_le, Nat.reduceAdd, Nat.reduceLeDiff, Option.bind_some, qx_kn_v, qx_kn_n, Nat.add_zero, Bool.false_eq_true, ↓reduceIte]
theorem m192l {d : Nat} (hN : N ≤ 500) : ∀ (k p x : Nat) (M : qxM), p + k = N → nPo M B N p → ∃ M', Rs L xs (d + 2) 192 94 [some (.ref 400)] [] M x = Rs L xs (d + 2) 192 118 [some (.ref 400)] [] M' x ∧ nPo M' B N (rnk isLt B k p) ∧ q4 (fun j => j = 13) M M' := by
  obtain ⟨k1, _, _⟩ := qx_m400
  intro k
  induction k with
  | zero =>
    intro p x M hp hP
    have h190 := m190 (L := L) (xs := xs) (d := d) (x := 0) hN hP (by omega)
    rw [decide_eq_false (show ¬ p < N by omega), Bool.false_and] at h190
    refine ⟨M, ?_, hP, q4_refl _ _⟩
    simp only [s192_94, s192_95, s192_96, s192_99, s192_102, k1, hP.2.1, h190, qbf, List.length_cons, List.length_nil, Nat.zero_le, Nat.reduceAdd, Nat.reduceLeDiff, Option.bind_some, qx_kn_v, qx_kn_n, Nat.add_zero, Bool.false_eq_true, ↓reduceIte]
  | succ k ih =>
    intro p x M hp hP
    have h190 := m190 (L := L) (xs := xs) (d := d) (x := 0) hN hP (by omega)
    rw [decide_eq_true (show p < N by omega), Bool.true_and] at h190
    unfold rnk
    cases z : isLt (B p)
    · rw [z] at h190
      rw [if_neg (by decide)]
      refine ⟨M, ?_, hP, q4_refl _ _⟩
      simp only [s192_94, s192_95, s192_96, s192_99, s192_102, k1, hP.2.1, h190, qbf, List.length_cons, List.length_nil, Nat.zero_le, Nat.reduceAdd, Nat.reduceLeDiff, Option.bind_some, qx_kn_v, qx_kn_n, Nat.add_zero, Bool.false_eq_true, ↓reduceIte]
    · rw [z] at h190
      rw [if_pos rfl]
      have f1 : q4 (fun j => j = 13) M (qx_up M 400 13 (nI (p + 1))) := q4_up _ _ _ rfl
      obtain ⟨M2, g2, c2, f2⟩ := ih (p + 1) x (qx_up M 400 13 (nI (p + 1))) (by omega) (nPo_up hP f1 (by decide) (qx_up_eq _ _ _ _))
      refine ⟨M2, ?_, c2, q4_trans f1 f2⟩
      simp only [s192_94, s192_95, s192_96, s192_99, s192_102, s192_105, s192_106r, s192_106i, s192_107, s192_110, s192_111, s192_112, k1, hP.2.1, h190, qbt, nI_add, List.length_cons, List.length_nil, Nat.zero_le, Nat.reduceAdd, Nat.reduceLeDiff, Option.bind_some, qx_kn_v, qx_kn_n, Nat.add_zero, Bool.false_eq_true, ↓reduceIte]
      rw [s192_115, g2]
theorem m192d {d s : Nat} (hN : N ≤ 500) : ∀ (k p x : Nat) (M : qxM), p + k = N → s ≤ p → nPo M B N p → M.1 400 14 = nI s → M.1 400 16 = vlk B (min (p - s) 2) (nI 0) s → ∃ M', Rs L xs (d + 2) 192 158 [some (.ref 400)] [] M x = Rs L xs (d + 2) 192 219 [some (.ref 400)] [] M' x ∧ nPo M' B N (rnk isDg B k p) ∧ M'.1 400 16 = vlk B (min (rnk isDg B k p - s) 2) (nI 0) s ∧ q4 (fun j => j = 13 ∨ j = 16) M M' := by
  obtain ⟨k1, _, _⟩ := qx_m400
  obtain ⟨_, _, _, k4, k5⟩ := qx_m20
  intro k
  induction k with
  | zero =>
    intro p x M hp hs hP h14 h16
    have h191 := m191 (L := L) (xs := xs) (d := d) (x := 0) hN hP (by omega)
    rw [decide_eq_false (show ¬ p < N by omega), Bool.false_and] at h191
    refine ⟨M, ?_, hP, h16, q4_refl _ _⟩
    simp only [s192_158, s192_159, s192_160, s192_163, s192_166, k1, hP.2.1, h191, qbf, List.length_cons, List.length_nil, Nat.zero_le, Nat.reduceAdd, Nat.reduceLeDiff, Option.bind_some, qx_kn_v, qx_kn_n, Nat.add_zero, Bool.false_eq_true, ↓reduceIte]
  | succ k ih =>
    intro p x M hp hs hP h14 h16
    have h191 := m191 (L := L) (xs := xs) (d := d) (x := 0) hN hP (by omega)
    rw [decide_eq_true (show p < N by omega), Bool.true_and] at h191
    have hb := hP.2.2 p (by omega)
    have h3 : qx_ib (nI p) 500 = true := qx_ib_of (by omega) (by decide)
    have h4 : (nI p).toNatClampNeg = p := nI_clamp (by omega)
    unfold rnk
    cases z : isDg (B p)
    · rw [z] at h191
      rw [if_neg (by decide)]
      refine ⟨M, ?_, hP, h16, q4_refl _ _⟩
      simp only [s192_158, s192_159, s192_160, s192_163, s192_166, k1, hP.2.1, h191, qbf, List.length_cons, List.length_nil, Nat.zero_le, Nat.reduceAdd, Nat.reduceLeDiff, Option.bind_some, qx_kn_v, qx_kn_n, Nat.add_zero, Bool.false_eq_true, ↓reduceIte]
    · rw [z] at h191
      rw [if_pos rfl]
      have hsub : nI p - nI s = nI (p - s) := pk_sub hs
      have e2 : (nI 2 ≤ nI (p - s)) = (2 ≤ p - s) := qi_le (by decide) (by omega)
      by_cases y : 2 ≤ p - s
      · have t : (nI 2 ≤ nI (p - s)) = True := by rw [e2]; exact eq_true y
        have f1 : q4 (fun j => j = 13 ∨ j = 16) M (qx_up M 400 13 (nI (p + 1))) := q4_up _ _ _ (Or.inl rfl)
        obtain ⟨M2, g2, c2, v2, f2⟩ := ih (p + 1) x (qx_up M 400 13 (nI (p + 1))) (by omega) (by omega) (nPo_up hP f1 (by decide) (qx_up_eq _ _ _ _)) (by rw [qx_up_at, if_neg (by omega), h14]) (by
          rw [qx_up_at, if_neg (by omega), h16, show min (p - s) 2 = 2 by omega, show min (p + 1 - s) 2 = 2 by omega])
        refine ⟨M2, ?_, c2, v2, q4_trans f1 f2⟩
        simp only [s192_158, s192_159, s192_160, s192_163, s192_166, s192_169, s192_170, s192_173, s192_174, s192_177, s192_178, s192_179, s192_182, s192_183, s192_185, s192_186, s192_189, s192_190, s192_191, s192_194, s192_195, s192_198, s192_198z, s192_199, s192_200, s192_202, s192_203, s192_206, s192_207r, s192_207i, s192_208, s192_211, s192_212, s192_213, k1, hP.2.1, h191, qbt, h14, hsub, t, nI_add, List.length_cons, List.length_nil, Nat.zero_le, Nat.reduceAdd, Nat.reduceLeDiff, Option.bind_some, qx_kn_v, qx_kn_n, Nat.add_zero, Bool.false_eq_true, ↓reduceIte]
        rw [s192_216, g2]
      · have t : (nI 2 ≤ nI (p - s)) = False := by rw [e2]; exact eq_false y
        have hv : vlk B (min (p + 1 - s) 2) (nI 0) s = nI 10 * vlk B (min (p - s) 2) (nI 0) s + B p - nI 48 := by
          rw [show min (p + 1 - s) 2 = (p - s) + 1 by omega, vlk_end, show min (p - s) 2 = p - s by omega, show s + (p - s) = p by omega]
        have f0 : q4 (fun j => j = 13 ∨ j = 16) M (qx_up M 400 16 (vlk B (min (p + 1 - s) 2) (nI 0) s)) := q4_up _ _ _ (Or.inr rfl)
        have f1 : q4 (fun j => j = 13 ∨ j = 16) M (qx_up (qx_up M 400 16 (vlk B (min (p + 1 - s) 2) (nI 0) s)) 400 13 (nI (p + 1))) := q4_trans f0 (q4_up _ _ _ (Or.inl rfl))
        obtain ⟨M2, g2, c2, v2, f2⟩ := ih (p + 1) x (qx_up (qx_up M 400 16 (vlk B (min (p + 1 - s) 2) (nI 0) s)) 400 13 (nI (p + 1))) (by omega) (by omega) (nPo_up hP f1 (by decide) (qx_up_eq _ _ _ _)) (by rw [f1.1 14 (by decide), h14]) (by
          rw [qx_up_at, if_neg (by omega), qx_up_eq])
        have h13 : ∀ v, (qx_up M 400 16 v).1 400 13 = nI p := fun v => by rw [qx_up_at, if_neg (by omega), hP.2.1]
        refine ⟨M2, ?_, c2, v2, q4_trans f1 f2⟩
        simp only [s192_158, s192_159, s192_160, s192_163, s192_166, s192_169, s192_170, s192_173, s192_174, s192_177, s192_178, s192_179, s192_182, s192_183, s192_185, s192_186, s192_189, s192_190, s192_191, s192_194, s192_195, s192_198, s192_198z, s192_199, s192_200, s192_202, s192_203, s192_206, s192_207r, s192_207i, s192_208, s192_211, s192_212, s192_213, k1, k4, k5, hP.2.1, h191, qbt, h14, hsub, t, h16, h3, h4, hb, ← hv, h13, nI_add, List.length_cons, List.length_nil, Nat.zero_le, Nat.reduceAdd, Nat.reduceLeDiff, Option.bind_some, qx_kn_v, qx_kn_n, Nat.add_zero, Bool.false_eq_true, ↓reduceIte]
        rw [s192_216, g2]
def mkd (k : Nat) : Nat := if k = 4 then 1 else if k = 1 then 2 else if k = 2 then 3 else if k = 3 then 4 else 0
def nTk (M : qxM) (B : Nat → Int32) (N s : Nat) : Prop := nPo M B N (tkE B N s) ∧ M.1 400 15 = nI (mkd (tkK B N s)) ∧ M.1 400 14 = nI s ∧ (tkK B N s = 2 → M.1 400 16 = tkV B N s)
theorem m192 {d x p : Nat} {M : qxM} (hN : N ≤ 500) (hp : p ≤ N) (h10 : M.1 400 10 = nI 0) (hP : nPo M B N p) : ∃ M', Rs L xs (d + 3) 192 0 [some (.ref (400))] [] (M) x = some (.inl (none), M', x) ∧ nTk M' B N (tkS B N p) ∧ q4 qnF M M' := by
  obtain ⟨k1, _, _⟩ := qx_m400
  obtain ⟨_, _, _, k4, k5⟩ := qx_m20
  obtain ⟨M1, g1, c1, f1⟩ := m192b (L := L) (xs := xs) (d := d + 3) hN (N - p) p x M (by omega) hP
  have hs := tkS_le (B := B) hp
  have hsd : rnk isBl B (N - p) p = tkS B N p := rfl
  rw [hsd] at c1
  generalize tkS B N p = s at c1 hs ⊢
  have F1 : q4 qnF M M1 := q4_mono f1 (fun j h => by unfold qnF; omega)
  have u0 : q4 qnF M1 (qx_up M1 400 14 (nI s)) := q4_up _ _ _ (by unfold qnF; omega)
  have c2 : nPo (qx_up M1 400 14 (nI s)) B N s := nPo_fr (R := fun j => j = 14) c1 (q4_up _ _ _ rfl) (by decide) (by decide)
  have h88 : (qx_up M1 400 14 (nI s)).1 400 14 = nI s := qx_up_eq _ _ _ _
  have hhead : Rs L xs (d + 3) 192 0 [some (.ref 400)] [] M x = Rs L xs (d + 3) 192 54 [some (.ref 400)] [] (qx_up M1 400 14 (nI s)) x := by
    simp only [s192_0, s192_1, s192_4, k1, h10, qi_02, ↓reduceIte]
    rw [g1]
    simp only [s192_46, s192_47, s192_48, s192_51, k1, c1.2.1]
  generalize qx_up M1 400 14 (nI s) = M2 at u0 c2 h88 hhead
  rw [hhead]
  by_cases hsN : N ≤ s
  · have h1 : (nI s = nI N) = True := eq_true (by rw [show s = N by omega])
    have hE : tkE B N s = s := if_pos hsN
    have hK : tkK B N s = 4 := if_pos hsN
    have u1 : q4 qnF M2 (qx_up M2 400 15 (nI 1)) := q4_up _ _ _ (by unfold qnF; omega)
    have h15 : (qx_up M2 400 15 (nI 1)).1 400 15 = nI 1 := qx_up_eq _ _ _ _
    refine ⟨_, ?_, ⟨?_, ?_, ?_, fun h => absurd h (by rw [hK]; decide)⟩, q4_trans F1 (q4_trans u0 u1)⟩
    · simp only [s192_54, s192_55, s192_56, s192_59, s192_60, s192_63, s192_66, s192_67, s192_70, s192_71, s192_74, s192_75, s192_78, s192_79, s192_82, k1, c2.1, c2.2.1, h1, h15, ↓reduceIte]
    · rw [hE]
      exact nPo_fr (R := fun j => j = 15) c2 (q4_up _ _ _ rfl) (by decide) (by decide)
    · rw [hK, h15]
      rfl
    · rw [qx_up_at, if_neg (by omega), h88]
  · have h1 : (nI s = nI N) = False := by rw [qi_eq (by omega) (by omega)]; exact eq_false (by omega)
    have h15 : (qx_up M2 400 15 (nI 0)).1 400 15 = nI 0 := qx_up_eq _ _ _ _
    have h01 : (nI 0 = nI 1) = False := by decide
    have hto : Rs L xs (d + 3) 192 54 [some (.ref 400)] [] M2 x = Rs L xs (d + 3) 192 83 [some (.ref 400)] [] (qx_up M2 400 15 (nI 0)) x := by
      simp only [s192_54, s192_55, s192_56, s192_59, s192_60, s192_63, s192_66, s192_67, s192_70, s192_71, s192_74, s192_75, s192_78, s192_79, k1, c2.1, c2.2.1, h1, h15, h01, ↓reduceIte]
    have c3 : nPo (qx_up M2 400 15 (nI 0)) B N s := nPo_fr (R := fun j => j = 15) c2 (q4_up _ _ _ rfl) (by decide) (by decide)
    have u1 : q4 qnF M2 (qx_up M2 400 15 (nI 0)) := q4_up _ _ _ (by unfold qnF; omega)
    have h14 : (qx_up M2 400 15 (nI 0)).1 400 14 = nI s := by rw [qx_up_at, if_neg (by omega), h88]
    have F2 := q4_trans F1 (q4_trans u0 u1)
    rw [hto]
    generalize qx_up M2 400 15 (nI 0) = M3 at c3 h14 h15 F2
    have h190 := m190 (L := L) (xs := xs) (d := d + 1) (x := 0) hN c3 (by omega)
    rw [decide_eq_true (show s < N by omega), Bool.true_and] at h190
    have h191 := m191 (L := L) (xs := xs) (d := d + 1) (x := 0) hN c3 (by omega)
    rw [decide_eq_true (show s < N by omega), Bool.true_and] at h191
    by_cases hlt : isLt (B s) = true
    · rw [hlt] at h190
      have hE : tkE B N s = rnk isLt B (N - s) s := by unfold tkE; rw [if_neg hsN, if_pos hlt]
      have hEle := tkE_le (B := B) (show s ≤ N by omega)
      obtain ⟨M4, g4, c4, f4⟩ := m192l (L := L) (xs := xs) (d := d + 1) hN (N - s) s x M3 (by omega) c3
      rw [← hE] at c4
      have h8 : M4.1 400 14 = nI s := by rw [f4.1 14 (by decide), h14]
      have hsub : nI (tkE B N s) - nI s = nI (tkE B N s - s) := pk_sub (by omega)
      have e6 : (nI 6 < nI (tkE B N s - s)) = ¬ (tkE B N s ≤ s + 6) := by
        rw [qi_lt (by decide) (by omega)]
        exact propext ⟨fun h => by omega, fun h => by omega⟩
      have fin : ∀ kk, mkd (tkK B N s) = kk → tkK B N s ≠ 2 → nTk (qx_up M4 400 15 (nI kk)) B N s ∧ q4 qnF M (qx_up M4 400 15 (nI kk)) := fun kk hk hk2 => ⟨⟨nPo_fr (R := fun j => j = 15) c4 (q4_up _ _ _ rfl) (by decide) (by decide), by rw [qx_up_eq, hk], by rw [qx_up_at, if_neg (by omega), h8], fun h => absurd h hk2⟩, q4_trans F2 (q4_trans (q4_mono f4 (fun j h => by unfold qnF; omega)) (q4_up _ _ _ (by unfold qnF; omega)))⟩
      have hgo : Rs L xs (d + 3) 192 83 [some (.ref 400)] [] M3 x = Rs L xs (d + 3) 192 118 [some (.ref 400)] [] M4 x := by
        simp only [s192_83, s192_84, s192_85, s192_88, s192_91, k1, c3.2.1, h190, qbt, List.length_cons, List.length_nil, Nat.zero_le, Nat.reduceAdd, Nat.reduceLeDiff, Option.bind_some, qx_kn_v, qx_kn_n, Nat.add_zero, Bool.false_eq_true, ↓reduceIte]
        exact g4
      rw [hgo]
      by_cases h6 : tkE B N s ≤ s + 6
      · have hK : tkK B N s = 1 := by unfold tkK; rw [if_neg hsN, if_pos hlt, if_pos h6]
        have t6 : (nI 6 < nI (tkE B N s - s)) = False := by rw [e6]; exact eq_false (fun w => w h6)
        refine ⟨_, ?_, (fin 2 (by rw [hK]; rfl) (by rw [hK]; decide)).1, (fin 2 (by rw [hK]; rfl) (by rw [hK]; decide)).2⟩
        simp only [s192_118, s192_119, s192_120, s192_123, s192_124, s192_127, s192_128, s192_130, s192_133, s192_134, s192_137, s192_138, s192_141, k1, c4.2.1, h8, hsub, t6, List.length_cons, List.length_nil, Nat.zero_le, Nat.reduceAdd, Nat.reduceLeDiff, Option.bind_some, qx_kn_v, qx_kn_n, Nat.add_zero, Bool.false_eq_true, ↓reduceIte]
      · have hK : tkK B N s = 0 := by unfold tkK; rw [if_neg hsN, if_pos hlt, if_neg h6]
        have t6 : (nI 6 < nI (tkE B N s - s)) = True := by rw [e6]; exact eq_true h6
        refine ⟨_, ?_, (fin 0 (by rw [hK]; rfl) (by rw [hK]; decide)).1, (fin 0 (by rw [hK]; rfl) (by rw [hK]; decide)).2⟩
        simp only [s192_118, s192_119, s192_120, s192_123, s192_124, s192_127, s192_128, s192_130, s192_133, s192_134, s192_137, s192_138, s192_141, k1, c4.2.1, h8, hsub, t6, List.length_cons, List.length_nil, Nat.zero_le, Nat.reduceAdd, Nat.reduceLeDiff, Option.bind_some, qx_kn_v, qx_kn_n, Nat.add_zero, Bool.false_eq_true, ↓reduceIte]
    · have hltf : isLt (B s) = false := by simpa using hlt
      rw [hltf] at h190
      by_cases hdg : isDg (B s) = true
      · rw [hdg] at h191
        have hE : tkE B N s = rnk isDg B (N - s) s := by unfold tkE; rw [if_neg hsN, if_neg hlt, if_pos hdg]
        have hEle := tkE_le (B := B) (show s ≤ N by omega)
        obtain ⟨M4, g4, c4, v4, f4⟩ := m192d (L := L) (xs := xs) (d := d + 1) (s := s) hN (N - s) s x (qx_up M3 400 16 (nI 0)) (by omega) (Nat.le_refl _) (nPo_fr (R := fun j => j = 16) c3 (q4_up _ _ _ rfl) (by decide) (by decide)) (by rw [qx_up_at, if_neg (by omega), h14]) (by rw [qx_up_eq, Nat.sub_self]; rfl)
        rw [← hE] at c4 v4
        have h8 : M4.1 400 14 = nI s := by rw [f4.1 14 (by decide), qx_up_at, if_neg (by omega), h14]
        have hsub : nI (tkE B N s) - nI s = nI (tkE B N s - s) := pk_sub (by omega)
        have e2 : (nI 2 < nI (tkE B N s - s)) = ¬ (tkE B N s ≤ s + 2) := by
          rw [qi_lt (by decide) (by omega)]
          exact propext ⟨fun h => by omega, fun h => by omega⟩
        have F3 : q4 qnF M M4 := q4_trans F2 (q4_trans (q4_up M3 16 (nI 0) (by unfold qnF; omega)) (q4_mono f4 (fun j h => by unfold qnF; omega)))
        have hgo : Rs L xs (d + 3) 192 83 [some (.ref 400)] [] M3 x = Rs L xs (d + 3) 192 219 [some (.ref 400)] [] M4 x := by
          simp only [s192_83, s192_84, s192_85, s192_88, s192_91, s192_142, s192_143, s192_144, s192_147, s192_150, s192_153, s192_154, s192_155, k1, c3.2.1, h190, h191, qbf, qbt, List.length_cons, List.length_nil, Nat.zero_le, Nat.reduceAdd, Nat.reduceLeDiff, Option.bind_some, qx_kn_v, qx_kn_n, Nat.add_zero, Bool.false_eq_true, ↓reduceIte]
          exact g4
        rw [hgo]
        by_cases h2 : tkE B N s ≤ s + 2
        · have hK : tkK B N s = 2 := by unfold tkK; rw [if_neg hsN, if_neg hlt, if_pos hdg, if_pos h2]
          have t2 : (nI 2 < nI (tkE B N s - s)) = False := by rw [e2]; exact eq_false (fun w => w h2)
          refine ⟨qx_up M4 400 15 (nI 3), ?_, ⟨nPo_fr (R := fun j => j = 15) c4 (q4_up _ _ _ rfl) (by decide) (by decide), ?_, ?_, fun _ => ?_⟩, q4_trans F3 (q4_up _ _ _ (by unfold qnF; omega))⟩
          · simp only [s192_219, s192_220, s192_221, s192_224, s192_225, s192_228, s192_229, s192_230, s192_233, s192_234, s192_237, s192_238, s192_241, k1, c4.2.1, h8, hsub, t2, List.length_cons, List.length_nil, Nat.zero_le, Nat.reduceAdd, Nat.reduceLeDiff, Option.bind_some, qx_kn_v, qx_kn_n, Nat.add_zero, Bool.false_eq_true, ↓reduceIte]
          · rw [qx_up_eq, hK]
            rfl
          · rw [qx_up_at, if_neg (by omega), h8]
          · rw [qx_up_at, if_neg (by omega), v4, show min (tkE B N s - s) 2 = tkE B N s - s by omega]
            rfl
        · have hK : tkK B N s = 0 := by unfold tkK; rw [if_neg hsN, if_neg hlt, if_pos hdg, if_neg h2]
          have t2 : (nI 2 < nI (tkE B N s - s)) = True := by rw [e2]; exact eq_true h2
          refine ⟨qx_up M4 400 15 (nI 0), ?_, ⟨nPo_fr (R := fun j => j = 15) c4 (q4_up _ _ _ rfl) (by decide) (by decide), ?_, ?_, fun h => absurd h (by rw [hK]; decide)⟩, q4_trans F3 (q4_up _ _ _ (by unfold qnF; omega))⟩
          · simp only [s192_219, s192_220, s192_221, s192_224, s192_225, s192_228, s192_229, s192_230, s192_233, s192_234, s192_237, s192_238, s192_241, k1, c4.2.1, h8, hsub, t2, List.length_cons, List.length_nil, Nat.zero_le, Nat.reduceAdd, Nat.reduceLeDiff, Option.bind_some, qx_kn_v, qx_kn_n, Nat.add_zero, Bool.false_eq_true, ↓reduceIte]
          · rw [qx_up_eq, hK]
            rfl
          · rw [qx_up_at, if_neg (by omega), h8]
      · have hdgf : isDg (B s) = false := by simpa using hdg
        rw [hdgf] at h191
        have hE : tkE B N s = s + 1 := by unfold tkE; rw [if_neg hsN, if_neg hlt, if_neg hdg]
        have hb := c3.2.2 s (by omega)
        have h3 : qx_ib (nI s) 500 = true := qx_ib_of (by omega) (by decide)
        have h4 : (nI s).toNatClampNeg = s := nI_clamp (by omega)
        by_cases h59 : B s = nI 59
        · have hK : tkK B N s = 3 := by unfold tkK; rw [if_neg hsN, if_neg hlt, if_neg hdg, if_pos h59]
          have t : (B s = nI 59) = True := eq_true h59
          have h13 : (qx_up M3 400 15 (nI 4)).1 400 13 = nI s := by rw [qx_up_at, if_neg (by omega), c3.2.1]
          refine ⟨qx_up (qx_up M3 400 15 (nI 4)) 400 13 (nI (s + 1)), ?_, ⟨?_, ?_, ?_, fun h => absurd h (by rw [hK]; decide)⟩, q4_trans F2 (q4_trans (q4_up _ _ _ (by unfold qnF; omega)) (q4_up _ _ _ (by unfold qnF; omega)))⟩
          · simp only [s192_83, s192_84, s192_85, s192_88, s192_91, s192_142, s192_143, s192_144, s192_147, s192_150, s192_242, s192_243, s192_246, s192_247, s192_250, s192_250z, s192_251, s192_253, s192_256, s192_257, s192_258, s192_261, s192_262r, s192_262i, s192_263, s192_266, s192_267, s192_268, s192_271, k1, k4, k5, c3.2.1, h190, h191, qbf, h3, h4, hb, t, h13, nI_add, List.length_cons, List.length_nil, Nat.zero_le, Nat.reduceAdd, Nat.reduceLeDiff, Option.bind_some, qx_kn_v, qx_kn_n, Nat.add_zero, Bool.false_eq_true, ↓reduceIte]
          · rw [hE]
            exact nPo_up (nPo_fr (R := fun j => j = 15) c3 (q4_up M3 15 (nI 4) rfl) (by decide) (by decide)) (R := fun j => j = 13) (q4_up _ _ _ rfl) (by decide) (qx_up_eq _ _ _ _)
          · rw [qx_up_at, if_neg (by omega), qx_up_eq, hK]
            rfl
          · rw [qx_up_at, if_neg (by omega), qx_up_at, if_neg (by omega), h14]
        · have hK : tkK B N s = 0 := by unfold tkK; rw [if_neg hsN, if_neg hlt, if_neg hdg, if_neg h59]
          have t : (B s = nI 59) = False := eq_false h59
          refine ⟨qx_up M3 400 13 (nI (s + 1)), ?_, ⟨?_, ?_, ?_, fun h => absurd h (by rw [hK]; decide)⟩, q4_trans F2 (q4_up _ _ _ (by unfold qnF; omega))⟩
          · simp only [s192_83, s192_84, s192_85, s192_88, s192_91, s192_142, s192_143, s192_144, s192_147, s192_150, s192_242, s192_243, s192_246, s192_247, s192_250, s192_250z, s192_251, s192_253, s192_256, s192_257, s192_258, s192_261, s192_262r, s192_262i, s192_263, s192_266, s192_267, s192_268, s192_271, k1, k4, k5, c3.2.1, h190, h191, qbf, h3, h4, hb, t, nI_add, List.length_cons, List.length_nil, Nat.zero_le, Nat.reduceAdd, Nat.reduceLeDiff, Option.bind_some, qx_kn_v, qx_kn_n, Nat.add_zero, Bool.false_eq_true, ↓reduceIte]
          · rw [hE]
            exact nPo_up c3 (R := fun j => j = 13) (q4_up _ _ _ rfl) (by decide) (qx_up_eq _ _ _ _)
          · rw [qx_up_at, if_neg (by omega), h15, hK]
            rfl
          · rw [qx_up_at, if_neg (by omega), h14]
/-- nothing is read behind a fault -/
theorem m192e {d x : Nat} {M : qxM} {c : Nat} (hc : 0 < c) (hc9 : c < 9) (h10 : M.1 400 10 = nI c) : Rs L xs (d) 192 0 [some (.ref (400))] [] (M) x = some (.inl (none), M, x) := by
  obtain ⟨k1, _, _⟩ := qx_m400
  have t : (nI c ≤ 0) = False := eq_false (nI_nle (by omega) (by omega))
  simp only [s192_0, s192_1, s192_4, s192_7, k1, h10, t, ↓reduceIte]
end QL
