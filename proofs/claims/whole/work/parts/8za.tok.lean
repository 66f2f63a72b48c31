/-! Tokens: what they are; the class reads one. -/
def isB (lo hi z : Int32) : Bool := decide (¬ z < lo ∧ ¬ hi < z)
def isLt (z : Int32) : Bool := isB (nI 97) (nI 122) z
def isDg (z : Int32) : Bool := isB (nI 48) (nI 57) z
def isBl (z : Int32) : Bool := decide (z = nI 32)
/-- the end of a run -/
def rnk (P : Int32 → Bool) (B : Nat → Int32) : Nat → Nat → Nat
  | 0, p => p
  | k + 1, p => if P (B p) = true then rnk P B k (p + 1) else p
theorem rnk_le (P : Int32 → Bool) (B : Nat → Int32) : ∀ k p, p ≤ rnk P B k p ∧ rnk P B k p ≤ p + k
  | 0, p => ⟨Nat.le_refl _, Nat.le_refl _⟩
  | k + 1, p => by
    unfold rnk
    have h := rnk_le P B k (p + 1)
    split
    · omega
    · omega
theorem rnk_in {P : Int32 → Bool} {B : Nat → Int32} : ∀ k p i, p ≤ i → i < rnk P B k p → P (B i) = true
  | 0, p, i, h1, h2 => absurd h2 (by show ¬ i < p; omega)
  | k + 1, p, i, h1, h2 => by
    unfold rnk at h2
    by_cases z : P (B p) = true
    · rw [if_pos z] at h2
      by_cases e : i = p
      · rw [e]
        exact z
      · exact rnk_in k (p + 1) i (by omega) h2
    · rw [if_neg z] at h2
      omega
/-- a number's value -/
def vlk (B : Nat → Int32) : Nat → Int32 → Nat → Int32
  | 0, z, _ => z
  | k + 1, z, i => vlk B k (nI 10 * z + B i - nI 48) (i + 1)
/-- a token that begins at s: its end, its kind, its value -/
def tkE (B : Nat → Int32) (N s : Nat) : Nat := if N ≤ s then s else if isLt (B s) = true then rnk isLt B (N - s) s else if isDg (B s) = true then rnk isDg B (N - s) s else s + 1
def tkK (B : Nat → Int32) (N s : Nat) : Nat := if N ≤ s then 4 else if isLt (B s) = true then (if tkE B N s ≤ s + 6 then 1 else 0) else if isDg (B s) = true then (if tkE B N s ≤ s + 2 then 2 else 0) else if B s = nI 59 then 3 else 0
def tkS (B : Nat → Int32) (N p : Nat) : Nat := rnk isBl B (N - p) p
def tkV (B : Nat → Int32) (N s : Nat) : Int32 := vlk B (tkE B N s - s) (nI 0) s
theorem tkS_le {B : Nat → Int32} {N p : Nat} (h : p ≤ N) : p ≤ tkS B N p ∧ tkS B N p ≤ N := by
  have := rnk_le isBl B (N - p) p
  unfold tkS
  omega
theorem tkE_le {B : Nat → Int32} {N s : Nat} (h : s ≤ N) : s ≤ tkE B N s ∧ tkE B N s ≤ N := by
  have h1 := rnk_le isLt B (N - s) s
  have h2 := rnk_le isDg B (N - s) s
  unfold tkE
  by_cases z : N ≤ s
  · rw [if_pos z]
    omega
  · rw [if_neg z]
    by_cases y : isLt (B s) = true
    · rw [if_pos y]
      omega
    · rw [if_neg y]
      by_cases w : isDg (B s) = true
      · rw [if_pos w]
        omega
      · rw [if_neg w]
        omega
/-- the class's reading place and its token -/
def cPo (M : qxM) (B : Nat → Int32) (N p : Nat) : Prop := M.1 20 5 = nI N ∧ M.1 20 6 = nI p ∧ ∀ i, i < N → M.1 21 i = B i
def q20 (R : Nat → Prop) (M M1 : qxM) : Prop := (∀ j, ¬ R j → M1.1 20 j = M.1 20 j) ∧ qf (fun a => a = 20) M M1
theorem q20_trans {R : Nat → Prop} {M M1 M2 : qxM} (h : q20 R M M1) (g : q20 R M1 M2) : q20 R M M2 := ⟨fun j hj => by rw [g.1 j hj, h.1 j hj], qf_trans h.2 g.2⟩
theorem q20_refl (R : Nat → Prop) (M : qxM) : q20 R M M := ⟨fun _ _ => rfl, qf_refl _ _⟩
theorem q20_up {R : Nat → Prop} (M : qxM) (k : Nat) (v : Int32) (h : R k) : q20 R M (qx_up M 20 k v) := ⟨fun j hj => by rw [qx_up_at, if_neg (fun (w : 20 = 20 ∧ j = k) => hj (by rw [w.2]; exact h))], qf_up _ _ _ _ rfl⟩
theorem q20_mono {R Q : Nat → Prop} {M M1 : qxM} (h : q20 R M M1) (hq : ∀ j, R j → Q j) : q20 Q M M1 := ⟨fun j hj => h.1 j (fun z => hj (hq j z)), h.2⟩
theorem cPo_fr {M M1 : qxM} {B : Nat → Int32} {N p : Nat} {R : Nat → Prop} (h : cPo M B N p) (hf : q20 R M M1) (h5 : ¬ R 5) (h6 : ¬ R 6) : cPo M1 B N p := ⟨by rw [hf.1 5 h5, h.1], by rw [hf.1 6 h6, h.2.1], fun i hi => by rw [hf.2.1 21 (by decide), h.2.2 i hi]⟩
theorem cPo_up {M M1 : qxM} {B : Nat → Int32} {N p p1 : Nat} (h : cPo M B N p) (hf : q20 (fun j => j = 6) M M1) (h6 : M1.1 20 6 = nI p1) : cPo M1 B N p1 := ⟨by rw [hf.1 5 (by decide), h.1], h6, fun i hi => by rw [hf.2.1 21 (by decide), h.2.2 i hi]⟩
section QL
variable {L : Nat} {xs : Nat → Int32} {B : Nat → Int32} {N : Nat}
theorem m33 {d x i : Nat} {M : qxM} (hi : i < 500) : Rs L xs (d) 33 0 [some (.ref (20)), some (.int (nI i))] [] (M) x = some (.inl (some (.int (M.1 21 i))), M, x) := by
  obtain ⟨k1, k2, k3, k4, k5⟩ := qx_m20
  have h1 : ¬ nI i < 0 := nI_pos (by omega)
  have h2 : ¬ nI 500 ≤ nI i := nI_ge hi (by decide)
  have h3 : qx_ib (nI i) 500 = true := qx_ib_of hi (by decide)
  have h4 : (nI i).toNatClampNeg = i := nI_clamp (by omega)
  simp only [s33_0, s33_1, s33_4, s33_5, s33_6, s33_9, s33_10, s33_13, s33_14, s33_17, s33_18, s33_18z, s33_19, s33_22, s33_23, k1, k2, k3, qx_16, h1, h2, h3, h4, List.length_cons, List.length_nil, Nat.zero_le, Nat.reduceAdd, Nat.reduceLeDiff, Option.bind_some, qx_kn_v, qx_kn_n, Nat.add_zero, Bool.false_eq_true, ↓reduceIte]
theorem m32 {d x i : Nat} {M : qxM} {lo hi : Int32} (hi' : i < 500) : Rs L xs (d + 1) 32 0 [some (.ref (20)), some (.int (nI i)), some (.int (lo)), some (.int (hi))] [] (M) x = some (.inl (some (.int (bI (isB lo hi (M.1 21 i))))), M, x) := by
  obtain ⟨k1, k2, k3, k4, k5⟩ := qx_m20
  unfold isB
  by_cases y : M.1 21 i < lo
  · rw [decide_eq_false (fun w => w.1 y)]
    simp only [s32_0, s32_1, s32_2, s32_5, s32_6, s32_9, s32_10, s32_11, s32_14, s32_15, s32_18, s32_19, s32_22, s32_23, k1, m33 hi', y, qx_z0, List.length_cons, List.length_nil, Nat.zero_le, Nat.reduceAdd, Nat.reduceLeDiff, Option.bind_some, qx_kn_v, qx_kn_n, Nat.add_zero, Bool.false_eq_true, ↓reduceIte]
    rfl
  · by_cases w : hi < M.1 21 i
    · rw [decide_eq_false (fun v => v.2 w)]
      simp only [s32_0, s32_1, s32_2, s32_5, s32_6, s32_9, s32_10, s32_11, s32_14, s32_15, s32_18, s32_19, s32_22, s32_23, k1, m33 hi', y, w, qx_z0, List.length_cons, List.length_nil, Nat.zero_le, Nat.reduceAdd, Nat.reduceLeDiff, Option.bind_some, qx_kn_v, qx_kn_n, Nat.add_zero, Bool.false_eq_true, ↓reduceIte]
      rfl
    · rw [decide_eq_true ⟨y, w⟩]
      simp only [s32_0, s32_1, s32_2, s32_5, s32_6, s32_9, s32_10, s32_11, s32_14, s32_15, s32_18, s32_19, s32_22, s32_23, k1, m33 hi', y, w, qx_z1, List.length_cons, List.length_nil, Nat.zero_le, Nat.reduceAdd, Nat.reduceLeDiff, Option.bind_some, qx_kn_v, qx_kn_n, Nat.add_zero, Bool.false_eq_true, ↓reduceIte]
      rfl
theorem m28b {d : Nat} (hN : N ≤ 500) : ∀ (k p x : Nat) (M : qxM), p + k = N → cPo M B N p → ∃ M', Rs L xs (d + 1) 28 0 [some (.ref 20)] [] M x = Rs L xs (d + 1) 28 37 [some (.ref 20)] [] M' x ∧ cPo M' B N (rnk isBl B k p) ∧ q20 (fun j => j = 6) M M' := by
  obtain ⟨k1, k2, k3, k4, k5⟩ := qx_m20
  intro k
  induction k with
  | zero =>
    intro p x M hp hP
    have h1 : ¬ nI p < nI N := by
      rw [i_nlt]
      exact nI_le (by omega) (by omega)
    have h1' : (nI N ≤ nI p) = True := eq_true (nI_le (by omega) (by omega))
    refine ⟨M, ?_, hP, q20_refl _ _⟩
    simp only [s28_0, s28_1, s28_4, s28_5, s28_8, k1, hP.1, hP.2.1, h1', ↓reduceIte]
  | succ k ih =>
    intro p x M hp hP
    have h1 : ¬ nI N ≤ nI p := nI_ge (by omega) (by omega)
    have h33 := m33 (L := L) (xs := xs) (d := d) (x := 0) (M := M) (show p < 500 by omega)
    rw [hP.2.2 p (by omega)] at h33
    unfold rnk
    by_cases z : B p = nI 32
    · rw [if_pos (show isBl (B p) = true from decide_eq_true z)]
      have f1 : q20 (fun j => j = 6) M (qx_up M 20 6 (nI (p + 1))) := q20_up _ _ _ rfl
      obtain ⟨M2, g2, c2, f2⟩ := ih (p + 1) x (qx_up M 20 6 (nI (p + 1))) (by omega) (cPo_up hP f1 (qx_up_eq _ _ _ _))
      refine ⟨M2, ?_, c2, q20_trans f1 f2⟩
      have hz : (B p = nI 32) = True := eq_true z
      simp only [s28_0, s28_1, s28_4, s28_5, s28_8, s28_11, s28_12, s28_13, s28_16, s28_19, s28_21, s28_24, s28_25r, s28_25i, s28_26, s28_29, s28_30, s28_31, k1, hP.1, hP.2.1, h1, h33, hz, nI_add, List.length_cons, List.length_nil, Nat.zero_le, Nat.reduceAdd, Nat.reduceLeDiff, Option.bind_some, qx_kn_v, qx_kn_n, Nat.add_zero, Bool.false_eq_true, ↓reduceIte]
      rw [s28_34, g2]
    · rw [if_neg (show ¬ isBl (B p) = true from fun w => z (of_decide_eq_true w))]
      refine ⟨M, ?_, hP, q20_refl _ _⟩
      simp only [s28_0, s28_1, s28_4, s28_5, s28_8, s28_11, s28_12, s28_13, s28_16, s28_19, s28_21, s28_24, s28_25r, s28_25i, s28_26, s28_29, s28_30, s28_31, k1, hP.1, hP.2.1, h1, h33, z, List.length_cons, List.length_nil, Nat.zero_le, Nat.reduceAdd, Nat.reduceLeDiff, Option.bind_some, qx_kn_v, qx_kn_n, Nat.add_zero, Bool.false_eq_true, ↓reduceIte]
theorem m29l {d : Nat} {lo hi : Int32} (hN : N ≤ 500) : ∀ (k p x : Nat) (M : qxM), p + k = N → cPo M B N p → ∃ M', Rs L xs (d + 2) 29 0 [some (.ref (20)), some (.int (lo)), some (.int (hi))] [] (M) x = some (.inl (none), M', x) ∧ cPo M' B N (rnk (isB lo hi) B k p) ∧ q20 (fun j => j = 6) M M' := by
  obtain ⟨k1, k2, k3, k4, k5⟩ := qx_m20
  intro k
  induction k with
  | zero =>
    intro p x M hp hP
    have h1' : (nI N ≤ nI p) = True := eq_true (nI_le (by omega) (by omega))
    refine ⟨M, ?_, hP, q20_refl _ _⟩
    simp only [s29_0, s29_1, s29_4, s29_5, s29_8, s29_37, k1, hP.1, hP.2.1, h1', ↓reduceIte]
  | succ k ih =>
    intro p x M hp hP
    have h1 : ¬ nI N ≤ nI p := nI_ge (by omega) (by omega)
    have h32 := m32 (L := L) (xs := xs) (d := d) (x := 0) (M := M) (lo := lo) (hi := hi) (show p < 500 by omega)
    rw [hP.2.2 p (by omega)] at h32
    unfold rnk
    cases z : isB lo hi (B p)
    · rw [z] at h32
      rw [if_neg (by decide)]
      refine ⟨M, ?_, hP, q20_refl _ _⟩
      simp only [s29_0, s29_1, s29_4, s29_5, s29_8, s29_11, s29_12, s29_13, s29_16, s29_17, s29_18, s29_21, s29_24, s29_25r, s29_25i, s29_26, s29_29, s29_30, s29_31, s29_37, k1, hP.1, hP.2.1, h1, h32, qbf, List.length_cons, List.length_nil, Nat.zero_le, Nat.reduceAdd, Nat.reduceLeDiff, Option.bind_some, qx_kn_v, qx_kn_n, Nat.add_zero, Bool.false_eq_true, ↓reduceIte]
    · rw [z] at h32
      rw [if_pos rfl]
      have f1 : q20 (fun j => j = 6) M (qx_up M 20 6 (nI (p + 1))) := q20_up _ _ _ rfl
      obtain ⟨M2, g2, c2, f2⟩ := ih (p + 1) x (qx_up M 20 6 (nI (p + 1))) (by omega) (cPo_up hP f1 (qx_up_eq _ _ _ _))
      refine ⟨M2, ?_, c2, q20_trans f1 f2⟩
      simp only [s29_0, s29_1, s29_4, s29_5, s29_8, s29_11, s29_12, s29_13, s29_16, s29_17, s29_18, s29_21, s29_24, s29_25r, s29_25i, s29_26, s29_29, s29_30, s29_31, k1, hP.1, hP.2.1, h1, h32, qbt, nI_add, List.length_cons, List.length_nil, Nat.zero_le, Nat.reduceAdd, Nat.reduceLeDiff, Option.bind_some, qx_kn_v, qx_kn_n, Nat.add_zero, Bool.false_eq_true, ↓reduceIte]
      rw [s29_34, g2]
theorem m30l {d e : Nat} {M : qxM} (hN : N ≤ 500) (he : e ≤ N) (hP : cPo M B N e) : ∀ (k i x : Nat) (z : Int32), i + k = e → Rs L xs (d + 1) 30 7 [some (.ref (20)), some (.int (z)), some (.int (nI i))] [] (M) x = some (.inl (some (.int (vlk B k z i))), M, x) := by
  obtain ⟨k1, k2, k3, k4, k5⟩ := qx_m20
  intro k
  induction k with
  | zero =>
    intro i x z hi
    have h1' : (nI e ≤ nI i) = True := eq_true (nI_le (by omega) (by omega))
    simp only [s30_7, s30_8, s30_9, s30_12, s30_35, s30_36, k1, hP.2.1, h1', vlk, ↓reduceIte]
  | succ k ih =>
    intro i x z hi
    have h1 : ¬ nI e ≤ nI i := nI_ge (by omega) (by omega)
    have h33 := m33 (L := L) (xs := xs) (d := d) (x := 0) (M := M) (show i < 500 by omega)
    rw [hP.2.2 i (by omega)] at h33
    have g := ih (i + 1) x (nI 10 * z + B i - nI 48) (by omega)
    have hi1 : nI i + nI 1 = nI (i + 1) := nI_add _ _
    simp only [s30_7, s30_8, s30_9, s30_12, s30_15, s30_17, s30_18, s30_19, s30_20, s30_21, s30_24, s30_25, s30_27, s30_28i, s30_28r, s30_28n, s30_29i, s30_29r, s30_29n, k1, hP.2.1, h1, h33, hi1, List.length_cons, List.length_nil, Nat.zero_le, Nat.reduceAdd, Nat.reduceLeDiff, Option.bind_some, qx_kn_v, qx_kn_n, Nat.add_zero, Bool.false_eq_true, ↓reduceIte]
    rw [s30_32]
    exact g
/-- the class's token -/
def cTk (M : qxM) (B : Nat → Int32) (N s : Nat) : Prop := cPo M B N (tkE B N s) ∧ M.1 20 7 = nI (tkK B N s) ∧ M.1 20 8 = nI s ∧ (tkK B N s = 2 → M.1 20 9 = tkV B N s)
def qtF (j : Nat) : Prop := 6 ≤ j ∧ j ≤ 9
theorem m28 {d x p : Nat} {M : qxM} (hN : N ≤ 500) (hp : p ≤ N) (hP : cPo M B N p) : ∃ M', Rs L xs (d + 3) 28 0 [some (.ref (20))] [] (M) x = some (.inl (none), M', x) ∧ cTk M' B N (tkS B N p) ∧ q20 qtF M M' := by
  obtain ⟨k1, k2, k3, k4, k5⟩ := qx_m20
  obtain ⟨M1, g1, c1, f1⟩ := m28b (L := L) (xs := xs) (d := d + 2) hN (N - p) p x M (by omega) hP
  have hs := tkS_le (B := B) hp
  have hsd : rnk isBl B (N - p) p = tkS B N p := rfl
  rw [hsd] at c1
  generalize tkS B N p = s at c1 hs ⊢
  have F1 : q20 qtF M M1 := q20_mono f1 (fun j h => by unfold qtF; omega)
  have u0 : q20 qtF M1 (qx_up M1 20 8 (nI s)) := q20_up _ _ _ (by unfold qtF; omega)
  have c2 : cPo (qx_up M1 20 8 (nI s)) B N s := cPo_fr (R := fun j => j = 8) c1 (q20_up _ _ _ rfl) (by decide) (by decide)
  have h88 : (qx_up M1 20 8 (nI s)).1 20 8 = nI s := qx_up_eq _ _ _ _
  have hhead : Rs L xs (d + 3) 28 37 [some (.ref 20)] [] M1 x = Rs L xs (d + 3) 28 45 [some (.ref 20)] [] (qx_up M1 20 8 (nI s)) x := by
    simp only [s28_37, s28_38, s28_39, s28_42, k1, c1.2.1]
  generalize qx_up M1 20 8 (nI s) = M2 at u0 c2 h88 hhead
  by_cases hsN : N ≤ s
  · have h1 : (nI s < nI N) = False := eq_false (fun w => by
      rw [← i_nle] at w
      exact w (nI_le hsN (by omega)))
    have hE : tkE B N s = s := if_pos hsN
    have hK : tkK B N s = 4 := if_pos hsN
    have u1 : q20 qtF M2 (qx_up M2 20 7 (nI 4)) := q20_up _ _ _ (by unfold qtF; omega)
    refine ⟨_, ?_, ⟨?_, ?_, ?_, fun h => absurd h (by rw [hK]; decide)⟩, q20_trans F1 (q20_trans u0 u1)⟩
    · rw [g1, hhead]
      simp only [s28_45, s28_46, s28_49, s28_50, s28_53, s28_56, s28_57, s28_58, s28_61, s28_213, k1, c2.1, c2.2.1, h1, ↓reduceIte]
    · rw [hE]
      exact cPo_fr (R := fun j => j = 7) c2 (q20_up _ _ _ rfl) (by decide) (by decide)
    · rw [hK, qx_up_eq]
    · rw [qx_up_at, if_neg (by omega), h88]
  · have h1 : (nI s < nI N) = True := eq_true (nI_lt (by omega) (by omega))
    have h32a := m32 (L := L) (xs := xs) (d := d + 1) (x := 0) (M := M2) (lo := nI 97) (hi := nI 122) (show s < 500 by omega)
    rw [c2.2.2 s (by omega)] at h32a
    have h32b := m32 (L := L) (xs := xs) (d := d + 1) (x := 0) (M := M2) (lo := nI 48) (hi := nI 57) (show s < 500 by omega)
    rw [c2.2.2 s (by omega)] at h32b
    by_cases hlt : isLt (B s) = true
    · have hlt' : isB (nI 97) (nI 122) (B s) = true := hlt
      rw [hlt'] at h32a
      have hE : tkE B N s = rnk isLt B (N - s) s := by unfold tkE; rw [if_neg hsN, if_pos hlt]
      have hEle := tkE_le (B := B) (show s ≤ N by omega)
      obtain ⟨M3, g3, c3, f3⟩ := m29l (L := L) (xs := xs) (d := d) (lo := nI 97) (hi := nI 122) hN (N - s) s 0 M2 (by omega) c2
      have hE' : rnk (isB (nI 97) (nI 122)) B (N - s) s = tkE B N s := hE.symm
      rw [hE'] at c3
      have h8 : M3.1 20 8 = nI s := by rw [f3.1 8 (by decide), h88]
      have hsub : nI (tkE B N s) - nI s = nI (tkE B N s - s) := pk_sub (by omega)
      have e6 : (nI 6 < nI (tkE B N s - s)) = ¬ (tkE B N s ≤ s + 6) := by
        rw [qi_lt (by decide) (by omega)]
        exact propext ⟨fun h => by omega, fun h => by omega⟩
      have fin : ∀ kk, tkK B N s = kk → kk ≠ 2 → cTk (qx_up M3 20 7 (nI kk)) B N s ∧ q20 qtF M (qx_up M3 20 7 (nI kk)) := fun kk hk hk2 => ⟨⟨cPo_fr (R := fun j => j = 7) c3 (q20_up _ _ _ rfl) (by decide) (by decide), by rw [qx_up_eq, hk], by rw [qx_up_at, if_neg (by omega), h8], fun h => absurd (hk ▸ h) hk2⟩, q20_trans F1 (q20_trans u0 (q20_trans (q20_mono f3 (fun j h => by unfold qtF; omega)) (q20_up _ _ _ (by unfold qtF; omega))))⟩
      by_cases h6 : tkE B N s ≤ s + 6
      · have hK : tkK B N s = 1 := by unfold tkK; rw [if_neg hsN, if_pos hlt, if_pos h6]
        have t6 : (nI 6 < nI (tkE B N s - s)) = False := by rw [e6]; exact eq_false (fun w => w h6)
        refine ⟨_, ?_, (fin 1 hK (by decide)).1, (fin 1 hK (by decide)).2⟩
        rw [g1, hhead]
        simp only [s28_45, s28_46, s28_49, s28_50, s28_53, s28_56, s28_57, s28_58, s28_61, s28_64, s28_65, s28_66, s28_69, s28_71, s28_73, s28_76, s28_79, s28_80, s28_82, s28_84, s28_87, s28_88, s28_89, s28_92, s28_93, s28_96, s28_97, s28_99, s28_102, s28_103, s28_106, s28_107, s28_110, s28_213, k1, c2.1, c2.2.1, h1, h32a, qbt, g3, c3.2.1, h8, hsub, t6, List.length_cons, List.length_nil, Nat.zero_le, Nat.reduceAdd, Nat.reduceLeDiff, Option.bind_some, qx_kn_v, qx_kn_n, Nat.add_zero, Bool.false_eq_true, ↓reduceIte]
      · have hK : tkK B N s = 0 := by unfold tkK; rw [if_neg hsN, if_pos hlt, if_neg h6]
        have t6 : (nI 6 < nI (tkE B N s - s)) = True := by rw [e6]; exact eq_true h6
        refine ⟨_, ?_, (fin 0 hK (by decide)).1, (fin 0 hK (by decide)).2⟩
        rw [g1, hhead]
        simp only [s28_45, s28_46, s28_49, s28_50, s28_53, s28_56, s28_57, s28_58, s28_61, s28_64, s28_65, s28_66, s28_69, s28_71, s28_73, s28_76, s28_79, s28_80, s28_82, s28_84, s28_87, s28_88, s28_89, s28_92, s28_93, s28_96, s28_97, s28_99, s28_102, s28_103, s28_106, s28_107, s28_110, s28_213, k1, c2.1, c2.2.1, h1, h32a, qbt, g3, c3.2.1, h8, hsub, t6, List.length_cons, List.length_nil, Nat.zero_le, Nat.reduceAdd, Nat.reduceLeDiff, Option.bind_some, qx_kn_v, qx_kn_n, Nat.add_zero, Bool.false_eq_true, ↓reduceIte]
    · have hlt' : isB (nI 97) (nI 122) (B s) = false := by
        have : ¬ isB (nI 97) (nI 122) (B s) = true := hlt
        simpa using this
      rw [hlt'] at h32a
      by_cases hdg : isDg (B s) = true
      · have hdg' : isB (nI 48) (nI 57) (B s) = true := hdg
        rw [hdg'] at h32b
        have hE : tkE B N s = rnk isDg B (N - s) s := by unfold tkE; rw [if_neg hsN, if_neg hlt, if_pos hdg]
        have hEle := tkE_le (B := B) (show s ≤ N by omega)
        obtain ⟨M3, g3, c3, f3⟩ := m29l (L := L) (xs := xs) (d := d) (lo := nI 48) (hi := nI 57) hN (N - s) s 0 M2 (by omega) c2
        have hE' : rnk (isB (nI 48) (nI 57)) B (N - s) s = tkE B N s := hE.symm
        rw [hE'] at c3
        have h8 : M3.1 20 8 = nI s := by rw [f3.1 8 (by decide), h88]
        have hsub : nI (tkE B N s) - nI s = nI (tkE B N s - s) := pk_sub (by omega)
        have e2 : (nI 2 < nI (tkE B N s - s)) = ¬ (tkE B N s ≤ s + 2) := by
          rw [qi_lt (by decide) (by omega)]
          exact propext ⟨fun h => by omega, fun h => by omega⟩
        have F3 := q20_trans F1 (q20_trans u0 (q20_mono f3 (fun j h => by unfold qtF; omega)))
        by_cases h2 : tkE B N s ≤ s + 2
        · have hK : tkK B N s = 2 := by unfold tkK; rw [if_neg hsN, if_neg hlt, if_pos hdg, if_pos h2]
          have t2 : (nI 2 < nI (tkE B N s - s)) = False := by rw [e2]; exact eq_false (fun w => w h2)
          have c4 : cPo (qx_up M3 20 7 (nI 2)) B N (tkE B N s) := cPo_fr (R := fun j => j = 7) c3 (q20_up _ _ _ rfl) (by decide) (by decide)
          have h8' : (qx_up M3 20 7 (nI 2)).1 20 8 = nI s := by rw [qx_up_at, if_neg (by omega), h8]
          have h7' : (qx_up M3 20 7 (nI 2)).1 20 7 = nI 2 := qx_up_eq _ _ _ _
          have g30 := m30l (L := L) (xs := xs) (d := d + 1) hN hEle.2 c4 (tkE B N s - s) s 0 (nI 0) (by omega)
          have h30 : Rs L xs (d + 2) 30 0 [some (.ref 20), none, none] [] (qx_up M3 20 7 (nI 2)) 0 = some (.inl (some (.int (tkV B N s))), qx_up M3 20 7 (nI 2), 0) := by
            simp only [s30_0, s30_1i, s30_1r, s30_1n, s30_2, s30_3, s30_6i, s30_6r, s30_6n, k1, h8']
            exact g30
          refine ⟨qx_up (qx_up M3 20 7 (nI 2)) 20 9 (tkV B N s), ?_, ⟨cPo_fr (R := fun j => j = 9) c4 (q20_up _ _ _ rfl) (by decide) (by decide), ?_, ?_, fun _ => qx_up_eq _ _ _ _⟩, q20_trans F3 (q20_trans (q20_up _ _ _ (by unfold qtF; omega)) (q20_up _ _ _ (by unfold qtF; omega)))⟩
          · rw [g1, hhead]
            simp only [s28_45, s28_46, s28_49, s28_50, s28_53, s28_56, s28_57, s28_58, s28_61, s28_64, s28_65, s28_66, s28_69, s28_71, s28_73, s28_76, s28_113, s28_114, s28_115, s28_118, s28_120, s28_122, s28_125, s28_128, s28_129, s28_131, s28_133, s28_136, s28_137, s28_138, s28_141, s28_142, s28_145, s28_146, s28_147, s28_150, s28_151, s28_154, s28_155, s28_158, s28_159, s28_160, s28_163, s28_164, s28_167, s28_168, s28_171, s28_174, s28_175, s28_178, s28_213, k1, c2.1, c2.2.1, h1, h32a, h32b, qbf, qbt, g3, c3.2.1, h8, hsub, t2, h7', h30, List.length_cons, List.length_nil, Nat.zero_le, Nat.reduceAdd, Nat.reduceLeDiff, Option.bind_some, qx_kn_v, qx_kn_n, Nat.add_zero, Bool.false_eq_true, ↓reduceIte]
          · rw [qx_up_at, if_neg (by omega), h7', hK]
          · rw [qx_up_at, if_neg (by omega), h8']
        · have hK : tkK B N s = 0 := by unfold tkK; rw [if_neg hsN, if_neg hlt, if_pos hdg, if_neg h2]
          have t2 : (nI 2 < nI (tkE B N s - s)) = True := by rw [e2]; exact eq_true h2
          have c4 : cPo (qx_up M3 20 7 (nI 0)) B N (tkE B N s) := cPo_fr (R := fun j => j = 7) c3 (q20_up _ _ _ rfl) (by decide) (by decide)
          have h8' : (qx_up M3 20 7 (nI 0)).1 20 8 = nI s := by rw [qx_up_at, if_neg (by omega), h8]
          have h7' : (qx_up M3 20 7 (nI 0)).1 20 7 = nI 0 := qx_up_eq _ _ _ _
          have h02 : (nI 0 = nI 2) = False := by decide
          refine ⟨qx_up (qx_up M3 20 7 (nI 0)) 20 9 (nI 0), ?_, ⟨cPo_fr (R := fun j => j = 9) c4 (q20_up _ _ _ rfl) (by decide) (by decide), ?_, ?_, fun h => absurd h (by rw [hK]; decide)⟩, q20_trans F3 (q20_trans (q20_up _ _ _ (by unfold qtF; omega)) (q20_up _ _ _ (by unfold qtF; omega)))⟩
          · rw [g1, hhead]
            simp only [s28_45, s28_46, s28_49, s28_50, s28_53, s28_56, s28_57, s28_58, s28_61, s28_64, s28_65, s28_66, s28_69, s28_71, s28_73, s28_76, s28_113, s28_114, s28_115, s28_118, s28_120, s28_122, s28_125, s28_128, s28_129, s28_131, s28_133, s28_136, s28_137, s28_138, s28_141, s28_142, s28_145, s28_146, s28_147, s28_150, s28_151, s28_154, s28_155, s28_158, s28_159, s28_160, s28_163, s28_164, s28_167, s28_168, s28_171, s28_174, s28_175, s28_178, s28_213, k1, c2.1, c2.2.1, h1, h32a, h32b, qbf, qbt, g3, c3.2.1, h8, hsub, t2, h7', h02, List.length_cons, List.length_nil, Nat.zero_le, Nat.reduceAdd, Nat.reduceLeDiff, Option.bind_some, qx_kn_v, qx_kn_n, Nat.add_zero, Bool.false_eq_true, ↓reduceIte]
          · rw [qx_up_at, if_neg (by omega), h7', hK]
          · rw [qx_up_at, if_neg (by omega), h8']
      · have hdg' : isB (nI 48) (nI 57) (B s) = false := by
          have : ¬ isB (nI 48) (nI 57) (B s) = true := hdg
          simpa using this
        rw [hdg'] at h32b
        have hE : tkE B N s = s + 1 := by unfold tkE; rw [if_neg hsN, if_neg hlt, if_neg hdg]
        have h33 := m33 (L := L) (xs := xs) (d := d + 2) (x := 0) (M := M2) (show s < 500 by omega)
        rw [c2.2.2 s (by omega)] at h33
        have fin : ∀ kk, tkK B N s = kk → kk ≠ 2 → cTk (qx_up (qx_up M2 20 7 (nI kk)) 20 6 (nI (s + 1))) B N s ∧ q20 qtF M (qx_up (qx_up M2 20 7 (nI kk)) 20 6 (nI (s + 1))) := fun kk hk hk2 => ⟨⟨by
          rw [hE]
          exact cPo_up (cPo_fr (R := fun j => j = 7) c2 (q20_up _ _ _ rfl) (by decide) (by decide)) (q20_up _ _ _ rfl) (qx_up_eq _ _ _ _), by rw [qx_up_at, if_neg (by omega), qx_up_eq, hk], by rw [qx_up_at, if_neg (by omega), qx_up_at, if_neg (by omega), h88], fun h => absurd (hk ▸ h) hk2⟩, q20_trans F1 (q20_trans u0 (q20_trans (q20_up _ _ _ (by unfold qtF; omega)) (q20_up _ _ _ (by unfold qtF; omega))))⟩
        have h66 : ∀ v, (qx_up M2 20 7 v).1 20 6 = nI s := fun v => by rw [qx_up_at, if_neg (by omega), c2.2.1]
        by_cases h59 : B s = nI 59
        · have hK : tkK B N s = 3 := by unfold tkK; rw [if_neg hsN, if_neg hlt, if_neg hdg, if_pos h59]
          have t : (B s = nI 59) = True := eq_true h59
          refine ⟨_, ?_, (fin 3 hK (by decide)).1, (fin 3 hK (by decide)).2⟩
          rw [g1, hhead]
          simp only [s28_45, s28_46, s28_49, s28_50, s28_53, s28_56, s28_57, s28_58, s28_61, s28_64, s28_65, s28_66, s28_69, s28_71, s28_73, s28_76, s28_113, s28_114, s28_115, s28_118, s28_120, s28_122, s28_125, s28_181, s28_182, s28_183, s28_184, s28_187, s28_190, s28_192, s28_195, s28_196, s28_199, s28_200, s28_203, s28_204r, s28_204i, s28_205, s28_208, s28_209, s28_210, s28_213, k1, c2.1, c2.2.1, h1, h32a, h32b, qbf, h33, t, h66, nI_add, List.length_cons, List.length_nil, Nat.zero_le, Nat.reduceAdd, Nat.reduceLeDiff, Option.bind_some, qx_kn_v, qx_kn_n, Nat.add_zero, Bool.false_eq_true, ↓reduceIte]
        · have hK : tkK B N s = 0 := by unfold tkK; rw [if_neg hsN, if_neg hlt, if_neg hdg, if_neg h59]
          have t : (B s = nI 59) = False := eq_false h59
          refine ⟨_, ?_, (fin 0 hK (by decide)).1, (fin 0 hK (by decide)).2⟩
          rw [g1, hhead]
          simp only [s28_45, s28_46, s28_49, s28_50, s28_53, s28_56, s28_57, s28_58, s28_61, s28_64, s28_65, s28_66, s28_69, s28_71, s28_73, s28_76, s28_113, s28_114, s28_115, s28_118, s28_120, s28_122, s28_125, s28_181, s28_182, s28_183, s28_184, s28_187, s28_190, s28_192, s28_195, s28_196, s28_199, s28_200, s28_203, s28_204r, s28_204i, s28_205, s28_208, s28_209, s28_210, s28_213, k1, c2.1, c2.2.1, h1, h32a, h32b, qbf, h33, t, h66, nI_add, List.length_cons, List.length_nil, Nat.zero_le, Nat.reduceAdd, Nat.reduceLeDiff, Option.bind_some, qx_kn_v, qx_kn_n, Nat.add_zero, Bool.false_eq_true, ↓reduceIte]
end QL
