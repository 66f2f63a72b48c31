/-! writeGroups. -/
/-- a set's text -/
def stx (s : Nat) : Nat → Nat → List Nat → List Nat
  | 0, _, T => T
  | k + 1, l, T => if l = 0 then T else stx s k (qd l (qb_lo l)) ((if l = s then T else T ++ [43]) ++ dg (qb_lo l))
theorem stx_0 (s : Nat) (T : List Nat) : ∀ k, stx s k 0 T = T
  | 0 => rfl
  | k + 1 => if_pos rfl
theorem stx_len (s : Nat) : ∀ (k l : Nat) (T : List Nat), l < 16384 → (stx s k l T).length ≤ T.length + 3 * qb_pc l
  | 0, l, T, _ => by
    show T.length ≤ _
    omega
  | k + 1, l, T, hl => by
    unfold stx
    by_cases z : l = 0
    · rw [if_pos z]
      omega
    · rw [if_neg z]
      obtain ⟨l1, l2, _⟩ := qb_lw_ok hl (Nat.pos_of_ne_zero z)
      have h1 := stx_len s k (qd l (qb_lo l)) ((if l = s then T else T ++ [43]) ++ dg (qb_lo l)) (qd_14 hl)
      have h2 := qd_pc l2 l1
      have h3 := dg_len (qb_lo l)
      rw [List.length_append] at h1
      by_cases y : l = s
      · rw [if_pos y] at h1 ⊢
        omega
      · rw [if_neg y, List.length_append, List.length_singleton] at h1
        rw [if_neg y]
        omega
theorem stx_len1 {s : Nat} (k : Nat) (T : List Nat) (hs : s < 16384) (h0 : ¬ s = 0) : (stx s (k + 1) s T).length + 1 ≤ T.length + 3 * qb_pc s := by
  unfold stx
  rw [if_neg h0, if_pos rfl]
  obtain ⟨l1, l2, _⟩ := qb_lw_ok hs (Nat.pos_of_ne_zero h0)
  have h1 := stx_len s k (qd s (qb_lo s)) (T ++ dg (qb_lo s)) (qd_14 hs)
  have h2 := qd_pc l2 l1
  have h3 := dg_len (qb_lo s)
  rw [List.length_append] at h1
  omega
def gr (bs : Nat → Nat) (p : Nat) : Nat := qb_of (fun q => bs q == bs p) 14
def rep (bs : Nat → Nat) (p : Nat) : Bool := decide (∀ q, q < p → bs q ≠ bs p)
def tgS (bs : Nat → Nat) (lab : Nat → Nat) (p : Nat) (T : List Nat) : List Nat := if rep bs p = true ∧ lab p ≠ 0 then stx (gr bs p) 14 (gr bs p) (sepl T 32) ++ [if lab p = 1 then 111 else 105] else T
def tgL (bs : Nat → Nat) (lab : Nat → Nat) : Nat → Nat → List Nat → List Nat
  | 0, _, T => T
  | k + 1, i, T => tgL bs lab k (i + 1) (tgS bs lab i T)
theorem gr_bit {bs : Nat → Nat} {p q : Nat} : (gr bs p).testBit q = true ↔ q < 14 ∧ bs q = bs p := by
  unfold gr
  rw [qb_of_bit, Bool.and_eq_true, decide_eq_true_eq, beq_iff_eq]
theorem gr_lt {bs : Nat → Nat} {p : Nat} : gr bs p < 16384 := qb_of_lt14 _ (Nat.le_refl _)
theorem grp_0 {bs : Nat → Nat} {p : Nat} (hp : p < 14) : ¬ gr bs p = 0 := fun y => by
  have : (gr bs p).testBit p = true := gr_bit.mpr ⟨hp, rfl⟩
  rw [y] at this
  exact zb this
theorem gr_lo {bs : Nat → Nat} {p : Nat} (hp : p < 14) : (qb_lo (gr bs p) = p) = (rep bs p = true) := by
  unfold rep
  rw [decide_eq_true_eq]
  apply propext
  constructor
  · intro h q hq e
    have h1 := fa_first_no (gr bs p).testBit 14 q (by
      show q < qb_lo (gr bs p)
      omega)
    rw [gr_bit.mpr ⟨by omega, e⟩] at h1
    cases h1
  · intro h
    exact fa_first_is hp (gr_bit.mpr ⟨hp, rfl⟩) (fun j hj => by
      cases y : (gr bs p).testBit j
      · rfl
      · exact absurd (gr_bit.mp y).2 (h j hj))
/-- whose groups have been met below i -/
def dn (bs : Nat → Nat) (i q : Nat) : Bool := decide (∃ q0, q0 < i ∧ bs q0 = bs q)
theorem dn_iff {bs : Nat → Nat} {i q : Nat} : dn bs i q = true ↔ ∃ q0, q0 < i ∧ bs q0 = bs q := by
  unfold dn
  rw [decide_eq_true_eq]
theorem dn_next {bs : Nat → Nat} {i : Nat} (hi : i < 14) (hr : rep bs i = true) : fb_ct (dn bs i) 14 + qb_pc (gr bs i) ≤ fb_ct (dn bs (i + 1)) 14 := by
  unfold qb_pc
  rw [← fb_ct_or (p := dn bs i) (q := (gr bs i).testBit) (fun k hk w => by
    obtain ⟨q0, h1, h2⟩ := dn_iff.mp w.1
    exact of_decide_eq_true hr q0 h1 (by rw [h2, (gr_bit.mp w.2).2]))]
  refine fb_ct_sub (fun k _ h => dn_iff.mpr ?_)
  rcases (Bool.or_eq_true _ _ ▸ h) with w | w
  · obtain ⟨q0, h1, h2⟩ := dn_iff.mp w
    exact ⟨q0, by omega, h2⟩
  · exact ⟨i, by omega, (gr_bit.mp w).2.symm⟩
theorem dn_mono {bs : Nat → Nat} {i : Nat} : fb_ct (dn bs i) 14 ≤ fb_ct (dn bs (i + 1)) 14 := fb_ct_sub (fun k _ h => by
  obtain ⟨q0, h1, h2⟩ := dn_iff.mp h
  exact dn_iff.mpr ⟨q0, by omega, h2⟩)
theorem tgS_len {bs lab : Nat → Nat} {i : Nat} (hi : i < 14) {T : List Nat} (h : T.length ≤ i + 3 * fb_ct (dn bs i) 14) : (tgS bs lab i T).length ≤ i + 1 + 3 * fb_ct (dn bs (i + 1)) 14 := by
  unfold tgS
  by_cases z : rep bs i = true ∧ lab i ≠ 0
  · rw [if_pos z, List.length_append, List.length_singleton]
    have h1 : (stx (gr bs i) 14 (gr bs i) (sepl T 32)).length + 1 ≤ (sepl T 32).length + 3 * qb_pc (gr bs i) := stx_len1 (s := gr bs i) 13 (sepl T 32) gr_lt (grp_0 hi)
    have h2 := sepl_len T 32
    have h3 := dn_next hi z.1
    omega
  · rw [if_neg z]
    have := dn_mono (bs := bs) (i := i)
    omega
section QL
variable {L : Nat} {xs : Nat → Int32}
theorem a82l {d s : Nat} (hs : s < 16384) : ∀ (k i x l f : Nat) (M : qxM) (T : List Nat), i + k = 14 → (∀ j, l.testBit j = true ↔ s.testBit j = true ∧ i ≤ j) → qb_pc l ≤ f → cTx M T → T.length + 3 * qb_pc l ≤ 64 →
    ∃ M', Rs L xs (d + 2) 82 2 [some (.ref (30)), some (.int (nI s)), some (.int (nI i))] [] (M) x = some (.inl (none), M', x) ∧ cTx M' (stx s f l T) ∧ qf qTX M M' := by
  obtain ⟨y1, _⟩ := qx_m30
  intro k
  induction k with
  | zero =>
    intro i x l f M T hi hl hf hT hlen
    have e : i = 14 := by omega
    subst e
    have h1 : (nI 14 ≤ nI 14) = True := eq_true (Int32.le_refl _)
    have h0 : l = 0 := qs_eq (fun j => ⟨fun w => by
      have a := (hl j).mp w
      have b := qj hs a.1
      omega, fun w => absurd w zb⟩)
    subst h0
    refine ⟨M, ?_, by rw [stx_0]; exact hT, qf_refl _ _⟩
    simp only [s82_2, s82_3, s82_5, s82_41, h1, ↓reduceIte]
  | succ k ih =>
    intro i x l f M T hi hl hf hT hlen
    have hi14 : i < 14 := by omega
    have h1 : ¬ nI 14 ≤ nI i := nI_ge hi14 (by decide)
    have h170 := fun M => m170 (L := L) (xs := xs) (d := d + 1) (x := 0) (M := M) (show s < 2 ^ 31 by omega) (show i < 31 by omega)
    have hi1 : nI i + nI 1 = nI (i + 1) := nI_add _ _
    have hl16 : l < 16384 := qs_lt hs (fun j h => ((hl j).mp h).1)
    cases w : s.testBit i
    · simp only [w] at h170
      obtain ⟨M2, g2, c2, f2⟩ := ih (i + 1) x l f M T (by omega) (fun j => by
        rw [hl j]
        constructor
        · rintro ⟨a, b⟩
          refine ⟨a, ?_⟩
          by_cases e : j = i
          · rw [e, w] at a
            cases a
          · omega
        · rintro ⟨a, b⟩
          exact ⟨a, by omega⟩) hf hT hlen
      refine ⟨M2, ?_, c2, f2⟩
      simp only [s82_2, s82_3, s82_5, s82_8, s82_9, s82_10, s82_13, s82_16, s82_17, s82_18, s82_21, s82_24, s82_25, s82_27, s82_30, s82_31, s82_32, s82_35i, s82_35r, s82_35n, h1, h170, qbf, hi1, List.length_cons, List.length_nil, Nat.zero_le, Nat.reduceAdd, Nat.reduceLeDiff, Option.bind_some, qx_kn_v, qx_kn_n, Nat.add_zero, Bool.false_eq_true, ↓reduceIte]
      rw [s82_38, g2]
    · simp only [w] at h170
      have hli : l.testBit i = true := (hl i).mpr ⟨w, Nat.le_refl _⟩
      have hlo : qb_lo l = i := fa_first_is hi14 hli (fun j hj => by
        cases y : l.testBit j
        · rfl
        · have := ((hl j).mp y).2
          omega)
      have h0 : ¬ l = 0 := fun y => by
        rw [y] at hli
        exact zb hli
      have hpc := qd_pc hli hi14
      obtain ⟨f, rfl⟩ : ∃ f', f = f' + 1 := ⟨f - 1, by omega⟩
      have h172 := fun M => m172 (L := L) (xs := xs) (d := d) (x := 0) (M := M) hs hi14
      have hsm : decide (s % 2 ^ i = 0) = decide (l = s) := decide_eq_decide.mpr (by
        rw [qb_mod0]
        constructor
        · intro h
          refine qs_eq (fun j => ?_)
          rw [hl j]
          refine ⟨fun h => h.1, fun h2 => ⟨h2, Nat.le_of_not_lt (fun y => ?_)⟩⟩
          rw [h j y] at h2
          cases h2
        · intro h q hq
          cases y : s.testBit q
          · rfl
          · have := ((hl q).mp (by rw [h]; exact y)).2
            omega)
      simp only [w, Bool.true_and, hsm] at h172
      have hd := dg_len i
      have hstep : stx s (f + 1) l T = stx s f (qd l i) ((if l = s then T else T ++ [43]) ++ dg i) := by
        show (if l = 0 then T else stx s f (qd l (qb_lo l)) ((if l = s then T else T ++ [43]) ++ dg (qb_lo l))) = _
        rw [if_neg h0, hlo]
      have hnl : ∀ j, (qd l i).testBit j = true ↔ s.testBit j = true ∧ i + 1 ≤ j := fun j => by
        rw [qd_in, hl j]
        constructor
        · rintro ⟨⟨a, b⟩, b2⟩
          exact ⟨a, by omega⟩
        · rintro ⟨a, b⟩
          exact ⟨⟨a, by omega⟩, by omega⟩
      rw [hstep]
      by_cases e : l = s
      · simp only [e, decide_true] at h172
        rw [if_pos e]
        obtain ⟨M1, g1, c1, f1⟩ := m81 (L := L) (xs := xs) (d := d) (x := 0) (v := i) hT hi14 (by omega)
        obtain ⟨M2, g2, c2, f2⟩ := ih (i + 1) x (qd l i) f M1 (T ++ dg i) (by omega) hnl (by omega) c1 (by rw [List.length_append]; omega)
        refine ⟨M2, ?_, c2, qf_trans f1 f2⟩
        simp only [s82_2, s82_3, s82_5, s82_8, s82_9, s82_10, s82_13, s82_16, s82_17, s82_18, s82_21, s82_24, s82_25, s82_27, s82_30, s82_31, s82_32, s82_35i, s82_35r, s82_35n, y1, h1, h170, qbt, h172, g1, hi1, List.length_cons, List.length_nil, Nat.zero_le, Nat.reduceAdd, Nat.reduceLeDiff, Option.bind_some, qx_kn_v, qx_kn_n, Nat.add_zero, Bool.false_eq_true, ↓reduceIte]
        rw [s82_38, g2]
      · have hdf : decide (l = s) = false := decide_eq_false e
        simp only [hdf] at h172
        rw [if_neg e]
        obtain ⟨M0, g0, c0, f0⟩ := m80 (L := L) (xs := xs) (d := d + 1) (x := 0) (c := 43) hT (by omega) (by decide)
        have l0 : (T ++ [43]).length = T.length + 1 := by rw [List.length_append, List.length_singleton]
        obtain ⟨M1, g1, c1, f1⟩ := m81 (L := L) (xs := xs) (d := d) (x := 0) (v := i) c0 hi14 (by omega)
        obtain ⟨M2, g2, c2, f2⟩ := ih (i + 1) x (qd l i) f M1 (T ++ [43] ++ dg i) (by omega) hnl (by omega) c1 (by rw [List.length_append]; omega)
        refine ⟨M2, ?_, c2, qf_trans f0 (qf_trans f1 f2)⟩
        simp only [s82_2, s82_3, s82_5, s82_8, s82_9, s82_10, s82_13, s82_16, s82_17, s82_18, s82_21, s82_24, s82_25, s82_27, s82_30, s82_31, s82_32, s82_35i, s82_35r, s82_35n, y1, h1, h170, qbt, qbf, h172, g0, g1, hi1, List.length_cons, List.length_nil, Nat.zero_le, Nat.reduceAdd, Nat.reduceLeDiff, Option.bind_some, qx_kn_v, qx_kn_n, Nat.add_zero, Bool.false_eq_true, ↓reduceIte]
        rw [s82_38, g2]
theorem a82 {d x s : Nat} {M : qxM} {T : List Nat} (hs : s < 16384) (hT : cTx M T) (hlen : T.length + 3 * qb_pc s ≤ 64) : ∃ M', Rs L xs (d + 2) 82 0 [some (.ref (30)), some (.int (nI s)), none] [] (M) x = some (.inl (none), M', x) ∧ cTx M' (stx s 14 s T) ∧ qf qTX M M' := by
  obtain ⟨M', g, c, f⟩ := a82l (L := L) (xs := xs) (d := d) hs 14 0 x s 14 M T (by omega) (fun j => ⟨fun h => ⟨h, Nat.zero_le j⟩, fun h => h.1⟩) (qb_pc_le s) hT hlen
  refine ⟨M', ?_, c, f⟩
  simp only [s82_0, s82_1i, s82_1r, s82_1n]
  exact g
theorem m314l {d s its : Nat} (hs : s < 16384) : ∀ (k x l : Nat) (M : qxM) (T : List Nat), qb_pc l ≤ k → l < 16384 → nTx M T → T.length + 3 * qb_pc l ≤ 64 →
    ∃ M', Rs L xs (d + 2) 314 15 [some (.ref 400), some (.int (nI s)), some (.int (nI its)), some (.int (nI l))] [] M x = Rs L xs (d + 2) 314 47 [some (.ref 400), some (.int (nI s)), some (.int (nI its)), some (.int (nI 0))] [] M' x ∧ nTx M' (stx s k l T) ∧ nf M M' := by
  obtain ⟨k1, k2, k3⟩ := qx_m400
  have hz : ∀ x M, Rs L xs (d + 2) 314 15 [some (.ref 400), some (.int (nI s)), some (.int (nI its)), some (.int (nI 0))] [] M x = Rs L xs (d + 2) 314 47 [some (.ref 400), some (.int (nI s)), some (.int (nI its)), some (.int (nI 0))] [] M x := fun x M => by
    simp only [s314_15, s314_16, qi_z0, ↓reduceIte]
  intro k
  induction k with
  | zero =>
    intro x l M T hk hl hT hlen
    have h0 : l = 0 := qb_pc0 hl (fun j y => absurd (qd_pc y (qj hl y)) (by omega))
    subst h0
    exact ⟨M, hz x M, hT, nf_refl M⟩
  | succ k ih =>
    intro x l M T hk hl hT hlen
    by_cases h0 : l = 0
    · subst h0
      exact ⟨M, hz x M, by rw [stx_0]; exact hT, nf_refl M⟩
    have z0 : ¬ nI l = 0 := nI_ne0 (by omega) (by omega)
    obtain ⟨l1, l2, l3, l4, l5⟩ := qb_lw_ok hl (Nat.pos_of_ne_zero h0)
    have hpc := qd_pc l2 l1
    have hl1 : nI l - nI 1 = nI (l - 1) := pk_sub (by omega)
    have hd := dg_len (qb_lo l)
    have h210 := fun M => m210 (L := L) (xs := xs) (d := d) (x := 0) (M := M) hl (Nat.pos_of_ne_zero h0)
    have e1 : (nI l = nI s) = (l = s) := qi_eq (by omega) (by omega)
    unfold stx
    rw [if_neg h0]
    by_cases e : l = s
    · have t : (nI l = nI s) = True := by rw [e1]; exact eq_true e
      rw [if_pos e]
      obtain ⟨M1, g1, c1, f1⟩ := m312 (L := L) (xs := xs) (d := d) (x := 0) (v := qb_lo l) hT l1 (by omega)
      obtain ⟨M2, g2, c2, f2⟩ := ih x (qd l (qb_lo l)) M1 (T ++ dg (qb_lo l)) (by omega) (qd_14 hl) c1 (by rw [List.length_append]; omega)
      refine ⟨M2, ?_, c2, nf_trans f1 f2⟩
      simp only [s314_15, s314_16, s314_19, s314_20, s314_21, s314_24, s314_25, s314_27, s314_30, s314_31, s314_32, s314_35, s314_38, s314_39, s314_40, s314_41, s314_42, s314_43i, s314_43r, s314_43n, k1, z0, t, h210, g1, hl1, fa_and, l4, List.length_cons, List.length_nil, Nat.zero_le, Nat.reduceAdd, Nat.reduceLeDiff, Option.bind_some, qx_kn_v, qx_kn_n, Nat.add_zero, Bool.false_eq_true, ↓reduceIte]
      rw [s314_44, ← g2]
      rfl
    · have t : (nI l = nI s) = False := by rw [e1]; exact eq_false e
      rw [if_neg e]
      obtain ⟨M0, g0, c0, f0⟩ := m311 (L := L) (xs := xs) (d := d + 1) (x := 0) (c := 43) hT (by omega) (by decide)
      have l0 : (T ++ [43]).length = T.length + 1 := by rw [List.length_append, List.length_singleton]
      obtain ⟨M1, g1, c1, f1⟩ := m312 (L := L) (xs := xs) (d := d) (x := 0) (v := qb_lo l) c0 l1 (by omega)
      obtain ⟨M2, g2, c2, f2⟩ := ih x (qd l (qb_lo l)) M1 (T ++ [43] ++ dg (qb_lo l)) (by omega) (qd_14 hl) c1 (by rw [List.length_append]; omega)
      refine ⟨M2, ?_, c2, nf_trans f0 (nf_trans f1 f2)⟩
      simp only [s314_15, s314_16, s314_19, s314_20, s314_21, s314_24, s314_25, s314_27, s314_30, s314_31, s314_32, s314_35, s314_38, s314_39, s314_40, s314_41, s314_42, s314_43i, s314_43r, s314_43n, k1, z0, t, h210, g0, g1, hl1, fa_and, l4, List.length_cons, List.length_nil, Nat.zero_le, Nat.reduceAdd, Nat.reduceLeDiff, Option.bind_some, qx_kn_v, qx_kn_n, Nat.add_zero, Bool.false_eq_true, ↓reduceIte]
      rw [s314_44, ← g2]
      rfl
theorem m314 {d x s its : Nat} {M : qxM} {T : List Nat} (hs : s < 16384) (h0 : ¬ s = 0) (hi : its < 3) (hT : nTx M T) (hlen : T.length + 1 + 3 * qb_pc s ≤ 64) : ∃ M', Rs L xs (d + 2) 314 0 [some (.ref (400)), some (.int (nI s)), some (.int (nI its)), none] [] (M) x = some (.inl (none), M', x) ∧ nTx M' (stx s 14 s (sepl T 32) ++ [if its = 1 then 111 else 105]) ∧ nf M M' := by
  obtain ⟨k1, k2, k3⟩ := qx_m400
  have l1 := sepl_len T 32
  have hsep : ∃ M1, nTx M1 (sepl T 32) ∧ nf M M1 ∧ (T.length = 0 → M1 = M) ∧ (T.length ≠ 0 → Rs L xs (d + 1) 311 0 [some (.ref 400), some (.int (nI 32))] [] M 0 = some (.inl none, M1, 0)) := by
    by_cases w : T.length = 0
    · exact ⟨M, by unfold sepl; rw [if_pos w]; exact hT, nf_refl M, fun _ => rfl, fun h => absurd w h⟩
    · obtain ⟨M2, g2, c2, f2⟩ := m311 (L := L) (xs := xs) (d := d + 1) (x := 0) (c := 32) hT (by omega) (by decide)
      exact ⟨M2, by unfold sepl; rw [if_neg w]; exact c2, f2, fun h => absurd h w, fun _ => g2⟩
  obtain ⟨M1, c1, f1, g1a, g1b⟩ := hsep
  obtain ⟨M2, g2, c2, f2⟩ := m314l (L := L) (xs := xs) (d := d) (its := its) hs 14 x s M1 (sepl T 32) (qb_pc_le s) hs c1 (by omega)
  have hl2 : (stx s 14 s (sepl T 32)).length + 1 ≤ (sepl T 32).length + 3 * qb_pc s := stx_len1 (s := s) 13 (sepl T 32) hs h0
  have e1 : (nI its = nI 1) = (its = 1) := qi_eq (by omega) (by decide)
  by_cases hi1 : its = 1
  · obtain ⟨M3, g3, c3, f3⟩ := m311 (L := L) (xs := xs) (d := d + 1) (x := 0) (c := 111) c2 (by omega) (by decide)
    have t : (nI its = nI 1) = True := by rw [e1]; exact eq_true hi1
    rw [if_pos hi1]
    refine ⟨M3, ?_, c3, nf_trans f1 (nf_trans f2 f3)⟩
    by_cases w : T.length = 0
    · have hz : (nI T.length ≤ 0) = True := by rw [w]; decide
      have e1 := g1a w
      subst e1
      simp only [s314_0, s314_1, s314_4, s314_7, s314_8, s314_10, s314_13, s314_14i, s314_14r, s314_14n, k1, hT.1, hz, List.length_cons, List.length_nil, Nat.zero_le, Nat.reduceAdd, Nat.reduceLeDiff, Option.bind_some, qx_kn_v, qx_kn_n, Nat.add_zero, Bool.false_eq_true, ↓reduceIte]
      rw [g2]
      simp only [s314_47, s314_48, s314_49, s314_50, s314_53, s314_55, s314_58, s314_60, s314_63, k1, t, g3, List.length_cons, List.length_nil, Nat.zero_le, Nat.reduceAdd, Nat.reduceLeDiff, Option.bind_some, qx_kn_v, qx_kn_n, Nat.add_zero, Bool.false_eq_true, ↓reduceIte]
    · have hz : (nI T.length ≤ 0) = False := eq_false (nI_nle (by omega) (by omega))
      simp only [s314_0, s314_1, s314_4, s314_7, s314_8, s314_10, s314_13, s314_14i, s314_14r, s314_14n, k1, hT.1, hz, g1b w, List.length_cons, List.length_nil, Nat.zero_le, Nat.reduceAdd, Nat.reduceLeDiff, Option.bind_some, qx_kn_v, qx_kn_n, Nat.add_zero, Bool.false_eq_true, ↓reduceIte]
      rw [g2]
      simp only [s314_47, s314_48, s314_49, s314_50, s314_53, s314_55, s314_58, s314_60, s314_63, k1, t, g3, List.length_cons, List.length_nil, Nat.zero_le, Nat.reduceAdd, Nat.reduceLeDiff, Option.bind_some, qx_kn_v, qx_kn_n, Nat.add_zero, Bool.false_eq_true, ↓reduceIte]
  · obtain ⟨M3, g3, c3, f3⟩ := m311 (L := L) (xs := xs) (d := d + 1) (x := 0) (c := 105) c2 (by omega) (by decide)
    have t : (nI its = nI 1) = False := by rw [e1]; exact eq_false hi1
    rw [if_neg hi1]
    refine ⟨M3, ?_, c3, nf_trans f1 (nf_trans f2 f3)⟩
    by_cases w : T.length = 0
    · have hz : (nI T.length ≤ 0) = True := by rw [w]; decide
      have e1 := g1a w
      subst e1
      simp only [s314_0, s314_1, s314_4, s314_7, s314_8, s314_10, s314_13, s314_14i, s314_14r, s314_14n, k1, hT.1, hz, List.length_cons, List.length_nil, Nat.zero_le, Nat.reduceAdd, Nat.reduceLeDiff, Option.bind_some, qx_kn_v, qx_kn_n, Nat.add_zero, Bool.false_eq_true, ↓reduceIte]
      rw [g2]
      simp only [s314_47, s314_48, s314_49, s314_50, s314_53, s314_55, s314_58, s314_60, s314_63, k1, t, g3, List.length_cons, List.length_nil, Nat.zero_le, Nat.reduceAdd, Nat.reduceLeDiff, Option.bind_some, qx_kn_v, qx_kn_n, Nat.add_zero, Bool.false_eq_true, ↓reduceIte]
    · have hz : (nI T.length ≤ 0) = False := eq_false (nI_nle (by omega) (by omega))
      simp only [s314_0, s314_1, s314_4, s314_7, s314_8, s314_10, s314_13, s314_14i, s314_14r, s314_14n, k1, hT.1, hz, g1b w, List.length_cons, List.length_nil, Nat.zero_le, Nat.reduceAdd, Nat.reduceLeDiff, Option.bind_some, qx_kn_v, qx_kn_n, Nat.add_zero, Bool.false_eq_true, ↓reduceIte]
      rw [g2]
      simp only [s314_47, s314_48, s314_49, s314_50, s314_53, s314_55, s314_58, s314_60, s314_63, k1, t, g3, List.length_cons, List.length_nil, Nat.zero_le, Nat.reduceAdd, Nat.reduceLeDiff, Option.bind_some, qx_kn_v, qx_kn_n, Nat.add_zero, Bool.false_eq_true, ↓reduceIte]
end QL
