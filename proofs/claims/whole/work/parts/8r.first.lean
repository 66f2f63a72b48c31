/-! firstMate. -/
/-- without a pupil and its mate -/
def nxl (l q m : Nat) : Nat := if m < 14 then qd (qd l q) m else qd l q
theorem nxl_sub {l q m j : Nat} (h : (nxl l q m).testBit j = true) : l.testBit j = true ∧ q ≠ j := by
  unfold nxl at h
  by_cases z : m < 14
  · rw [if_pos z] at h
    exact qd_in.mp (qd_in.mp h).1
  · rw [if_neg z] at h
    exact qd_in.mp h
theorem nxl_pc {l q m : Nat} (hl : l < 16384) (hq : l.testBit q = true) : qb_pc (nxl l q m) < qb_pc l := by
  have h1 := qd_pc hq (qj hl hq)
  have h2 : qb_pc (nxl l q m) ≤ qb_pc (qd l q) := by
    unfold qb_pc
    exact fb_ct_sub (fun k _ hk => qd_in.mpr (nxl_sub hk))
  omega
/-- the mate of p in the first pairing of a set -/
def fmz (al : Nat → Nat) : Nat → Nat → Nat → Int32
  | 0, _, _ => -1
  | k + 1, l, p => if l = 0 then -1 else if qb_lo l = p then qz (fm al l (qb_lo l)) else if fm al l (qb_lo l) = p then nI (qb_lo l) else fmz al k (nxl l (qb_lo l) (fm al l (qb_lo l))) p
theorem fm_le (al : Nat → Nat) (l q : Nat) : fm al l q ≤ 14 := fa_first_le _ _
theorem qz_eqp {m p : Nat} (hm : m ≤ 14) (hp : p < 14) : (qz m = nI p) = (m = p) := by
  by_cases z : m < 14
  · rw [qz_lt z, qi_eq (by omega) (by omega)]
  · rw [qz_ge z]
    refine propext ⟨fun h => ?_, fun h => absurd h (by omega)⟩
    have := qi_n1 (show p < 2 ^ 31 by omega)
    rw [← h] at this
    exact (this ▸ rfl : False).elim
theorem nxl_int {l q m : Nat} (hq : q < 14) (hm : m ≤ 14) {L : Nat} {xs : Nat → Int32} {d : Nat} {M : qxM} : ∃ w, Rs L xs d 169 0 [some (.int (qz m))] [] M 0 = some (.inl (some (.int w)), M, 0) ∧ nI l &&& ((nI (2 ^ q) ||| w) ^^^ (-1)) = nI (nxl l q m) := by
  unfold nxl
  by_cases z : m < 14
  · rw [qz_lt z, if_pos z]
    refine ⟨nI (2 ^ m), m169 (by omega), ?_⟩
    rw [qb_or, qb_andn]
    congr 1
    refine Nat.eq_of_testBit_eq (fun j => ?_)
    rw [qb_dif_bit, Nat.testBit_or, qd_bit, qd_bit, qb_two, qb_two]
    cases l.testBit j <;> cases decide (q = j) <;> cases decide (m = j) <;> rfl
  · rw [qz_ge z, if_neg z]
    refine ⟨nI 0, m169n, ?_⟩
    rw [qb_or, Nat.or_zero, qb_andn]
    rfl
section QL
variable {L : Nat} {xs : Nat → Int32} {al : Nat → Nat} {st all : Nat}
theorem a131l {d p : Nat} (ha : qAl al) (hst : st < 100000) (hp : p < 14) : ∀ (k i x l f : Nat) (M : qxM) (a5 : Option Value), i + k = 14 → l < 16384 → (∀ j, l.testBit j = true → i ≤ j) → qb_pc l ≤ f → qTs al st all M →
    ∃ M', Rs L xs (d + 19) 131 24 [some (.ref 10), some (.int (nI p)), some (.ref 40), some (.int (nI l)), some (.int (nI i)), a5] [] M x = some (.inl (some (.int (fmz al f l p))), M', x) ∧ qTs al st all M' ∧ qf qMm M M' := by
  intro k
  induction k with
  | zero =>
    intro i x l f M a5 hi hl hb hf hT
    have e : i = 14 := by omega
    subst e
    have h1 : (nI 14 ≤ nI 14) = True := eq_true (Int32.le_refl _)
    have h0 : l = 0 := qb_pc0 hl (fun j y => by
      have := qj hl y
      have := hb j y
      omega)
    have hz : fmz al f l p = -1 := by
      rw [h0]
      cases f with
      | zero => rfl
      | succ f => exact if_pos rfl
    refine ⟨M, ?_, hT, qf_refl _ _⟩
    rw [hz]
    simp only [s131_24, s131_26, s131_28, s131_97, s131_98, h1, ↓reduceIte]
  | succ k ih =>
    intro i x l f M a5 hi hl hb hf hT
    have hi14 : i < 14 := by omega
    have h1 : ¬ nI 14 ≤ nI i := nI_ge hi14 (by decide)
    have h170 := m170 (L := L) (xs := xs) (d := d + 18) (x := 0) (M := M) (show l < 2 ^ 31 by omega) (show i < 31 by omega)
    have hi1 : nI i + nI 1 = nI (i + 1) := nI_add _ _
    cases z : l.testBit i
    · rw [z] at h170
      obtain ⟨M2, g2, c2, f2⟩ := ih (i + 1) x l f M a5 (by omega) hl (fun j hj => by
        have := hb j hj
        by_cases e : j = i
        · rw [e, z] at hj
          cases hj
        · omega) hf hT
      refine ⟨M2, ?_, c2, f2⟩
      simp only [s131_24, s131_26, s131_28, s131_31, s131_32, s131_34, s131_37, s131_40, s131_41, s131_42, s131_44, s131_47i, s131_47r, s131_47n, s131_49, s131_51, s131_52, s131_55, s131_57, s131_58, s131_61, s131_63, s131_64, s131_67, s131_69, s131_72, s131_74, s131_75, s131_76, s131_78, s131_81, s131_83, s131_86, s131_87, s131_88, s131_89, s131_90i, s131_90r, s131_90n, s131_91i, s131_91r, s131_91n, h1, h170, qbf, hi1, List.length_cons, List.length_nil, Nat.zero_le, Nat.reduceAdd, Nat.reduceLeDiff, Option.bind_some, qx_kn_v, qx_kn_n, Nat.add_zero, Bool.false_eq_true, ↓reduceIte]
      rw [s131_94, g2]
    · rw [z] at h170
      have hlo : qb_lo l = i := fa_first_is hi14 z (fun j hj => by
        cases y : l.testBit j
        · rfl
        · have := hb j y
          omega)
      have h0 : ¬ l = 0 := fun y => by
        rw [y] at z
        exact zb z
      have hpc := qd_pc z hi14
      obtain ⟨f, rfl⟩ : ∃ f', f = f' + 1 := ⟨f - 1, by omega⟩
      obtain ⟨M1, g1, c1, f1⟩ := m16 (L := L) (xs := xs) (d := d) (x := 0) (p := i) ha hst hl hi14 hT
      have hmle := fm_le al l i
      have e1 : (nI i = nI p) = (i = p) := qi_eq (by omega) (by omega)
      have e2 := qz_eqp hmle hp
      unfold fmz
      rw [if_neg h0, hlo]
      by_cases y1 : i = p
      · refine ⟨M1, ?_, c1, f1⟩
        rw [if_pos y1]
        have t1 : (nI i = nI p) = True := by rw [e1]; exact eq_true y1
        simp only [s131_24, s131_26, s131_28, s131_31, s131_32, s131_34, s131_37, s131_40, s131_41, s131_42, s131_44, s131_47i, s131_47r, s131_47n, s131_49, s131_51, s131_52, s131_55, s131_57, s131_58, s131_61, s131_63, s131_64, s131_67, s131_69, s131_72, s131_74, qx_m40, h1, h170, qbt, g1, t1, List.length_cons, List.length_nil, Nat.zero_le, Nat.reduceAdd, Nat.reduceLeDiff, Option.bind_some, qx_kn_v, qx_kn_n, Nat.add_zero, Bool.false_eq_true, ↓reduceIte]
      · rw [if_neg y1]
        have t1 : (nI i = nI p) = False := by rw [e1]; exact eq_false y1
        by_cases y2 : fm al l i = p
        · refine ⟨M1, ?_, c1, f1⟩
          rw [if_pos y2]
          have t2 : (qz (fm al l i) = nI p) = True := by rw [e2]; exact eq_true y2
          simp only [s131_24, s131_26, s131_28, s131_31, s131_32, s131_34, s131_37, s131_40, s131_41, s131_42, s131_44, s131_47i, s131_47r, s131_47n, s131_49, s131_51, s131_52, s131_55, s131_57, s131_58, s131_61, s131_63, s131_64, s131_67, s131_69, s131_72, s131_74, qx_m40, h1, h170, qbt, g1, t1, t2, List.length_cons, List.length_nil, Nat.zero_le, Nat.reduceAdd, Nat.reduceLeDiff, Option.bind_some, qx_kn_v, qx_kn_n, Nat.add_zero, Bool.false_eq_true, ↓reduceIte]
        · rw [if_neg y2]
          have t2 : (qz (fm al l i) = nI p) = False := by rw [e2]; exact eq_false y2
          obtain ⟨w, w1, w2⟩ := nxl_int (L := L) (xs := xs) (d := d + 18) (M := M1) (l := l) (q := i) (m := fm al l i) hi14 hmle
          obtain ⟨M2, g2, c2, f2⟩ := ih (i + 1) x (nxl l i (fm al l i)) f M1 (some (.int (qz (fm al l i)))) (by omega) (qs_lt hl (fun j hj => (nxl_sub hj).1)) (fun j hj => by
            have h := nxl_sub hj
            have := hb j h.1
            have := h.2
            omega) (by have := nxl_pc (m := fm al l i) hl z; omega) c1
          refine ⟨M2, ?_, c2, qf_trans f1 f2⟩
          simp only [s131_24, s131_26, s131_28, s131_31, s131_32, s131_34, s131_37, s131_40, s131_41, s131_42, s131_44, s131_47i, s131_47r, s131_47n, s131_49, s131_51, s131_52, s131_55, s131_57, s131_58, s131_61, s131_63, s131_64, s131_67, s131_69, s131_72, s131_74, s131_75, s131_76, s131_78, s131_81, s131_83, s131_86, s131_87, s131_88, s131_89, s131_90i, s131_90r, s131_90n, s131_91i, s131_91r, s131_91n, qx_m40, h1, h170, qbt, g1, t1, t2, m169 (show i < 31 by omega), w1, w2, hi1, List.length_cons, List.length_nil, Nat.zero_le, Nat.reduceAdd, Nat.reduceLeDiff, Option.bind_some, qx_kn_v, qx_kn_n, Nat.add_zero, Bool.false_eq_true, ↓reduceIte]
          rw [s131_94, g2]
theorem m298l {d n s p : Nat} {M : qxM} (ha : qAl al) (hs : s < 2 ^ n) (hn14 : n ≤ 14) (hl : qLay al n M) (hp : p < 14) : ∀ (k x l : Nat) (a4 : Option Value), qb_pc l = k → l < 16384 → (∀ j, l.testBit j = true → (qd s p &&& al p).testBit j = true) → (∀ j, (qd s p &&& al p).testBit j = true → ¬ l.testBit j = true → fmP al s p j = false) → (∀ i j, l.testBit i = true → (qd s p &&& al p).testBit j = true → ¬ l.testBit j = true → j < i) →
    Rs L xs (d + 2) 298 18 [some (.ref 400), some (.int (nI s)), some (.int (nI (qd s p))), some (.int (nI l)), a4] [] M x = some (.inl (some (.int (qz (fm al s p)))), M, x) := by
  obtain ⟨k1, k2, k3⟩ := qx_m400
  obtain ⟨y1, y2, y3, y4, y5, y6⟩ := qx_m407
  have h16 := n14 hn14
  have hs16 : s < 16384 := by omega
  have hnone : ∀ j, ¬ (qd s p &&& al p).testBit j = true → fmP al s p j = false := fun j h => by
    unfold fmP
    have : (qd s p &&& al p).testBit j = false := by simpa using h
    rw [this, Bool.false_and]
  intro k
  induction k with
  | zero =>
    intro x l a4 hk hl16 hsub hno hord
    have h0 : l = 0 := qb_pc0 hl16 (fun j y => absurd (qd_pc y (qj hl16 y)) (by omega))
    subst h0
    have e : fm al s p = 14 := fa_first_out (fun j _ => by
      by_cases z : (qd s p &&& al p).testBit j = true
      · exact hno j z zb
      · exact hnone j z)
    rw [e]
    simp only [s298_18, s298_19, s298_64, s298_65, qi_z0, ↓reduceIte]
    rfl
  | succ k ih =>
    intro x l a4 hk hl16 hsub hno hord
    have h0 : ¬ l = 0 := fun y => by
      rw [y, qb_pc_0] at hk
      omega
    have z0 : ¬ nI l = 0 := nI_ne0 (by omega) (by omega)
    obtain ⟨l1, l2, l3, l4, l5⟩ := qb_lw_ok hl16 (Nat.pos_of_ne_zero h0)
    have hle : qb_dif (qd s p) (2 ^ qb_lo l) ≤ s := pc_le_of (fun j hj => (qd_in.mp (qm_in.mp hj).1).1)
    obtain ⟨c1, c2⟩ := qc_i (show qb_dif (qd s p) (2 ^ qb_lo l) < 16384 by omega)
    obtain ⟨c3, c4⟩ := qc_i hs16
    have r1 := (hl.2 (qb_dif (qd s p) (2 ^ qb_lo l)) (by omega)).1
    have r2 := (hl.2 s hs).1
    have h210 := m210 (L := L) (xs := xs) (d := d) (x := 0) (M := M) hl16 (Nat.pos_of_ne_zero h0)
    have hl1 : nI l - nI 1 = nI (l - 1) := pk_sub (by omega)
    have e : (nI (mF al (qb_dif (qd s p) (2 ^ qb_lo l)) + 1) = nI (mF al s)) = (mF al (qd (qd s p) (qb_lo l)) + 1 = mF al s) := qi_eq (by have := F_7 (al := al) (show qb_dif (qd s p) (2 ^ qb_lo l) < 16384 by omega); omega) (by have := F_7 (al := al) hs16; omega)
    have hm1 : nI (mF al (qb_dif (qd s p) (2 ^ qb_lo l))) + nI 1 = nI (mF al (qb_dif (qd s p) (2 ^ qb_lo l)) + 1) := nI_add _ _
    by_cases y : mF al (qd (qd s p) (qb_lo l)) + 1 = mF al s
    · have t1 : (nI (mF al (qb_dif (qd s p) (2 ^ qb_lo l)) + 1) = nI (mF al s)) = True := by rw [e]; exact eq_true y
      have hf : fm al s p = qb_lo l := fa_first_is l1 (by unfold fmP; rw [hsub _ l2, decide_eq_true y]; rfl) (fun j hj => by
        by_cases z : (qd s p &&& al p).testBit j = true
        · by_cases w : l.testBit j = true
          · have := fa_first_no l.testBit 14 j hj
            rw [w] at this
            cases this
          · exact hno j z w
        · exact hnone j z)
      rw [hf, qz_lt l1]
      simp only [s298_18, s298_19, s298_22, s298_23, s298_24, s298_25, s298_26, s298_27, s298_28, s298_29, s298_30i, s298_30r, s298_30n, s298_32, s298_33, s298_36, s298_38, s298_38z, s298_39, s298_40, s298_41, s298_42, s298_45, s298_46, s298_46z, s298_47, s298_50, s298_51, s298_54, z0, l3, qb_andn, k1, y1, y2, c1, c2, c3, c4, r1, r2, hm1, t1, h210, List.length_cons, List.length_nil, Nat.zero_le, Nat.reduceAdd, Nat.reduceLeDiff, Option.bind_some, qx_kn_v, qx_kn_n, Nat.add_zero, Bool.false_eq_true, ↓reduceIte]
    · have t1 : (nI (mF al (qb_dif (qd s p) (2 ^ qb_lo l)) + 1) = nI (mF al s)) = False := by rw [e]; exact eq_false y
      have hp1 := qd_pc l2 l1
      have g := ih x (qd l (qb_lo l)) (some (.int (nI (qb_dif (qd s p) (2 ^ qb_lo l))))) (by omega) (qd_14 hl16) (fun j hj => hsub j (qd_in.mp hj).1) (fun j hj hn => by
        by_cases w : j = qb_lo l
        · rw [w]
          unfold fmP
          rw [decide_eq_false y, Bool.and_false]
        · exact hno j hj (fun v => hn (qd_in.mpr ⟨v, Ne.symm w⟩))) (fun i j hi hj hn => by
        have hi2 := qd_in.mp hi
        by_cases w : j = qb_lo l
        · rw [w]
          rcases Nat.lt_trichotomy (qb_lo l) i with v | v | v
          · exact v
          · exact absurd v hi2.2
          · have := fa_first_no l.testBit 14 i v
            rw [hi2.1] at this
            cases this
        · exact hord i j hi2.1 hj (fun v => hn (qd_in.mpr ⟨v, Ne.symm w⟩)))
      simp only [s298_18, s298_19, s298_22, s298_23, s298_24, s298_25, s298_26, s298_27, s298_28, s298_29, s298_30i, s298_30r, s298_30n, s298_32, s298_33, s298_36, s298_38, s298_38z, s298_39, s298_40, s298_41, s298_42, s298_45, s298_46, s298_46z, s298_47, s298_50, s298_51, s298_54, s298_55, s298_56, s298_57, s298_58, s298_59, s298_60i, s298_60r, s298_60n, z0, l3, qb_andn, k1, y1, y2, c1, c2, c3, c4, r1, r2, hm1, t1, hl1, fa_and, l4, List.length_cons, List.length_nil, Nat.zero_le, Nat.reduceAdd, Nat.reduceLeDiff, Option.bind_some, qx_kn_v, qx_kn_n, Nat.add_zero, Bool.false_eq_true, ↓reduceIte]
      rw [s298_61]
      exact g
theorem m298 {d x n s : Nat} {M : qxM} (ha : qAl al) (hs : s < 2 ^ n) (h0 : ¬ s = 0) (hn14 : n ≤ 14) (hl : qLay al n M) : Rs L xs (d + 2) 298 0 [some (.ref (400)), some (.int (nI s)), none, none, none] [] (M) x = some (.inl (some (.int (qz (fm al s (qb_lo s))))), M, x) := by
  obtain ⟨k1, k2, k3⟩ := qx_m400
  obtain ⟨y1, y2, y3, y4, y5, y6⟩ := qx_m407
  have h16 := n14 hn14
  have hs16 : s < 16384 := by omega
  obtain ⟨l1, l2, l3, l4, l5⟩ := qb_lw_ok hs16 (Nat.pos_of_ne_zero h0)
  have h210 := m210 (L := L) (xs := xs) (d := d) (x := 0) (M := M) hs16 (Nat.pos_of_ne_zero h0)
  have hs1 : nI s - nI 1 = nI (s - 1) := pk_sub (by omega)
  obtain ⟨c5, c6⟩ := qc_p l1
  have hr := hl.1 _ (qj_n hs l2)
  have hand : nI (al (qb_lo s)) &&& nI (qb_dif s (2 ^ qb_lo s)) = nI (qd s (qb_lo s) &&& al (qb_lo s)) := by
    rw [fa_and, Nat.and_comm]
    rfl
  have hs2 : nI s &&& nI (s - 1) = nI (qb_dif s (2 ^ qb_lo s)) := by rw [fa_and, l4]
  have g := m298l (L := L) (xs := xs) (d := d) (M := M) ha hs hn14 hl l1 _ x (qd s (qb_lo s) &&& al (qb_lo s)) none rfl (Nat.lt_of_le_of_lt Nat.and_le_left (qd_14 hs16)) (fun j h => h) (fun j h h' => absurd h h') (fun i j _ h h' => absurd h h')
  simp only [s298_0, s298_1, s298_2, s298_3, s298_4, s298_5i, s298_5r, s298_5n, s298_6, s298_7, s298_10, s298_11, s298_14, s298_15, s298_16, s298_17i, s298_17r, s298_17n, hs1, hs2, k1, y5, y6, h210, c5, c6, hr, hand, List.length_cons, List.length_nil, Nat.zero_le, Nat.reduceAdd, Nat.reduceLeDiff, Option.bind_some, qx_kn_v, qx_kn_n, Nat.add_zero, Bool.false_eq_true, ↓reduceIte]
  exact g
theorem m299l {d n p : Nat} {its : Int32} {M : qxM} (ha : qAl al) (hn14 : n ≤ 14) (hl : qLay al n M) (hp : p < 14) : ∀ (k x s : Nat) (a4 a5 : Option Value), qb_pc s ≤ k → s < 2 ^ n →
    Rs L xs (d + 3) 299 20 [some (.ref 400), some (.int (nI p)), some (.int its), some (.int (nI s)), a4, a5] [] M x = some (.inl (some (.int (fmz al k s p))), M, x) := by
  obtain ⟨k1, k2, k3⟩ := qx_m400
  have h16 := n14 hn14
  have hz : ∀ x a4 a5, Rs L xs (d + 3) 299 20 [some (.ref 400), some (.int (nI p)), some (.int its), some (.int (nI 0)), a4, a5] [] M x = some (.inl (some (.int (-1))), M, x) := fun x a4 a5 => by
    simp only [s299_20, s299_21, s299_90, s299_91, qi_z0, ↓reduceIte]
  intro k
  induction k with
  | zero =>
    intro x s a4 a5 hk hs
    have h0 : s = 0 := qb_pc0 (by omega) (fun j y => absurd (qd_pc y (qj (by omega) y)) (by omega))
    subst h0
    exact hz x a4 a5
  | succ k ih =>
    intro x s a4 a5 hk hs
    by_cases h0 : s = 0
    · subst h0
      exact hz x a4 a5
    have hs16 : s < 16384 := by omega
    have z0 : ¬ nI s = 0 := nI_ne0 (by omega) (by omega)
    obtain ⟨l1, l2, l3, l4, l5⟩ := qb_lw_ok hs16 (Nat.pos_of_ne_zero h0)
    have h210 := m210 (L := L) (xs := xs) (d := d + 1) (x := 0) (M := M) hs16 (Nat.pos_of_ne_zero h0)
    have h298 := m298 (L := L) (xs := xs) (d := d) (x := 0) (M := M) ha hs h0 hn14 hl
    have hmle := fm_le al s (qb_lo s)
    have e1 : (nI (qb_lo s) = nI p) = (qb_lo s = p) := qi_eq (by omega) (by omega)
    have e2 := qz_eqp hmle hp
    unfold fmz
    rw [if_neg h0]
    by_cases y1 : qb_lo s = p
    · rw [if_pos y1]
      have t1 : (nI (qb_lo s) = nI p) = True := by rw [e1]; exact eq_true y1
      simp only [s299_20, s299_21, s299_24, s299_25, s299_28i, s299_28r, s299_28n, s299_30, s299_31, s299_32, s299_35i, s299_35r, s299_35n, s299_37, s299_39, s299_40, s299_43, s299_45, s299_46, s299_49, s299_51, s299_52, s299_55, s299_57, s299_60, s299_62, k1, z0, h210, h298, t1, List.length_cons, List.length_nil, Nat.zero_le, Nat.reduceAdd, Nat.reduceLeDiff, Option.bind_some, qx_kn_v, qx_kn_n, Nat.add_zero, Bool.false_eq_true, ↓reduceIte]
    · rw [if_neg y1]
      have t1 : (nI (qb_lo s) = nI p) = False := by rw [e1]; exact eq_false y1
      by_cases y2 : fm al s (qb_lo s) = p
      · rw [if_pos y2]
        have t2 : (qz (fm al s (qb_lo s)) = nI p) = True := by rw [e2]; exact eq_true y2
        simp only [s299_20, s299_21, s299_24, s299_25, s299_28i, s299_28r, s299_28n, s299_30, s299_31, s299_32, s299_35i, s299_35r, s299_35n, s299_37, s299_39, s299_40, s299_43, s299_45, s299_46, s299_49, s299_51, s299_52, s299_55, s299_57, s299_60, s299_62, k1, z0, h210, h298, t1, t2, List.length_cons, List.length_nil, Nat.zero_le, Nat.reduceAdd, Nat.reduceLeDiff, Option.bind_some, qx_kn_v, qx_kn_n, Nat.add_zero, Bool.false_eq_true, ↓reduceIte]
      · rw [if_neg y2]
        have t2 : (qz (fm al s (qb_lo s)) = nI p) = False := by rw [e2]; exact eq_false y2
        have hlt : nxl s (qb_lo s) (fm al s (qb_lo s)) ≤ s := pc_le_of (fun j hj => (nxl_sub hj).1)
        have g := ih x (nxl s (qb_lo s) (fm al s (qb_lo s))) (some (.int (nI (qb_lo s)))) (some (.int (qz (fm al s (qb_lo s))))) (by have := nxl_pc (m := fm al s (qb_lo s)) hs16 l2; omega) (by omega)
        by_cases w : fm al s (qb_lo s) < 14
        · have hq : nxl s (qb_lo s) (fm al s (qb_lo s)) = qb_dif (qb_dif s (2 ^ qb_lo s)) (2 ^ fm al s (qb_lo s)) := if_pos w
          rw [hq] at g
          have t3 : (nI (fm al s (qb_lo s)) = -1) = False := qi_n1 (by omega)
          rw [hq]
          rw [qz_lt w] at h298 t2 g
          simp only [s299_20, s299_21, s299_24, s299_25, s299_28i, s299_28r, s299_28n, s299_30, s299_31, s299_32, s299_35i, s299_35r, s299_35n, s299_37, s299_39, s299_40, s299_43, s299_45, s299_46, s299_49, s299_51, s299_52, s299_55, s299_57, s299_60, s299_62, s299_63, s299_64, s299_65, s299_67, s299_68, s299_69, s299_70, s299_71i, s299_71r, s299_71n, s299_72, s299_74, s299_75, s299_78, s299_79, s299_80, s299_82, s299_83, s299_84, s299_85, s299_86i, s299_86r, s299_86n, k1, z0, h210, h298, t1, t2, t3, qb_shl (show qb_lo s < 32 by omega), qb_shl (show fm al s (qb_lo s) < 32 by omega), qb_andn, List.length_cons, List.length_nil, Nat.zero_le, Nat.reduceAdd, Nat.reduceLeDiff, Option.bind_some, qx_kn_v, qx_kn_n, Nat.add_zero, Bool.false_eq_true, ↓reduceIte]
          rw [s299_87, g]
        · have hq : nxl s (qb_lo s) (fm al s (qb_lo s)) = qb_dif s (2 ^ qb_lo s) := if_neg w
          rw [hq] at g
          have t3 : ((-1 : Int32) = -1) = True := eq_true rfl
          rw [hq]
          rw [qz_ge w] at h298 t2 g
          simp only [s299_20, s299_21, s299_24, s299_25, s299_28i, s299_28r, s299_28n, s299_30, s299_31, s299_32, s299_35i, s299_35r, s299_35n, s299_37, s299_39, s299_40, s299_43, s299_45, s299_46, s299_49, s299_51, s299_52, s299_55, s299_57, s299_60, s299_62, s299_63, s299_64, s299_65, s299_67, s299_68, s299_69, s299_70, s299_71i, s299_71r, s299_71n, s299_72, s299_74, s299_75, s299_78, s299_79, s299_80, s299_82, s299_83, s299_84, s299_85, s299_86i, s299_86r, s299_86n, k1, z0, h210, h298, t1, t2, t3, qb_shl (show qb_lo s < 32 by omega), qb_andn, List.length_cons, List.length_nil, Nat.zero_le, Nat.reduceAdd, Nat.reduceLeDiff, Option.bind_some, qx_kn_v, qx_kn_n, Nat.add_zero, Bool.false_eq_true, ↓reduceIte]
          rw [s299_87, g]
end QL
section QL
variable {L : Nat} {xs : Nat → Int32} {d x : Nat}
theorem j131 {M : qxM} {B : Nat} (hR : qREL M) (hT0 : qTab B M) (hB : B < 90000) (z : Int32) : qPairG Value.int B L xs (d + 40) 131 [some (.ref 10), some (.int z), none, none, none, none] 299 [some (.ref 400), some (.int z), none, none, none, none] ke02 M := by
  obtain ⟨k1, k2, k3⟩ := qx_m400
  rcases qREL_cmp hR with ⟨b1, b2, b3, b4⟩ | ⟨b1, b2, n, r, q, f, mt, s1, s2, s3, s4, st, rt, sp, bm, ou, inn, qb, e, as, qa, bs, lk, nr, fr, wy, hp, hn1, hT, hou, hinn, he14, hst4, hu, ⟨a1, a2, a3, a4⟩, hS, hm, ⟨v1, v2, v3, v4⟩, h35, hN⟩
  · refine qPairG_of hT0 hR 1 0 (by decide) ?_ ?_
    · rw [if_neg (by decide)]
      simp only [s131_0, s131_1, s131_2, qx_m10, a160t b1, List.length_cons, List.length_nil, Nat.zero_le, Nat.reduceAdd, Nat.reduceLeDiff, Option.bind_some, qx_kn_v, qx_kn_n, Nat.add_zero, Bool.false_eq_true, ↓reduceIte]
      exact qx_kn_t rfl rfl rfl
    · intro o
      refine ⟨nI 0, ?_, fun h => absurd h (by decide)⟩
      have h1 := fun (d : Nat) => b226a (L := L) (xs := xs) (d := d) (x := 0) (M := (M.1, o)) b2 b3 (by decide) z
      simp only [s299_0, s299_1, s299_2, s299_5, s299_8, s299_9, k1, h1, qbt, qbf, qi_z0, true_or, List.length_cons, List.length_nil, Nat.zero_le, Nat.reduceAdd, Nat.reduceLeDiff, Option.bind_some, qx_kn_v, qx_kn_n, Nat.add_zero, Bool.false_eq_true, ↓reduceIte]
  · have hn14 : n ≤ 14 := hp.1
    have hn0 : M.1 101 0 = nI n := hu.1
    by_cases hz : qOut n z
    · refine qPairG_of hT0 hR 2 0 (by decide) ?_ ?_
      · rw [if_neg (by decide)]
        simp only [s131_0, s131_1, s131_2, qx_m10, a160o b1 hn0 hz, List.length_cons, List.length_nil, Nat.zero_le, Nat.reduceAdd, Nat.reduceLeDiff, Option.bind_some, qx_kn_v, qx_kn_n, Nat.add_zero, Bool.false_eq_true, ↓reduceIte]
        exact qx_kn_t rfl rfl rfl
      · intro o
        refine ⟨nI 0, ?_, fun h => absurd h (by decide)⟩
        have h1 := fun (d : Nat) => b226b (L := L) (xs := xs) (d := d) (x := 0) (M := (M.1, o)) b2 hm.1 hn14 hz
        simp only [s299_0, s299_1, s299_2, s299_5, s299_8, s299_9, k1, h1, qbt, qbf, qi_z0, true_or, List.length_cons, List.length_nil, Nat.zero_le, Nat.reduceAdd, Nat.reduceLeDiff, Option.bind_some, qx_kn_v, qx_kn_n, Nat.add_zero, Bool.false_eq_true, ↓reduceIte]
    obtain ⟨p, p1, p2⟩ := qOut_not (by omega) hz
    subst p2
    have hp14 : p < 14 := by omega
    have hneed := fun (d x : Nat) => a160 (L := L) (xs := xs) (d := d) (x := x) b1 hn0 hn14 p1
    have hmay := fun (o : (Nat → Int64) × (Nat → UInt64)) (d : Nat) => b226c (L := L) (xs := xs) (d := d) (x := 0) (M := (M.1, o)) b2 hm.1 hn14 p1
    have hZ : qx_Z 104 := qx_T100.2.2
    have hP : qx_P 101 := qx_T100.2.1
    have hst0 : M.1 104 0 = nI st := hS.1.1
    have hst9 : ∀ {st : Nat}, st ≤ B + 1 → st < 100000 := fun h => by omega
    have hpos := Nat.two_pow_pos n
    have h16 := n14 hn14
    have hall : 2 ^ n - 1 < 16384 := by omega
    have ha := qal_ok hp hp.2.1
    obtain ⟨M1, st1, g1, s1, t1, f1⟩ := a168 (L := L) (xs := xs) (d := d + 36) (x := 0) hp hu hT0 hB
    have h36 := m36 (L := L) (xs := xs) (d := d + 38) (x := 0) (M := M1) hP (by rw [f1.1 101 (by unfold qFm; omega)]; exact hn0) hn14
    obtain ⟨M2, g2, t2, f2⟩ := a131l (L := L) (xs := xs) (d := d + 21) (p := p) ha (hst9 s1) hp14 14 0 0 (2 ^ n - 1) 14 M1 none (by omega) hall (fun j _ => Nat.zero_le j) (qb_pc_le _) t1
    have F := qf_trans f1 (qF_m f2)
    refine qPairG_mem hR (fmz (qal r q f) 14 (2 ^ n - 1) p) ?_ F (qTab_s ha s1 t2) (fun o => ?_)
    · simp only [s131_0, s131_1, s131_2, s131_5, s131_6, s131_9i, s131_9r, s131_9n, s131_10, s131_11, s131_14, s131_17, s131_20i, s131_20r, s131_20n, s131_21, s131_22i, s131_22r, s131_22n, qx_m10, qx_T100.1, hP.1, hneed, g1, h36, List.length_cons, List.length_nil, Nat.zero_le, Nat.reduceAdd, Nat.reduceLeDiff, Option.bind_some, qx_kn_v, qx_kn_n, Nat.add_zero, Bool.false_eq_true, ↓reduceIte]
      exact g2
    · have hu2 := nPu_F hm F o (nI 0)
      obtain ⟨M3, g3, l3, f3⟩ := m271 (L := L) (xs := xs) (d := d + 35) (x := 0) hp (al := qal r q f) (fun p _ => rfl) ha hu2
      have hn3 : M3.1 401 0 = nI n := by rw [f3.1 401 (by unfold qTb; omega)]; exact hu2.1
      have h212 := fun d => m212 (L := L) (xs := xs) (d := d) (x := 0) hn3 hn14
      have h226 := fun d => mo226 (L := L) (xs := xs) b2 hm.1 hn14 p1 F o d
      have g4 := m299l (L := L) (xs := xs) (d := d + 37) (p := p) (its := nI (mF (qal r q f) (2 ^ n - 1))) ha hn14 l3 hp14 14 0 (2 ^ n - 1) none none (qb_pc_le _) (by omega)
      refine ⟨M3, ?_, f3⟩
      simp only [s299_0, s299_1, s299_2, s299_5, s299_8, s299_9, s299_10, s299_11, s299_14i, s299_14r, s299_14n, s299_15, s299_16, s299_19i, s299_19r, s299_19n, k1, h226, qbt, g3, h212, List.length_cons, List.length_nil, Nat.zero_le, Nat.reduceAdd, Nat.reduceLeDiff, Option.bind_some, qx_kn_v, qx_kn_n, Nat.add_zero, Bool.false_eq_true, ↓reduceIte]
      exact g4
end QL
