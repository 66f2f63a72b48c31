/-! The Model lays all sets. -/
theorem qx_m407 : qx_kd 407 = 1 ∧ qx_ln 407 = 16384 ∧ qx_kd 408 = 0 ∧ qx_ln 408 = 16384 ∧ qx_kd 409 = 0 ∧ qx_ln 409 = 14 := by decide +kernel
theorem qi_b8 : ∀ m, m < 8 → (nI m).toInt8.toInt32 = nI m := by decide +kernel
theorem qc_i {s : Nat} (h : s < 16384) : qx_ib (nI s) 16384 = true ∧ (nI s).toNatClampNeg = s := ⟨qx_ib_of h (by decide), nI_clamp (by omega)⟩
theorem qc_p {s : Nat} (h : s < 14) : qx_ib (nI s) 14 = true ∧ (nI s).toNatClampNeg = s := ⟨qx_ib_of h (by decide), nI_clamp (by omega)⟩
/-- all sets are laid -/
def qLay (al : Nat → Nat) (n : Nat) (M : qxM) : Prop := (∀ p, p < n → M.1 409 p = nI (al p)) ∧ ∀ s, s < 2 ^ n → M.1 407 s = nI (mF al s) ∧ M.1 408 s = nI (mW al s)
def qTb (a : Nat) : Prop := a = 407 ∨ a = 408 ∨ a = 409
theorem qj_n {s n j : Nat} (hs : s < 2 ^ n) (h : s.testBit j = true) : j < n := by
  rcases Nat.lt_or_ge j n with q | q
  · exact q
  · rw [Nat.testBit_lt_two_pow (Nat.lt_of_lt_of_le hs (Nat.pow_le_pow_right (by decide) q))] at h
    cases h
theorem pc_le_of {X Y : Nat} (h : ∀ j, X.testBit j = true → Y.testBit j = true) : X ≤ Y := by
  have e : Y &&& X = X := Nat.eq_of_testBit_eq (fun j => by
    rw [Nat.testBit_and]
    cases a : X.testBit j
    · rw [Bool.and_false]
    · rw [h j a]
      rfl)
  rw [← e]
  exact Nat.and_le_left
theorem n14 {n : Nat} (h : n ≤ 14) : 2 ^ n ≤ 16384 := show 2 ^ n ≤ 2 ^ 14 from Nat.pow_le_pow_right (by decide) h
section QL
variable {L : Nat} {xs : Nat → Int32} {al : Nat → Nat} {n : Nat}
theorem m212 {d x : Nat} {M : qxM} (hn : M.1 401 0 = nI n) (hn2 : n ≤ 14) : Rs L xs (d) 212 0 [some (.ref (400))] [] (M) x = some (.inl (some (.int (nI (2 ^ n - 1)))), M, x) := by
  obtain ⟨k1, k2, k3⟩ := qx_m400
  simp only [s212_0, s212_1, s212_2, s212_5, s212_6, s212_7, s212_8, s212_9, s212_10, k1, k2, k3, hn, qb_shl (show n < 32 by omega), pk_sub Nat.one_le_two_pow, (qn_c (0) (by omega)).1, (qn_c (0) (by omega)).2]
theorem m270l {d s p : Nat} (ha : qAl al) (hs : s < 16384) (hp : s.testBit p = true) : ∀ (k l x m w : Nat) (M : qxM) (a7 a8 : Option Value), qb_pc l = k →
    (∀ j, l.testBit j = true → (al p &&& qd s p).testBit j = true) → Tp (pt al (qd s p) (fun q => (al p &&& qd s p).testBit q && !l.testBit q)) m w → (∀ t, t < s → M.1 407 t = nI (mF al t) ∧ M.1 408 t = nI (mW al t)) →
    ∃ b7 b8, Rs L xs d 270 37 [some (.ref 400), some (.int (nI s)), some (.int (nI p)), some (.int (nI (qd s p))), some (.int (nI m)), some (.int (nI w)), some (.int (nI l)), a7, a8] [] M x =
      Rs L xs d 270 120 [some (.ref 400), some (.int (nI s)), some (.int (nI p)), some (.int (nI (qd s p))), some (.int (nI (mF al s))), some (.int (nI (mW al s))), some (.int (nI 0)), b7, b8] [] M x := by
  obtain ⟨k1, k2, k3⟩ := qx_m400
  obtain ⟨y1, y2, y3, y4, y5, y6⟩ := qx_m407
  have hcin : ∀ q, (al p &&& qd s p).testBit q = true → (qe al p q && (qd s p).testBit q) = true := fun q h => by
    rw [Nat.testBit_and] at h
    exact h
  intro k
  induction k with
  | zero =>
    intro l x m w M a7 a8 hk hl hT hM
    have hl16 : l < 16384 := qs_lt (Y := al p &&& qd s p) (Nat.lt_of_le_of_lt Nat.and_le_right (qd_14 hs)) hl
    have h0 : l = 0 := qb_pc0 hl16 (fun j y => absurd (qd_pc y (qj hl16 y)) (by omega))
    subst h0
    obtain ⟨e1, e2⟩ := pt_end ha.1 hs hp hT (fun q _ => by
      rw [Nat.zero_testBit, Bool.not_false, Bool.and_true, Nat.testBit_and]
      rfl)
    subst e1 e2
    refine ⟨a7, a8, ?_⟩
    simp only [s270_37, s270_39, qi_z0, ↓reduceIte]
  | succ k ih =>
    intro l x m w M a7 a8 hk hl hT hM
    have hl16 : l < 16384 := qs_lt (Y := al p &&& qd s p) (Nat.lt_of_le_of_lt Nat.and_le_right (qd_14 hs)) hl
    have h0 : ¬ l = 0 := fun y => by
      rw [y, qb_pc_0] at hk
      omega
    have z0 : ¬ nI l = 0 := nI_ne0 (by omega) (by omega)
    obtain ⟨l1, l2, l3, l4, l5⟩ := qb_lw_ok hl16 (Nat.pos_of_ne_zero h0)
    have hin := Bool.and_eq_true _ _ ▸ hcin _ (hl _ l2)
    have hlt : qd (qd s p) (qb_lo l) < s := by
      have e : qd s p ≤ s := pc_le_of (fun j hj => (qd_in.mp hj).1)
      have e2 : qd (qd s p) (qb_lo l) ≤ qd s p := pc_le_of (fun j hj => (qd_in.mp hj).1)
      have e3 : qd (qd s p) (qb_lo l) ≠ s := fun y => by
        have := (qd_in.mp (show (qd (qd s p) (qb_lo l)).testBit p = true by rw [y]; exact hp)).1
        exact qd_self s p this
      omega
    obtain ⟨r1, r2⟩ := hM _ hlt
    have r1' : M.1 407 (qb_dif (qd s p) (2 ^ qb_lo l)) = nI (mF al (qd (qd s p) (qb_lo l))) := r1
    have r2' : M.1 408 (qb_dif (qd s p) (2 ^ qb_lo l)) = nI (mW al (qd (qd s p) (qb_lo l))) := r2
    obtain ⟨c1, c2⟩ := qc_i (show qb_dif (qd s p) (2 ^ qb_lo l) < 16384 from dif_14 (qd_14 hs))
    have hmw := pt_le ha.1 hs hp hT (fun q _ w => hcin q (Bool.and_eq_true _ _ ▸ w).1)
    have hF7 := F_7 (al := al) (qd_14 (v := qb_lo l) (qd_14 (v := p) hs))
    have hl1 : nI l - nI 1 = nI (l - 1) := pk_sub (by omega)
    have p1 : qb_pc (qd l (qb_lo l)) = k := by
      have := qd_pc l2 l1
      omega
    have hl2 : ∀ j, (qd l (qb_lo l)).testBit j = true → (al p &&& qd s p).testBit j = true := fun j hj => hl j (qd_in.mp hj).1
    have hT2 := pt_add (qd_14 hs) l1 hT (c1 := fun q => (al p &&& qd s p).testBit q && !(qd l (qb_lo l)).testBit q) (by rw [l2]; simp) (by
      rw [hl _ l2]
      have : (qd l (qb_lo l)).testBit (qb_lo l) = false := by simpa using qd_self l (qb_lo l)
      rw [this]
      rfl) (fun q _ hn => by rw [qd_bit, decide_eq_false (Ne.symm hn), Bool.not_false, Bool.and_true])
    have hm1 : nI (mF al (qd (qd s p) (qb_lo l))) + nI 1 = nI (mF al (qd (qd s p) (qb_lo l)) + 1) := nI_add _ _
    have e1 : (nI m ≤ nI (mF al (qd (qd s p) (qb_lo l)) + 1)) = (m ≤ mF al (qd (qd s p) (qb_lo l)) + 1) := qi_le (by omega) (by omega)
    have e2 : (nI (mF al (qd (qd s p) (qb_lo l)) + 1) ≤ nI m) = (mF al (qd (qd s p) (qb_lo l)) + 1 ≤ m) := qi_le (by omega) (by omega)
    rcases Nat.lt_trichotomy m (mF al (qd (qd s p) (qb_lo l)) + 1) with q | q | q
    · rw [if_neg (by omega), if_neg (by omega), if_neg (by omega)] at hT2
      obtain ⟨b7, b8, g⟩ := ih (qd l (qb_lo l)) x _ _ M (some (.int (nI (qb_dif (qd s p) (2 ^ qb_lo l))))) (some (.int (nI (mF al (qd (qd s p) (qb_lo l)) + 1)))) p1 hl2 hT2 hM
      refine ⟨b7, b8, ?_⟩
      have a1 : (m ≤ mF al (qd (qd s p) (qb_lo l)) + 1) = True := eq_true (by omega)
      have a2 : (mF al (qd (qd s p) (qb_lo l)) + 1 ≤ m) = False := eq_false (by omega)
      simp only [s270_37, s270_39, s270_42, s270_43, s270_45, s270_47, s270_48, s270_49, s270_50, s270_51, s270_52i, s270_52r, s270_52n, s270_54, s270_55, s270_58, s270_60, s270_60z, s270_61, s270_62, s270_63i, s270_63r, s270_63n, s270_65, s270_67, s270_69, s270_72, s270_75, s270_77, s270_79, s270_82, s270_83, s270_86, s270_88, s270_89, s270_92, s270_94, s270_95, s270_98, s270_100, s270_101, s270_102i, s270_102r, s270_102n, s270_104, s270_106i, s270_106r, s270_106n, s270_108, s270_110, s270_112, s270_113, s270_114, s270_115i, s270_115r, s270_115n, z0, l3, qb_andn, k1, y1, y2, y3, y4, c1, c2, r1', r2', hm1, e1, e2, a1, a2, hl1, fa_and, l4, qx_06, qx_16, List.length_cons, List.length_nil, Nat.zero_le, Nat.reduceAdd, Nat.reduceLeDiff, Option.bind_some, qx_kn_v, qx_kn_n, Nat.add_zero, Bool.false_eq_true, ↓reduceIte]
      rw [s270_117, ← g]
      rfl
    · rw [if_neg (by omega), if_pos q] at hT2
      obtain ⟨b7, b8, g⟩ := ih (qd l (qb_lo l)) x _ _ M (some (.int (nI (qb_dif (qd s p) (2 ^ qb_lo l))))) (some (.int (nI (mF al (qd (qd s p) (qb_lo l)) + 1)))) p1 hl2 hT2 hM
      refine ⟨b7, b8, ?_⟩
      have a1 : (m ≤ mF al (qd (qd s p) (qb_lo l)) + 1) = True := eq_true (by omega)
      have a2 : (mF al (qd (qd s p) (qb_lo l)) + 1 ≤ m) = True := eq_true (by omega)
      have hw : nI w + nI (mW al (qd (qd s p) (qb_lo l))) = nI (w + mW al (qd (qd s p) (qb_lo l))) := nI_add _ _
      simp only [s270_37, s270_39, s270_42, s270_43, s270_45, s270_47, s270_48, s270_49, s270_50, s270_51, s270_52i, s270_52r, s270_52n, s270_54, s270_55, s270_58, s270_60, s270_60z, s270_61, s270_62, s270_63i, s270_63r, s270_63n, s270_65, s270_67, s270_69, s270_72, s270_75, s270_77, s270_79, s270_82, s270_83, s270_86, s270_88, s270_89, s270_92, s270_94, s270_95, s270_98, s270_100, s270_101, s270_102i, s270_102r, s270_102n, s270_104, s270_106i, s270_106r, s270_106n, s270_108, s270_110, s270_112, s270_113, s270_114, s270_115i, s270_115r, s270_115n, z0, l3, qb_andn, k1, y1, y2, y3, y4, c1, c2, r1', r2', hm1, e1, e2, a1, a2, hl1, fa_and, l4, hw, qx_06, qx_16, List.length_cons, List.length_nil, Nat.zero_le, Nat.reduceAdd, Nat.reduceLeDiff, Option.bind_some, qx_kn_v, qx_kn_n, Nat.add_zero, Bool.false_eq_true, ↓reduceIte]
      rw [s270_117, ← g]
      rfl
    · rw [if_pos q, if_neg (by omega), if_pos q] at hT2
      obtain ⟨b7, b8, g⟩ := ih (qd l (qb_lo l)) x _ _ M (some (.int (nI (qb_dif (qd s p) (2 ^ qb_lo l))))) (some (.int (nI (mF al (qd (qd s p) (qb_lo l)) + 1)))) p1 hl2 hT2 hM
      refine ⟨b7, b8, ?_⟩
      have a1 : (m ≤ mF al (qd (qd s p) (qb_lo l)) + 1) = False := eq_false (by omega)
      simp only [s270_37, s270_39, s270_42, s270_43, s270_45, s270_47, s270_48, s270_49, s270_50, s270_51, s270_52i, s270_52r, s270_52n, s270_54, s270_55, s270_58, s270_60, s270_60z, s270_61, s270_62, s270_63i, s270_63r, s270_63n, s270_65, s270_67, s270_69, s270_72, s270_75, s270_77, s270_79, s270_82, s270_83, s270_86, s270_88, s270_89, s270_92, s270_94, s270_95, s270_98, s270_100, s270_101, s270_102i, s270_102r, s270_102n, s270_104, s270_106i, s270_106r, s270_106n, s270_108, s270_110, s270_112, s270_113, s270_114, s270_115i, s270_115r, s270_115n, z0, l3, qb_andn, k1, y1, y2, y3, y4, c1, c2, r1', r2', hm1, e1, a1, hl1, fa_and, l4, qx_06, qx_16, List.length_cons, List.length_nil, Nat.zero_le, Nat.reduceAdd, Nat.reduceLeDiff, Option.bind_some, qx_kn_v, qx_kn_n, Nat.add_zero, Bool.false_eq_true, ↓reduceIte]
      rw [s270_117, ← g]
      rfl
theorem m270 {d x s : Nat} {M : qxM} (ha : qAl al) (hn2 : n ≤ 14) (hs : s < 2 ^ n) (h0 : 0 < s) (hr : ∀ p, p < n → M.1 409 p = nI (al p)) (hM : ∀ t, t < s → M.1 407 t = nI (mF al t) ∧ M.1 408 t = nI (mW al t)) :
    Rs L xs (d + 2) 270 0 [some (.ref (400)), some (.int (nI s)), none, none, none, none, none, none, none] [] (M) x = some (.inl (none), qx_up (qx_up M 407 s (nI (mF al s))) 408 s (nI (mW al s)), x) := by
  obtain ⟨k1, k2, k3⟩ := qx_m400
  obtain ⟨y1, y2, y3, y4, y5, y6⟩ := qx_m407
  have hs16 : s < 16384 := Nat.lt_of_lt_of_le hs (n14 hn2)
  obtain ⟨l1, l2, l3, l4, l5⟩ := qb_lw_ok hs16 h0
  have hpn : qb_lo s < n := qj_n hs l2
  have h210 := m210 (L := L) (xs := xs) (d := d) (x := 0) (M := M) hs16 h0
  have hs1 : nI s - nI 1 = nI (s - 1) := pk_sub h0
  have hlt : qb_dif s (2 ^ qb_lo s) < s := by
    rw [← l4]
    have := Nat.and_le_right (n := s) (m := s - 1)
    omega
  obtain ⟨r1, r2⟩ := hM _ hlt
  obtain ⟨c1, c2⟩ := qc_i (show qb_dif s (2 ^ qb_lo s) < 16384 from dif_14 hs16)
  obtain ⟨c3, c4⟩ := qc_i hs16
  obtain ⟨c5, c6⟩ := qc_p l1
  obtain ⟨b7, b8, g⟩ := m270l (L := L) (xs := xs) (d := d + 2) ha hs16 l2 _ (al (qb_lo s) &&& qd s (qb_lo s)) x _ _ M none none rfl (fun j hj => hj) (pt_0 (qd_14 hs16) (fun q _ => by simp)) hM
  have g' : Rs L xs (d + 2) 270 37 [some (.ref 400), some (.int (nI s)), some (.int (nI (qb_lo s))), some (.int (nI (qb_dif s (2 ^ qb_lo s)))), some (.int (nI (mF al (qb_dif s (2 ^ qb_lo s))))), some (.int (nI (mW al (qb_dif s (2 ^ qb_lo s))))), some (.int (nI (al (qb_lo s) &&& qb_dif s (2 ^ qb_lo s)))), none, none] [] M x = _ := g
  have hb := qi_b8 (mF al s) (by have := F_7 (al := al) hs16; omega)
  simp only [s270_0, s270_1, s270_4i, s270_4r, s270_4n, s270_5, s270_6, s270_7, s270_8, s270_9, s270_10i, s270_10r, s270_10n, s270_11, s270_12, s270_15, s270_16, s270_16z, s270_17i, s270_17r, s270_17n, s270_19, s270_20, s270_23, s270_24, s270_25i, s270_25r, s270_25n, s270_27, s270_28, s270_31, s270_32, s270_33, s270_34, s270_35i, s270_35r, s270_35n, h210, hs1, fa_and, l4, k1, y1, y2, y3, y4, y5, y6, c1, c2, c5, c6, r1, r2, hr _ hpn, List.length_cons, List.length_nil, Nat.zero_le, Nat.reduceAdd, Nat.reduceLeDiff, Option.bind_some, qx_kn_v, qx_kn_n, Nat.add_zero, Bool.false_eq_true, ↓reduceIte]
  rw [g']
  simp only [s270_120, s270_121, s270_124, s270_125, s270_127, s270_128, s270_128z, s270_129, s270_130, s270_133, s270_134, s270_136, s270_137, k1, y1, y2, y3, y4, c3, c4, hb]
theorem m271a {d n r q : Nat} {f mt al : Nat → Nat} (hp : qp_ok n r q f mt) (hal : ∀ p, p < 14 → al p = qp_al r q (f p) p) : ∀ (k i x : Nat) (M : qxM), i + k = n → nPu M n r q f mt → (∀ p, p < i → M.1 409 p = nI (al p)) →
    ∃ M', Rs L xs (d + 4) 271 2 [some (.ref 400), some (.int (nI i))] [] M x = Rs L xs (d + 4) 271 29 [some (.ref 400), some (.int (nI n))] [] M' x ∧ nPu M' n r q f mt ∧ (∀ p, p < n → M'.1 409 p = nI (al p)) ∧ qf qTb M M' := by
  obtain ⟨k1, k2, k3⟩ := qx_m400
  obtain ⟨y1, y2, y3, y4, y5, y6⟩ := qx_m407
  intro k
  induction k with
  | zero =>
    intro i x M hi hu h9
    have h1 : (nI n ≤ nI i) = True := by rw [show i = n by omega]; exact eq_true (Int32.le_refl _)
    rw [show i = n by omega] at h1 h9 ⊢
    refine ⟨M, ?_, hu, h9, qf_refl _ _⟩
    simp only [s271_2, s271_3, s271_4, s271_7, s271_8, s271_9, k1, k2, k3, hu.1, h1, (qn_c (0) (by omega)).1, (qn_c (0) (by omega)).2, ↓reduceIte]
  | succ k ih =>
    intro i x M hi hu h9
    have hn14 := hp.1
    have hi14 : i < 14 := by omega
    have h1 : ¬ nI n ≤ nI i := nI_ge (by omega) (by omega)
    obtain ⟨u0, u1, u2, u3, u4⟩ := hu
    have h220 := m220 (L := L) (xs := xs) (d := d) (x := 0) (M := M) hi14 u0 hn14 (u3 i hi14) (hp.2.2.2.1 i hi14).1 u1 hp.2.1 u2 hp.2.2.1
    rw [← hal i hi14] at h220
    obtain ⟨c5, c6⟩ := qc_p hi14
    have f1 : qf qTb M (qx_up M 409 i (nI (al i))) := qf_up _ _ _ _ (Or.inr (Or.inr rfl))
    have hu1 : nPu (qx_up M 409 i (nI (al i))) n r q f mt := by
      have e : (qx_up M 409 i (nI (al i))).1 401 = M.1 401 := f1.1 401 (by unfold qTb; omega)
      unfold nPu nMt
      rw [e]
      exact ⟨u0, u1, u2, u3, u4⟩
    obtain ⟨M', g, c1, c2, c3⟩ := ih (i + 1) x _ (by omega) hu1 (fun p hp => by
      rw [qx_up_at]
      by_cases e : p = i
      · rw [if_pos ⟨rfl, e⟩, e]
      · rw [if_neg (fun w => e w.2), h9 p (by omega)])
    refine ⟨M', ?_, c1, c2, qf_trans f1 c3⟩
    simp only [s271_2, s271_3, s271_4, s271_7, s271_8, s271_9, s271_12, s271_13, s271_16, s271_17, s271_18, s271_19, s271_22, s271_23i, s271_23r, s271_23n, k1, k2, k3, u0, h1, h220, y5, y6, c5, c6, nI_add, (qn_c (0) (by omega)).1, (qn_c (0) (by omega)).2, List.length_cons, List.length_nil, Nat.zero_le, Nat.reduceAdd, Nat.reduceLeDiff, Option.bind_some, qx_kn_v, qx_kn_n, Nat.add_zero, Bool.false_eq_true, ↓reduceIte]
    rw [s271_26, g]
theorem m271b {d n : Nat} {al : Nat → Nat} (ha : qAl al) (hn2 : n ≤ 14) : ∀ (k i x : Nat) (M : qxM), i + k = 2 ^ n → 0 < i → M.1 401 0 = nI n → (∀ p, p < n → M.1 409 p = nI (al p)) → (∀ t, t < i → M.1 407 t = nI (mF al t) ∧ M.1 408 t = nI (mW al t)) →
    ∃ M', Rs L xs (d + 3) 271 45 [some (.ref 400), some (.int (nI i))] [] M x = Rs L xs (d + 3) 271 64 [some (.ref 400), some (.int (nI (2 ^ n)))] [] M' x ∧ M'.1 401 0 = nI n ∧ qLay al n M' ∧ qf qTb M M' := by
  obtain ⟨k1, k2, k3⟩ := qx_m400
  have h16 := n14 hn2
  have hpos : 0 < 2 ^ n := Nat.two_pow_pos n
  intro k
  induction k with
  | zero =>
    intro i x M hi h0 hn h9 ht
    have e : i = 2 ^ n := by omega
    subst e
    have h1 : (nI (2 ^ n - 1) < nI (2 ^ n)) = True := eq_true (nI_lt (by omega) (by omega))
    refine ⟨M, ?_, hn, ⟨h9, ht⟩, qf_refl _ _⟩
    simp only [s271_45, s271_46, s271_47, s271_50, k1, m212 hn hn2, h1, List.length_cons, List.length_nil, Nat.zero_le, Nat.reduceAdd, Nat.reduceLeDiff, Option.bind_some, qx_kn_v, qx_kn_n, Nat.add_zero, Bool.false_eq_true, ↓reduceIte]
  | succ k ih =>
    intro i x M hi h0 hn h9 ht
    have h1 : ¬ nI (2 ^ n - 1) < nI i := by
      rw [i_nlt]
      exact nI_le (by omega) (by omega)
    have h270 := m270 (L := L) (xs := xs) (d := d) (x := 0) (M := M) ha hn2 (show i < 2 ^ n by omega) h0 h9 ht
    have f1 : qf qTb M (qx_up (qx_up M 407 i (nI (mF al i))) 408 i (nI (mW al i))) := qf_trans (qf_up _ _ _ _ (Or.inl rfl)) (qf_up _ _ _ _ (Or.inr (Or.inl rfl)))
    obtain ⟨M', g, c1, c2, c3⟩ := ih (i + 1) x _ (by omega) (by omega) (by rw [f1.1 401 (by unfold qTb; omega), hn]) (fun p hp => by rw [qx_up_ne _ _ _ (by decide), qx_up_ne _ _ _ (by decide), h9 p hp]) (fun t hti => by
      by_cases e : t = i
      · refine ⟨?_, ?_⟩
        · rw [qx_up_ne _ _ _ (by decide), qx_up_at, if_pos ⟨rfl, e⟩, e]
        · rw [qx_up_at, if_pos ⟨rfl, e⟩, e]
      · have h := ht t (by omega)
        refine ⟨?_, ?_⟩
        · rw [qx_up_ne _ _ _ (by decide), qx_up_at, if_neg (fun w => e w.2), h.1]
        · rw [qx_up_at, if_neg (fun w => e w.2), qx_up_ne _ _ _ (by decide), h.2])
    refine ⟨M', ?_, c1, c2, qf_trans f1 c3⟩
    simp only [s271_45, s271_46, s271_47, s271_50, s271_53, s271_54, s271_55, s271_58i, s271_58r, s271_58n, k1, m212 hn hn2, h1, h270, nI_add, List.length_cons, List.length_nil, Nat.zero_le, Nat.reduceAdd, Nat.reduceLeDiff, Option.bind_some, qx_kn_v, qx_kn_n, Nat.add_zero, Bool.false_eq_true, ↓reduceIte]
    rw [s271_61, g]
theorem m271 {d x n r q : Nat} {f mt al : Nat → Nat} {M : qxM} (hp : qp_ok n r q f mt) (hal : ∀ p, p < 14 → al p = qp_al r q (f p) p) (ha : qAl al) (hu : nPu M n r q f mt) :
    ∃ M', Rs L xs (d + 4) 271 0 [some (.ref (400)), none] [] (M) x = some (.inl (some (.int (nI (mF al (2 ^ n - 1))))), M', x) ∧ qLay al n M' ∧ qf qTb M M' := by
  obtain ⟨k1, k2, k3⟩ := qx_m400
  obtain ⟨y1, y2, y3, y4, y5, y6⟩ := qx_m407
  have hn14 := hp.1
  have hpos : 0 < 2 ^ n := Nat.two_pow_pos n
  have h16 := n14 hn14
  obtain ⟨M1, g1, u1, h9, f1⟩ := m271a (L := L) (xs := xs) (d := d) hp hal n 0 x M (by omega) hu (fun p h => absurd h (Nat.not_lt_zero p))
  have f2 : qf qTb M1 (qx_up (qx_up M1 407 0 (nI 0)) 408 0 (nI 1)) := qf_trans (qf_up _ _ _ _ (Or.inl rfl)) (qf_up _ _ _ _ (Or.inr (Or.inl rfl)))
  obtain ⟨c0, c00⟩ := qc_i (show 0 < 16384 by decide)
  obtain ⟨M2, g2, n2, l2, f3⟩ := m271b (L := L) (xs := xs) (d := d + 1) ha hn14 (2 ^ n - 1) 1 x (qx_up (qx_up M1 407 0 (nI 0)) 408 0 (nI 1)) (by omega) (by decide) (by rw [f2.1 401 (by unfold qTb; omega), u1.1]) (fun p hp => by rw [qx_up_ne _ _ _ (by decide), qx_up_ne _ _ _ (by decide), h9 p hp]) (fun t ht => by
    have e : t = 0 := by omega
    subst e
    have hv := qv_0 (al := al)
    unfold qv at hv
    rw [F_0] at hv
    have hw : mW al 0 = 1 := by omega
    rw [F_0, hw]
    refine ⟨?_, ?_⟩
    · rw [qx_up_ne _ _ _ (by decide), qx_up_at, if_pos ⟨rfl, rfl⟩]
    · rw [qx_up_at, if_pos ⟨rfl, rfl⟩])
  obtain ⟨c1, c2⟩ := qc_i (show 2 ^ n - 1 < 16384 by omega)
  refine ⟨M2, ?_, l2, qf_trans f1 (qf_trans f2 f3)⟩
  have hb0 : (nI 0).toInt8.toInt32 = nI 0 := by decide
  simp only [s271_0, s271_1i, s271_1r, s271_1n]
  rw [g1]
  simp only [s271_29, s271_30, s271_33, s271_34, s271_35, s271_35z, s271_36, s271_37, s271_40, s271_41, s271_42, s271_43, s271_44i, s271_44r, s271_44n, k1, y1, y2, y3, y4, c0, c00, hb0]
  rw [g2]
  simp only [s271_64, s271_65, s271_68, s271_69, s271_72, s271_72z, s271_73, k1, y1, y2, m212 n2 hn14, c1, c2, (l2.2 (2 ^ n - 1) (by omega)).1, List.length_cons, List.length_nil, Nat.zero_le, Nat.reduceAdd, Nat.reduceLeDiff, Option.bind_some, qx_kn_v, qx_kn_n, Nat.add_zero, Bool.false_eq_true, ↓reduceIte]
theorem m272 {d x p : Nat} {M : qxM} (hn2 : n ≤ 14) (hn : M.1 401 0 = nI n) (hp : p < 14) (hl : qLay al n M) : Rs L xs (d + 1) 272 0 [some (.ref (400)), some (.int (nI p))] [] (M) x = some (.inl (some (.int (nI (mF al (qd (2 ^ n - 1) p))))), M, x) := by
  obtain ⟨k1, k2, k3⟩ := qx_m400
  obtain ⟨y1, y2, y3, y4, y5, y6⟩ := qx_m407
  have hpos : 0 < 2 ^ n := Nat.two_pow_pos n
  have h16 := n14 hn2
  have hle : qb_dif (2 ^ n - 1) (2 ^ p) ≤ 2 ^ n - 1 := pc_le_of (fun j hj => (qm_in.mp hj).1)
  obtain ⟨c1, c2⟩ := qc_i (show qb_dif (2 ^ n - 1) (2 ^ p) < 16384 by omega)
  have h := (hl.2 (qb_dif (2 ^ n - 1) (2 ^ p)) (by omega)).1
  simp only [s272_0, s272_1, s272_4, s272_5, s272_8, s272_9, s272_10, s272_11, s272_12, s272_13, s272_14, s272_14z, s272_15, k1, y1, y2, m212 hn hn2, qb_shl (show p < 32 by omega), qb_andn, c1, c2, h, List.length_cons, List.length_nil, Nat.zero_le, Nat.reduceAdd, Nat.reduceLeDiff, Option.bind_some, qx_kn_v, qx_kn_n, Nat.add_zero, Bool.false_eq_true, ↓reduceIte]
  rfl
end QL
