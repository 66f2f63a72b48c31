/-! helps, firstMate. -/
/-- whether the friendship of two would help -/
def hq (n r q : Nat) (f : Nat → Nat) (a b : Nat) : Bool := (!(f a).testBit b && qp_ra r q a b) && decide (mF (qal r q f) (qd (qd (2 ^ n - 1) a) b) = mF (qal r q f) (2 ^ n - 1))
def hqN (n r q : Nat) (f : Nat → Nat) (a b : Nat) : Nat := if hq n r q f a b = true then 1 else 0
def hqS (n r q : Nat) (f : Nat → Nat) (a : Nat) : Nat := qp_sm (hqN n r q f a) (a + 1) (n - (a + 1))
theorem hq_turn {n r q : Nat} {f mt : Nat → Nat} (hp : qp_ok n r q f mt) {a b : Nat} (ha : a < n) (hb : b < n) (hab : a ≠ b) (hf : (f a).testBit b = false) : (mF (qal r q f) (2 ^ n - 1) < mF (qal r q (qp_be f a b true)) (2 ^ n - 1)) = (hq n r q f a b = true) := by
  have h16 := n14 hp.1
  have hpos := Nat.two_pow_pos n
  have hall : 2 ^ n - 1 < 16384 := by omega
  have hmono : mF (qal r q f) (qd (qd (2 ^ n - 1) a) b) ≤ mF (qal r q f) (2 ^ n - 1) := F_mono (qal_ok hp hp.2.1).1 hall (fun j hj => (qd_in.mp (qd_in.mp hj).1).1)
  unfold hq
  rw [hf, Bool.not_false, Bool.true_and]
  apply propext
  cases hra : qp_ra r q a b
  · rw [be_no hp hab hra true _ hall, Bool.false_and]
    exact ⟨fun h => absurd h (Nat.lt_irrefl _), fun h => absurd h (by decide)⟩
  · rw [be_on hp ha hb hab hra hf, Bool.true_and, decide_eq_true_eq]
    by_cases z : mF (qal r q f) (qd (qd (2 ^ n - 1) a) b) + 1 < mF (qal r q f) (2 ^ n - 1)
    · rw [if_pos z]
      exact ⟨fun h => absurd h (Nat.lt_irrefl _), fun h => by omega⟩
    · rw [if_neg z]
      omega
section QL
variable {L : Nat} {xs : Nat → Int32} {n r q : Nat} {f mt : Nat → Nat}
theorem a136i {d a st : Nat} (hp : qp_ok n r q f mt) (hst : st < 100000) (ha : a < n) : ∀ (k b c x : Nat) (M : qxM) (s6 : Option Value), b + k = n → a < b → qTs (qal r q f) st (2 ^ n - 1) M → qPu 101 M n r q f mt →
    ∃ M' t6, Rs L xs (d + 19) 136 40 [some (.ref 10), some (.ref 40), some (.int (nI (mF (qal r q f) (2 ^ n - 1)))), some (.int (nI c)), some (.int (nI a)), some (.int (nI b)), s6] [] M x =
      Rs L xs (d + 19) 136 125 [some (.ref 10), some (.ref 40), some (.int (nI (mF (qal r q f) (2 ^ n - 1)))), some (.int (nI (c + qp_sm (hqN n r q f a) b k))), some (.int (nI a)), some (.int (nI n)), t6] [] M' x ∧ qTs (qal r q f) st (2 ^ n - 1) M' ∧ qPu 101 M' n r q f mt ∧ qf qMm M M' := by
  have hP : qx_P 101 := qx_T100.2.1
  have hn14 := hp.1
  have h16 := n14 hn14
  have hpos := Nat.two_pow_pos n
  have hall : 2 ^ n - 1 < 16384 := by omega
  have hA := qal_ok hp hp.2.1
  have ha14 : a < 14 := by omega
  intro k
  induction k with
  | zero =>
    intro b c x M s6 hb hab hT hu
    have h1 : (nI n ≤ nI b) = True := by rw [show b = n by omega]; exact eq_true (Int32.le_refl _)
    refine ⟨M, s6, ?_, hT, hu, qf_refl _ _⟩
    rw [show b = n by omega] at h1 ⊢
    simp only [s136_40, s136_42, s136_43, s136_46, s136_49, s136_52, qx_m10, qx_T100.1, hP.1, hu.1, h1, qp_sm, ↓reduceIte, Nat.add_zero, Nat.reduceAdd]
  | succ k ih =>
    intro b c x M s6 hb hab hT hu
    have hbn : b < n := by omega
    have hb14 : b < 14 := by omega
    have h1 : ¬ nI n ≤ nI b := nI_ge hbn (by omega)
    have hne : a ≠ b := by omega
    obtain ⟨u0, u1, u2, u3, u4⟩ := hu
    have h39 := m39 (L := L) (xs := xs) (d := d + 18) (x := 0) (M := M) hP ha14
    rw [show M.1 (101 + 1) a = nI (f a) from u3 a ha14] at h39
    have h170 := m170 (L := L) (xs := xs) (d := d + 18) (x := 0) (M := M) (show f a < 2 ^ 31 by have := qp_f14 hp ha14; omega) (show b < 31 by omega)
    have h41 := m41 (L := L) (xs := xs) (d := d + 16) (x := 0) (M := M) hP ha14 hb14 hp.2.1 u1 u2 hp.2.2.1
    have hb1 : nI b + nI 1 = nI (b + 1) := nI_add _ _
    have hc1 : nI c + nI 1 = nI (c + 1) := nI_add _ _
    rw [qp_sm_succ, ← Nat.add_assoc]
    have no : hq n r q f a b = false → (∃ t6, Rs L xs (d + 19) 136 40 [some (.ref 10), some (.ref 40), some (.int (nI (mF (qal r q f) (2 ^ n - 1)))), some (.int (nI c)), some (.int (nI a)), some (.int (nI b)), s6] [] M x = Rs L xs (d + 19) 136 122 [some (.ref 10), some (.ref 40), some (.int (nI (mF (qal r q f) (2 ^ n - 1)))), some (.int (nI c)), some (.int (nI a)), some (.int (nI (b + 1))), t6] [] M x) →
        ∃ M' t6, Rs L xs (d + 19) 136 40 [some (.ref 10), some (.ref 40), some (.int (nI (mF (qal r q f) (2 ^ n - 1)))), some (.int (nI c)), some (.int (nI a)), some (.int (nI b)), s6] [] M x =
      Rs L xs (d + 19) 136 125 [some (.ref 10), some (.ref 40), some (.int (nI (mF (qal r q f) (2 ^ n - 1)))), some (.int (nI (c + hqN n r q f a b + qp_sm (hqN n r q f a) (b + 1) k))), some (.int (nI a)), some (.int (nI n)), t6] [] M' x ∧ qTs (qal r q f) st (2 ^ n - 1) M' ∧ qPu 101 M' n r q f mt ∧ qf qMm M M' := by
      rintro hh ⟨t6, g⟩
      obtain ⟨M2, t7, g2, c2, u5, f2⟩ := ih (b + 1) c x M t6 (by omega) (by omega) hT ⟨u0, u1, u2, u3, u4⟩
      refine ⟨M2, t7, ?_, c2, u5, f2⟩
      have h0 : hqN n r q f a b = 0 := if_neg (by rw [hh]; decide)
      rw [g, s136_122, g2, h0, Nat.add_zero c]
    cases hf : (f a).testBit b
    · rw [hf] at h170
      cases hra : qp_ra r q a b
      · rw [hra] at h41
        refine no (by unfold hq; rw [hra, Bool.and_false, Bool.false_and]) ⟨some (.int (nI 0)), ?_⟩
        simp only [s136_40, s136_42, s136_43, s136_46, s136_49, s136_52, s136_55, s136_56, s136_59, s136_62, s136_64, s136_67, s136_69, s136_72, s136_75, s136_76, s136_79, s136_82, s136_84, s136_86, s136_89, s136_92, s136_93, s136_96, s136_97i, s136_97r, s136_97n, s136_99, s136_101, s136_104, s136_105, s136_107, s136_109, s136_112, s136_113, s136_116i, s136_116r, s136_116n, s136_119i, s136_119r, s136_119n, qx_m10, qx_T100.1, hP.1, u0, h1, h39, h170, qbf, h41, qi_z0, hb1, List.length_cons, List.length_nil, Nat.zero_le, Nat.reduceAdd, Nat.reduceLeDiff, Option.bind_some, qx_kn_v, qx_kn_n, Nat.add_zero, Bool.false_eq_true, ↓reduceIte]
      · rw [hra] at h41
        obtain ⟨M1, g1, c1, f1⟩ := m3 (L := L) (xs := xs) (d := d) (x := 0) (a := a) (b := b) hA hst hall ha14 hb14 hT
        have hu1 : qPu 101 M1 n r q f mt := qPu_step (t := 0) ⟨u0, u1, u2, u3, u4⟩ (qf_mono f1 (fun a h => h)) (qMt_fr u4 f1 (by unfold qMm; omega)) (by unfold qMm; omega) (by unfold qMm; omega)
        have e : (nI (mF (qal r q f) (qd (qd (2 ^ n - 1) a) b)) = nI (mF (qal r q f) (2 ^ n - 1))) = (mF (qal r q f) (qd (qd (2 ^ n - 1) a) b) = mF (qal r q f) (2 ^ n - 1)) := qi_eq (by have := F_7 (al := qal r q f) (qd_14 (v := b) (qd_14 (v := a) hall)); omega) (by have := F_7 (al := qal r q f) hall; omega)
        by_cases y : mF (qal r q f) (qd (qd (2 ^ n - 1) a) b) = mF (qal r q f) (2 ^ n - 1)
        · have hh : hqN n r q f a b = 1 := if_pos (by unfold hq; rw [hf, hra, decide_eq_true y]; rfl)
          obtain ⟨M2, t7, g2, c2, u5, f2⟩ := ih (b + 1) (c + 1) x M1 (some (.int (nI 1))) (by omega) (by omega) c1 hu1
          refine ⟨M2, t7, ?_, c2, u5, qf_trans f1 f2⟩
          rw [hh]
          simp only [s136_40, s136_42, s136_43, s136_46, s136_49, s136_52, s136_55, s136_56, s136_59, s136_62, s136_64, s136_67, s136_69, s136_72, s136_75, s136_76, s136_79, s136_82, s136_84, s136_86, s136_89, s136_92, s136_93, s136_96, s136_97i, s136_97r, s136_97n, s136_99, s136_101, s136_104, s136_105, s136_107, s136_109, s136_112, s136_113, s136_116i, s136_116r, s136_116n, s136_119i, s136_119r, s136_119n, qx_m10, qx_T100.1, hP.1, u0, h1, h39, h170, qbf, h41, qbt, qi_z1, g1, e, y, hc1, hb1, List.length_cons, List.length_nil, Nat.zero_le, Nat.reduceAdd, Nat.reduceLeDiff, Option.bind_some, qx_kn_v, qx_kn_n, Nat.add_zero, Bool.false_eq_true, ↓reduceIte]
          rw [s136_122, g2]
        · have hh : hqN n r q f a b = 0 := if_neg (by unfold hq; rw [decide_eq_false y, Bool.and_false]; decide)
          obtain ⟨M2, t7, g2, c2, u5, f2⟩ := ih (b + 1) c x M1 (some (.int (nI 1))) (by omega) (by omega) c1 hu1
          refine ⟨M2, t7, ?_, c2, u5, qf_trans f1 f2⟩
          rw [hh, Nat.add_zero c]
          simp only [s136_40, s136_42, s136_43, s136_46, s136_49, s136_52, s136_55, s136_56, s136_59, s136_62, s136_64, s136_67, s136_69, s136_72, s136_75, s136_76, s136_79, s136_82, s136_84, s136_86, s136_89, s136_92, s136_93, s136_96, s136_97i, s136_97r, s136_97n, s136_99, s136_101, s136_104, s136_105, s136_107, s136_109, s136_112, s136_113, s136_116i, s136_116r, s136_116n, s136_119i, s136_119r, s136_119n, qx_m10, qx_T100.1, hP.1, u0, h1, h39, h170, qbf, h41, qbt, qi_z1, g1, e, y, hb1, List.length_cons, List.length_nil, Nat.zero_le, Nat.reduceAdd, Nat.reduceLeDiff, Option.bind_some, qx_kn_v, qx_kn_n, Nat.add_zero, Bool.false_eq_true, ↓reduceIte]
          rw [s136_122, g2]
    · rw [hf] at h170
      refine no (by unfold hq; rw [hf, Bool.not_true, Bool.false_and, Bool.false_and]) ⟨some (.int (nI 0)), ?_⟩
      simp only [s136_40, s136_42, s136_43, s136_46, s136_49, s136_52, s136_55, s136_56, s136_59, s136_62, s136_64, s136_67, s136_69, s136_72, s136_75, s136_76, s136_79, s136_82, s136_84, s136_86, s136_89, s136_92, s136_93, s136_96, s136_97i, s136_97r, s136_97n, s136_99, s136_101, s136_104, s136_105, s136_107, s136_109, s136_112, s136_113, s136_116i, s136_116r, s136_116n, s136_119i, s136_119r, s136_119n, qx_m10, qx_T100.1, hP.1, u0, h1, h39, h170, qbt, qi_z0, hb1, List.length_cons, List.length_nil, Nat.zero_le, Nat.reduceAdd, Nat.reduceLeDiff, Option.bind_some, qx_kn_v, qx_kn_n, Nat.add_zero, Bool.false_eq_true, ↓reduceIte]
theorem a136o {d st : Nat} (hp : qp_ok n r q f mt) (hst : st < 100000) : ∀ (k a c x : Nat) (M : qxM) (s5 s6 : Option Value), a + k = n → qTs (qal r q f) st (2 ^ n - 1) M → qPu 101 M n r q f mt →
    ∃ M', Rs L xs (d + 19) 136 19 [some (.ref 10), some (.ref 40), some (.int (nI (mF (qal r q f) (2 ^ n - 1)))), some (.int (nI c)), some (.int (nI a)), s5, s6] [] M x = some (.inl (some (.int (nI (c + qp_sm (hqS n r q f) a k)))), M', x) ∧ qTs (qal r q f) st (2 ^ n - 1) M' ∧ qf qMm M M' := by
  have hP : qx_P 101 := qx_T100.2.1
  have hn14 := hp.1
  intro k
  induction k with
  | zero =>
    intro a c x M s5 s6 ha hT hu
    have h1 : (nI n ≤ nI a) = True := by rw [show a = n by omega]; exact eq_true (Int32.le_refl _)
    refine ⟨M, ?_, hT, qf_refl _ _⟩
    simp only [s136_19, s136_21, s136_22, s136_25, s136_28, s136_31, s136_131, s136_132, qx_m10, qx_T100.1, hP.1, hu.1, h1, qp_sm, ↓reduceIte, Nat.add_zero, Nat.reduceAdd]
  | succ k ih =>
    intro a c x M s5 s6 ha hT hu
    have h1 : ¬ nI n ≤ nI a := nI_ge (by omega) (by omega)
    obtain ⟨M1, t6, g1, c1, u5, f1⟩ := a136i (L := L) (xs := xs) (d := d) (a := a) hp hst (by omega) (n - (a + 1)) (a + 1) c x M s6 (by omega) (by omega) hT hu
    obtain ⟨M2, g2, c2, f2⟩ := ih (a + 1) (c + hqS n r q f a) x M1 (some (.int (nI n))) t6 (by omega) c1 u5
    refine ⟨M2, ?_, c2, qf_trans f1 f2⟩
    rw [qp_sm_succ, ← Nat.add_assoc]
    have ha1 : nI a + nI 1 = nI (a + 1) := nI_add _ _
    simp only [s136_19, s136_21, s136_22, s136_25, s136_28, s136_31, s136_34, s136_36, s136_37, s136_38i, s136_38r, s136_38n, qx_m10, qx_T100.1, hP.1, hu.1, h1, ha1, ↓reduceIte, Nat.reduceAdd]
    rw [g1]
    simp only [s136_125i, s136_125r, s136_125n, ha1]
    rw [s136_128]
    exact g2
theorem m306i {d a : Nat} (hp : qp_ok n r q f mt) (ha : a < n) : ∀ (k b c x : Nat) (M : qxM), b + k = n → a < b → nPu M n r q f mt →
    ∃ M', Rs L xs (d + 6) 306 33 [some (.ref 400), some (.int (nI (mF (qal r q f) (2 ^ n - 1)))), some (.int (nI c)), some (.int (nI a)), some (.int (nI b))] [] M x =
      Rs L xs (d + 6) 306 82 [some (.ref 400), some (.int (nI (mF (qal r q f) (2 ^ n - 1)))), some (.int (nI (c + qp_sm (hqN n r q f a) b k))), some (.int (nI a)), some (.int (nI n))] [] M' x ∧ nPu M' n r q f mt ∧ qf qTb M M' := by
  obtain ⟨k1, k2, k3⟩ := qx_m400
  have hn14 := hp.1
  have h16 := n14 hn14
  have hpos := Nat.two_pow_pos n
  have hall : 2 ^ n - 1 < 16384 := by omega
  have ha14 : a < 14 := by omega
  intro k
  induction k with
  | zero =>
    intro b c x M hb hab hu
    have h1 : (nI n ≤ nI b) = True := by rw [show b = n by omega]; exact eq_true (Int32.le_refl _)
    refine ⟨M, ?_, hu, qf_refl _ _⟩
    rw [show b = n by omega] at h1 ⊢
    simp only [s306_33, s306_35, s306_36, s306_39, s306_40, s306_41, k1, k2, k3, hu.1, h1, qp_sm, Nat.add_zero, (qn_c (0) (by omega)).1, (qn_c (0) (by omega)).2, ↓reduceIte]
  | succ k ih =>
    intro b c x M hb hab hu
    have hbn : b < n := by omega
    have h1 : ¬ nI n ≤ nI b := nI_ge hbn (by omega)
    have hne : a ≠ b := by omega
    have h216 := m216 (L := L) (xs := xs) (d := d + 4) (x := 0) (M := M) ha14 (show b < 14 by omega) (hu.2.2.2.1 a ha14) (qp_f14 hp ha14)
    have hn0 := hu.1
    have e1 : ∀ M', Rs L xs (d + 5) 179 0 [some (.int (nI 1))] [] M' 0 = some (.inl (some (.int (nI 1))), M', 0) := fun M' => m179 (L := L) (xs := xs) (d := d + 5) (x := 0) (M := M') true
    have e0 : ∀ M', Rs L xs (d + 5) 179 0 [some (.int (nI 0))] [] M' 0 = some (.inl (some (.int (nI 0))), M', 0) := fun M' => m179 (L := L) (xs := xs) (d := d + 5) (x := 0) (M := M') false
    rw [qp_sm_succ, ← Nat.add_assoc]
    cases hf : (f a).testBit b
    · rw [hf] at h216
      obtain ⟨M1, g1, f1⟩ := g295 (L := L) (xs := xs) (d := d) (x := 0) hp hu ha hbn hne
      rw [hf, Bool.not_false] at g1
      have hu1 : nPu M1 n r q f mt := by
        unfold nPu nMt
        rw [f1.1 401 (by unfold qTb; omega)]
        exact hu
      have hp1 := qp_be_ok hp ha hbn hne true
      have e : (nI (mF (qal r q (qp_be f a b true)) (2 ^ n - 1)) ≤ nI (mF (qal r q f) (2 ^ n - 1))) = ¬ (hq n r q f a b = true) := by
        rw [qi_le (by have := F_7 (al := qal r q (qp_be f a b true)) hall; omega) (by have := F_7 (al := qal r q f) hall; omega), ← hq_turn hp ha hbn hne hf]
        exact propext Nat.not_lt.symm
      obtain ⟨M2, g2, u2, f2⟩ := ih (b + 1) (c + hqN n r q f a b) x M1 (by omega) (by omega) hu1
      refine ⟨M2, ?_, u2, qf_trans f1 f2⟩
      by_cases y : hq n r q f a b = true
      · have h1' : hqN n r q f a b = 1 := if_pos y
        rw [h1'] at g2 ⊢
        have ye : (¬ (hq n r q f a b = true)) = False := eq_false (fun w => w y)
        rw [ye] at e
        simp only [s306_33, s306_35, s306_36, s306_39, s306_40, s306_41, s306_44, s306_45, s306_46, s306_47, s306_49, s306_52, s306_55, s306_56, s306_57, s306_59, s306_62, s306_63, s306_66, s306_67, s306_70, s306_71, s306_74, s306_75i, s306_75r, s306_75n, s306_76i, s306_76r, s306_76n, k1, k2, k3, hn0, h1, h216, qbf, g1, e, e1, nI_add, (qn_c (0) (by omega)).1, (qn_c (0) (by omega)).2, List.length_cons, List.length_nil, Nat.zero_le, Nat.reduceAdd, Nat.reduceLeDiff, Option.bind_some, qx_kn_v, qx_kn_n, Nat.add_zero, Bool.false_eq_true, ↓reduceIte]
        rw [s306_79, g2]
      · have h0' : hqN n r q f a b = 0 := if_neg y
        rw [h0', Nat.add_zero c] at g2 ⊢
        have ye : (¬ (hq n r q f a b = true)) = True := eq_true y
        rw [ye] at e
        simp only [s306_33, s306_35, s306_36, s306_39, s306_40, s306_41, s306_44, s306_45, s306_46, s306_47, s306_49, s306_52, s306_55, s306_56, s306_57, s306_59, s306_62, s306_63, s306_66, s306_67, s306_70, s306_71, s306_74, s306_75i, s306_75r, s306_75n, s306_76i, s306_76r, s306_76n, k1, k2, k3, hn0, h1, h216, qbf, g1, e, e0, nI_add, (qn_c (0) (by omega)).1, (qn_c (0) (by omega)).2, List.length_cons, List.length_nil, Nat.zero_le, Nat.reduceAdd, Nat.reduceLeDiff, Option.bind_some, qx_kn_v, qx_kn_n, Nat.add_zero, Bool.false_eq_true, ↓reduceIte]
        rw [s306_79, g2]
    · rw [hf] at h216
      obtain ⟨M2, g2, u2, f2⟩ := ih (b + 1) c x M (by omega) (by omega) hu
      refine ⟨M2, ?_, u2, f2⟩
      have h0' : hqN n r q f a b = 0 := if_neg (by unfold hq; rw [hf, Bool.not_true, Bool.false_and, Bool.false_and]; decide)
      rw [h0', Nat.add_zero c]
      simp only [s306_33, s306_35, s306_36, s306_39, s306_40, s306_41, s306_44, s306_45, s306_46, s306_47, s306_49, s306_52, s306_55, s306_56, s306_57, s306_59, s306_62, s306_63, s306_66, s306_67, s306_70, s306_71, s306_74, s306_75i, s306_75r, s306_75n, s306_76i, s306_76r, s306_76n, k1, k2, k3, hn0, h1, h216, qbt, e0, nI_add, (qn_c (0) (by omega)).1, (qn_c (0) (by omega)).2, List.length_cons, List.length_nil, Nat.zero_le, Nat.reduceAdd, Nat.reduceLeDiff, Option.bind_some, qx_kn_v, qx_kn_n, Nat.add_zero, Bool.false_eq_true, ↓reduceIte]
      rw [s306_79, g2]
theorem m306o {d : Nat} (hp : qp_ok n r q f mt) : ∀ (k a c x : Nat) (M : qxM) (s4 : Option Value), a + k = n → nPu M n r q f mt →
    ∃ M', Rs L xs (d + 6) 306 18 [some (.ref 400), some (.int (nI (mF (qal r q f) (2 ^ n - 1)))), some (.int (nI c)), some (.int (nI a)), s4] [] M x = some (.inl (some (.int (nI (c + qp_sm (hqS n r q f) a k)))), M', x) ∧ qf qTb M M' := by
  obtain ⟨k1, k2, k3⟩ := qx_m400
  have hn14 := hp.1
  intro k
  induction k with
  | zero =>
    intro a c x M s4 ha hu
    have h1 : (nI n ≤ nI a) = True := by rw [show a = n by omega]; exact eq_true (Int32.le_refl _)
    refine ⟨M, ?_, qf_refl _ _⟩
    simp only [s306_18, s306_19, s306_20, s306_23, s306_24, s306_25, s306_88, s306_89, k1, k2, k3, hu.1, h1, qp_sm, Nat.add_zero, (qn_c (0) (by omega)).1, (qn_c (0) (by omega)).2, ↓reduceIte]
  | succ k ih =>
    intro a c x M s4 ha hu
    have h1 : ¬ nI n ≤ nI a := nI_ge (by omega) (by omega)
    obtain ⟨M1, g1, u1, f1⟩ := m306i (L := L) (xs := xs) (d := d) (a := a) hp (by omega) (n - (a + 1)) (a + 1) c x M (by omega) (by omega) hu
    obtain ⟨M2, g2, f2⟩ := ih (a + 1) (c + hqS n r q f a) x M1 (some (.int (nI n))) (by omega) u1
    refine ⟨M2, ?_, qf_trans f1 f2⟩
    rw [qp_sm_succ, ← Nat.add_assoc]
    have ha1 : nI a + nI 1 = nI (a + 1) := nI_add _ _
    simp only [s306_18, s306_19, s306_20, s306_23, s306_24, s306_25, s306_28, s306_29, s306_30, s306_31i, s306_31r, s306_31n, k1, k2, k3, hu.1, h1, ha1, (qn_c (0) (by omega)).1, (qn_c (0) (by omega)).2, ↓reduceIte]
    rw [g1]
    simp only [s306_82i, s306_82r, s306_82n, ha1]
    rw [s306_85]
    exact g2
end QL
section QL
variable {L : Nat} {xs : Nat → Int32} {d x : Nat}
theorem j136 {M : qxM} {B : Nat} (hR : qREL M) (hT0 : qTab B M) (hB : B < 90000) : qPairG Value.int B L xs (d + 40) 136 [some (.ref 10), none, none, none, none, none, none] 306 [some (.ref 400), none, none, none, none] ke0 M := by
  obtain ⟨k1, k2, k3⟩ := qx_m400
  rcases qREL_cmp hR with ⟨b1, b2, b3, b4⟩ | ⟨b1, b2, n, r, q, f, mt, s1, s2, s3, s4, st, rt, sp, bm, ou, inn, qb, e, as, qa, bs, lk, nr, fr, wy, hp, hn1, hT, hou, hinn, he14, hst4, hu, ⟨a1, a2, a3, a4⟩, hS, hm, ⟨v1, v2, v3, v4⟩, h35, hN⟩
  · refine qPairG_of hT0 hR 1 0 (by decide) ?_ ?_
    · rw [if_neg (by decide)]
      simp only [s136_0, s136_1, qx_m10, a159t b1, List.length_cons, List.length_nil, Nat.zero_le, Nat.reduceAdd, Nat.reduceLeDiff, Option.bind_some, qx_kn_v, qx_kn_n, Nat.add_zero, Bool.false_eq_true, ↓reduceIte]
      exact qx_kn_t rfl rfl rfl
    · intro o
      refine ⟨nI 0, ?_, fun h => absurd h (by decide)⟩
      have h1 := fun (d : Nat) => b263a (L := L) (xs := xs) (d := d) (x := 0) (M := (M.1, o)) b2
      simp only [s306_0, s306_1, s306_4, s306_7, s306_8, k1, h1, qbt, qbf, qi_z0, true_or, List.length_cons, List.length_nil, Nat.zero_le, Nat.reduceAdd, Nat.reduceLeDiff, Option.bind_some, qx_kn_v, qx_kn_n, Nat.add_zero, Bool.false_eq_true, ↓reduceIte]
  · have hn14 : n ≤ 14 := hp.1
    have hn0 : M.1 101 0 = nI n := hu.1
    have hneed := fun (d x : Nat) => a159 (L := L) (xs := xs) (d := d) (x := x) b1
    have hmay := fun (o : (Nat → Int64) × (Nat → UInt64)) (d : Nat) => b263c (L := L) (xs := xs) (d := d) (x := 0) (M := (M.1, o)) b2
    have hZ : qx_Z 104 := qx_T100.2.2
    have hP : qx_P 101 := qx_T100.2.1
    have hst0 : M.1 104 0 = nI st := hS.1.1
    have hst9 : ∀ {st : Nat}, st ≤ B + 1 → st < 100000 := fun h => by omega
    have hpos := Nat.two_pow_pos n
    have h16 := n14 hn14
    have hall : 2 ^ n - 1 < 16384 := by omega
    have ha := qal_ok hp hp.2.1
    obtain ⟨M1, st1, g1, s1, t1, f1⟩ := a168 (L := L) (xs := xs) (d := d + 36) (x := 0) hp hu hT0 hB
    obtain ⟨M2, g2, t2, f2⟩ := m1 (L := L) (xs := xs) (d := d + 21) (x := 0) ha (hst9 s1) hall t1
    have F2 := qf_trans f1 (qF_m f2)
    have u2 : qPu 101 M2 n r q f mt := by
      obtain ⟨u0, u1, u2, u3, u4⟩ := hu
      have e1 : M2.1 101 = M.1 101 := F2.1 101 (by unfold qFm; omega)
      have e2 : M2.1 102 = M.1 102 := F2.1 102 (by unfold qFm; omega)
      have e3 : M2.1 103 = M.1 103 := F2.1 103 (by unfold qFm; omega)
      exact ⟨by rw [e1, u0], by rw [e1, u1], by rw [e1, u2], fun p hp => by show M2.1 102 p = _; rw [e2]; exact u3 p hp, fun p hp => by show M2.1 103 p = _; rw [e3]; exact u4 p hp⟩
    obtain ⟨M3, g3, t3, f3⟩ := a136o (L := L) (xs := xs) (d := d + 21) hp (hst9 s1) n 0 0 0 M2 none none (by omega) t2 u2
    have F := qf_trans F2 (qF_m f3)
    rw [Nat.zero_add] at g3
    refine qPairG_mem hR (nI (qp_sm (hqS n r q f) 0 n)) ?_ F (qTab_s ha s1 t3) (fun o => ?_)
    · simp only [s136_0, s136_1, s136_4, s136_5, s136_8i, s136_8r, s136_8n, s136_9, s136_10, s136_13i, s136_13r, s136_13n, s136_14, s136_15i, s136_15r, s136_15n, s136_16, s136_17i, s136_17r, s136_17n, qx_m10, hneed, g1, g2, List.length_cons, List.length_nil, Nat.zero_le, Nat.reduceAdd, Nat.reduceLeDiff, Option.bind_some, qx_kn_v, qx_kn_n, Nat.add_zero, Bool.false_eq_true, ↓reduceIte]
      exact g3
    · have hu2 := nPu_F hm F o (nI 0)
      obtain ⟨M4, g4, l4, f4⟩ := m271 (L := L) (xs := xs) (d := d + 35) (x := 0) hp (al := qal r q f) (fun p _ => rfl) ha hu2
      have u4 : nPu M4 n r q f mt := by
        unfold nPu nMt
        rw [f4.1 401 (by unfold qTb; omega)]
        exact hu2
      obtain ⟨M5, g5, f5⟩ := m306o (L := L) (xs := xs) (d := d + 34) hp n 0 0 0 M4 none (by omega) u4
      rw [Nat.zero_add] at g5
      have h263 := fun d => mo263 (L := L) (xs := xs) b2 F o d
      refine ⟨M5, ?_, qf_trans f4 f5⟩
      simp only [s306_0, s306_1, s306_4, s306_7, s306_8, s306_9, s306_10, s306_13i, s306_13r, s306_13n, s306_14, s306_15i, s306_15r, s306_15n, s306_16, s306_17i, s306_17r, s306_17n, k1, h263, qbt, g4, List.length_cons, List.length_nil, Nat.zero_le, Nat.reduceAdd, Nat.reduceLeDiff, Option.bind_some, qx_kn_v, qx_kn_n, Nat.add_zero, Bool.false_eq_true, ↓reduceIte]
      exact g5
end QL
