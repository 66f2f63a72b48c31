/-! smallestProof. -/
def spE (P : Nat → Bool) (y o b f : Nat) : Prop := (sp P y = 16384 ∧ b = o ∧ f = 15) ∨ (sp P y ≠ 16384 ∧ b = sp P y ∧ f = qb_pc b)
theorem spE_yes {P : Nat → Bool} {y o b f : Nat} (hy : y < 16384) (h : spE P y o b f) (h1 : qb_pc y < f) (h2 : P y = true) : spE P (y + 1) o y (qb_pc y) := by
  refine Or.inr ?_
  have e : sp P (y + 1) = y := by
    rw [sp]
    rcases h with ⟨a1, a2, a3⟩ | ⟨a1, a2, a3⟩
    · rw [if_pos ⟨Or.inl a1, h2⟩]
    · rw [if_pos ⟨Or.inr (by rw [← a2, ← a3]; exact h1), h2⟩]
  rw [e]
  exact ⟨by omega, rfl, rfl⟩
theorem spE_no {P : Nat → Bool} {y o b f : Nat} (h : spE P y o b f) (h1 : ¬ (qb_pc y < f ∧ P y = true)) : spE P (y + 1) o b f := by
  have hle := qb_pc_le y
  have e : sp P (y + 1) = sp P y := by
    rw [sp]
    rcases h with ⟨a1, a2, a3⟩ | ⟨a1, a2, a3⟩
    · rw [if_neg (fun w => h1 ⟨by omega, w.2⟩)]
    · rw [if_neg (fun w => h1 ⟨by
        rcases w.1 with x | x
        · exact absurd x a1
        · rw [a3, a2]
          exact x, w.2⟩)]
  unfold spE
  rw [e]
  exact h
section QL
variable {L : Nat} {xs : Nat → Int32} {d x : Nat}
theorem qx_16384 : nI 16384 = nI 16384 := rfl
theorem a127l {al : Nat → Nat} {st n o : Nat} (ha : qAl al) (hst : st < 100000) (hn14 : n ≤ 14) (ho : o < 2 ^ n) (hP : ∀ s, s < 2 ^ n → prf al n s = true → ∀ j, s.testBit j = true → o.testBit j = true) (hex : sp (prf al n) (2 ^ n) ≠ 16384) {M : qxM} (hT : qTs al st (2 ^ n - 1) M) :
    ∀ (k y i b f x : Nat), o ≤ y + k → i ≤ y → y ≤ o → (∀ j, y.testBit j = true → o.testBit j = true) → spE (prf al n) y o b f →
      Rs L xs (d + 6) 127 45 [some (.ref 10), some (.ref 40), some (.int (nI o)), some (.int (nI (n - 2 * mF al (2 ^ n - 1)))), some (.int (nI b)), some (.int (nI f)), some (.int (nI y)), some (.int (nI i))] [] M x = some (.inl (some (.int (nI (sp (prf al n) (2 ^ n))))), M, x) := by
  have h16 := n14 hn14
  have ho16 : o < 16384 := by omega
  have hF := F_half (al := al) (show 2 ^ n - 1 < 16384 by omega)
  rw [qb_pc_all n (by omega)] at hF
  have h15 : ∀ s d, s < 16384 → Rs L xs (d + 5) 15 0 [some (.ref 40), some (.int (nI s)), some (.int (nI (n - 2 * mF al (2 ^ n - 1))))] [] M 0 = some (.inl (some (.int (bI (prf al n s)))), M, 0) := fun s d hs => by
    have g := m15 (L := L) (xs := xs) (d := d) (x := 0) (s := s) (k := n - 2 * mF al (2 ^ n - 1)) ha (show 2 ^ n - 1 < 16384 by omega) hs (by omega) hT
    have e : decide (od al 14 (qb_dif (2 ^ n - 1) s) = qb_pc s + (n - 2 * mF al (2 ^ n - 1))) = prf al n s := decide_eq_decide.mpr (by omega)
    rw [e] at g
    exact g
  -- all that comes behind o proves nothing
  have tail : ∀ m, o < m → m ≤ 2 ^ n → sp (prf al n) (2 ^ n) = sp (prf al n) m := fun m h1 h2 => by
    have h := sp_skip (P := prf al n) (m := m) (2 ^ n - m) (fun j a b w => by
      have := pc_le_of (hP j (by omega) w)
      omega)
    rw [show m + (2 ^ n - m) = 2 ^ n by omega] at h
    exact h
  intro k
  induction k with
  | zero =>
    intro y i b f x hk hi hy hsub hE
    have e : y = o := by omega
    subst e
    have h1 : ¬ nI 16384 ≤ nI i := nI_ge (by omega) (by decide)
    have hsb : (nI y - nI y) &&& nI y = 0 := by rw [Int32.sub_self, Int32.zero_and]
    have hlast : ∀ b1 f1, spE (prf al n) (y + 1) y b1 f1 → nI b1 = nI (sp (prf al n) (2 ^ n)) := fun b1 f1 h => by
      have e := tail (y + 1) (by omega) (by omega)
      rcases h with ⟨a1, _, _⟩ | ⟨_, a2, _⟩
      · exact absurd (e.trans a1) hex
      · rw [e, a2]
    by_cases hf : f = 0
    · subst hf
      have hle : (nI 0 ≤ 0) = True := by decide
      have hb : nI b = nI (sp (prf al n) (2 ^ n)) := hlast b 0 (spE_no hE (fun w => absurd w.1 (Nat.not_lt_zero _)))
      simp only [s127_45, s127_47, s127_50, s127_53, s127_55, s127_111, s127_113, qx_m40, h1, hle, hb, ↓reduceIte]
    · have hf15 : f ≤ 15 := by
        rcases hE with ⟨_, _, a⟩ | ⟨_, _, a⟩
        · omega
        · have := qb_pc_le b
          omega
      have hle : ¬ nI f ≤ 0 := nI_nle (by omega) (by omega)
      have e1 : (nI f ≤ nI (qb_pc y)) = (f ≤ qb_pc y) := qi_le (by omega) (by have := qb_pc_le y; omega)
      by_cases hc : f ≤ qb_pc y
      · have hb := hlast b f (spE_no hE (fun w => absurd w.1 (by omega)))
        simp only [s127_45, s127_47, s127_50, s127_53, s127_55, s127_58, s127_60, s127_63, s127_65, s127_68, s127_69, s127_71, s127_72, s127_75, s127_78, s127_80i, s127_80r, s127_80n, s127_82, s127_84, s127_87i, s127_87r, s127_87n, s127_89, s127_91, s127_92, s127_93, s127_94, s127_95i, s127_95r, s127_95n, s127_97, s127_99, s127_102, s127_111, s127_113, qx_m40, h1, hle, m334, qb_bc_ok ho16, e1, hc, hsb, hb, List.length_cons, List.length_nil, Nat.zero_le, Nat.reduceAdd, Nat.reduceLeDiff, Option.bind_some, qx_kn_v, qx_kn_n, Nat.add_zero, Bool.false_eq_true, ↓reduceIte]
      · cases hp : prf al n y
        · have hb := hlast b f (spE_no hE (fun w => by rw [hp] at w; exact absurd w.2 (by decide)))
          simp only [s127_45, s127_47, s127_50, s127_53, s127_55, s127_58, s127_60, s127_63, s127_65, s127_68, s127_69, s127_71, s127_72, s127_75, s127_78, s127_80i, s127_80r, s127_80n, s127_82, s127_84, s127_87i, s127_87r, s127_87n, s127_89, s127_91, s127_92, s127_93, s127_94, s127_95i, s127_95r, s127_95n, s127_97, s127_99, s127_102, s127_111, s127_113, qx_m40, h1, hle, m334, qb_bc_ok ho16, e1, hc, h15 y _ ho16, hp, qbf, hsb, hb, List.length_cons, List.length_nil, Nat.zero_le, Nat.reduceAdd, Nat.reduceLeDiff, Option.bind_some, qx_kn_v, qx_kn_n, Nat.add_zero, Bool.false_eq_true, ↓reduceIte]
        · have hb := hlast y (qb_pc y) (spE_yes ho16 hE (by omega) hp)
          simp only [s127_45, s127_47, s127_50, s127_53, s127_55, s127_58, s127_60, s127_63, s127_65, s127_68, s127_69, s127_71, s127_72, s127_75, s127_78, s127_80i, s127_80r, s127_80n, s127_82, s127_84, s127_87i, s127_87r, s127_87n, s127_89, s127_91, s127_92, s127_93, s127_94, s127_95i, s127_95r, s127_95n, s127_97, s127_99, s127_102, s127_111, s127_113, qx_m40, h1, hle, m334, qb_bc_ok ho16, e1, hc, h15 y _ ho16, hp, qbt, hsb, List.length_cons, List.length_nil, Nat.zero_le, Nat.reduceAdd, Nat.reduceLeDiff, Option.bind_some, qx_kn_v, qx_kn_n, Nat.add_zero, Bool.false_eq_true, ↓reduceIte]
          rw [hb]
  | succ k ih =>
    intro y i b f x hk hi hy hsub hE
    by_cases hyo : y = o
    · exact ih y i b f x (by omega) hi hy hsub hE
    have hy16 : y < 16384 := by omega
    have h1 : ¬ nI 16384 ≤ nI i := nI_ge (by omega) (by decide)
    have hlt := nx_lt ho16 hsub hyo
    have hsb := nx_int ho16 hsub hyo
    have hnxs : ∀ j, (nx o y).testBit j = true → o.testBit j = true := fun j hj => (qm_in.mp hj).1
    have hnxo : nx o y ≤ o := pc_le_of hnxs
    have hz : ¬ nI (nx o y) = 0 := nI_ne0 (by omega) (by omega)
    have hskip : ∀ b1 f1, spE (prf al n) (y + 1) o b1 f1 → spE (prf al n) (nx o y) o b1 f1 := fun b1 f1 h => by
      have e := sp_skip (P := prf al n) (m := y + 1) (nx o y - (y + 1)) (fun j a b w => by
        have := nx_least ho16 hsub hyo (hP j (by omega) w) (by omega)
        omega)
      rw [show y + 1 + (nx o y - (y + 1)) = nx o y by omega] at e
      unfold spE
      rw [e]
      exact h
    have hi1 : nI i + nI 1 = nI (i + 1) := nI_add _ _
    by_cases hf : f = 0
    · subst hf
      have hle : (nI 0 ≤ 0) = True := by decide
      have hb : nI b = nI (sp (prf al n) (2 ^ n)) := by
        rcases hE with ⟨_, _, a⟩ | ⟨a1, a2, a3⟩
        · omega
        · have := sp_stay (P := prf al n) a1 (by rw [← a2, ← a3]) (2 ^ n - y)
          rw [show y + (2 ^ n - y) = 2 ^ n by omega] at this
          rw [this, a2]
      simp only [s127_45, s127_47, s127_50, s127_53, s127_55, s127_111, s127_113, qx_m40, h1, hle, hb, ↓reduceIte]
    · have hf15 : f ≤ 15 := by
        rcases hE with ⟨_, _, a⟩ | ⟨_, _, a⟩
        · omega
        · have := qb_pc_le b
          omega
      have hle : ¬ nI f ≤ 0 := nI_nle (by omega) (by omega)
      have e1 : (nI f ≤ nI (qb_pc y)) = (f ≤ qb_pc y) := qi_le (by omega) (by have := qb_pc_le y; omega)
      by_cases hc : f ≤ qb_pc y
      · have g := ih (nx o y) (i + 1) b f x (by omega) (by omega) hnxo hnxs (hskip _ _ (spE_no hE (fun w => absurd w.1 (by omega))))
        simp only [s127_45, s127_47, s127_50, s127_53, s127_55, s127_58, s127_60, s127_63, s127_65, s127_68, s127_69, s127_71, s127_72, s127_75, s127_78, s127_80i, s127_80r, s127_80n, s127_82, s127_84, s127_87i, s127_87r, s127_87n, s127_89, s127_91, s127_92, s127_93, s127_94, s127_95i, s127_95r, s127_95n, s127_97, s127_99, s127_102, s127_105i, s127_105r, s127_105n, qx_m40, h1, hle, m334, qb_bc_ok hy16, e1, hc, hsb, hz, hi1, List.length_cons, List.length_nil, Nat.zero_le, Nat.reduceAdd, Nat.reduceLeDiff, Option.bind_some, qx_kn_v, qx_kn_n, Nat.add_zero, Bool.false_eq_true, ↓reduceIte]
        rw [s127_108, g]
      · cases hp : prf al n y
        · have g := ih (nx o y) (i + 1) b f x (by omega) (by omega) hnxo hnxs (hskip _ _ (spE_no hE (fun w => by rw [hp] at w; exact absurd w.2 (by decide))))
          simp only [s127_45, s127_47, s127_50, s127_53, s127_55, s127_58, s127_60, s127_63, s127_65, s127_68, s127_69, s127_71, s127_72, s127_75, s127_78, s127_80i, s127_80r, s127_80n, s127_82, s127_84, s127_87i, s127_87r, s127_87n, s127_89, s127_91, s127_92, s127_93, s127_94, s127_95i, s127_95r, s127_95n, s127_97, s127_99, s127_102, s127_105i, s127_105r, s127_105n, qx_m40, h1, hle, m334, qb_bc_ok hy16, e1, hc, h15 y _ hy16, hp, qbf, hsb, hz, hi1, List.length_cons, List.length_nil, Nat.zero_le, Nat.reduceAdd, Nat.reduceLeDiff, Option.bind_some, qx_kn_v, qx_kn_n, Nat.add_zero, Bool.false_eq_true, ↓reduceIte]
          rw [s127_108, g]
        · have g := ih (nx o y) (i + 1) y (qb_pc y) x (by omega) (by omega) hnxo hnxs (hskip _ _ (spE_yes hy16 hE (by omega) hp))
          simp only [s127_45, s127_47, s127_50, s127_53, s127_55, s127_58, s127_60, s127_63, s127_65, s127_68, s127_69, s127_71, s127_72, s127_75, s127_78, s127_80i, s127_80r, s127_80n, s127_82, s127_84, s127_87i, s127_87r, s127_87n, s127_89, s127_91, s127_92, s127_93, s127_94, s127_95i, s127_95r, s127_95n, s127_97, s127_99, s127_102, s127_105i, s127_105r, s127_105n, qx_m40, h1, hle, m334, qb_bc_ok hy16, e1, hc, h15 y _ hy16, hp, qbt, hsb, hz, hi1, List.length_cons, List.length_nil, Nat.zero_le, Nat.reduceAdd, Nat.reduceLeDiff, Option.bind_some, qx_kn_v, qx_kn_n, Nat.add_zero, Bool.false_eq_true, ↓reduceIte]
          rw [s127_108, g]
def spZ (P : Nat → Bool) (m : Nat) : Int32 := if sp P m = 16384 then -1 else nI (sp P m)
theorem m292l {al : Nat → Nat} {n : Nat} (ha : qAl al) (hn14 : n ≤ 14) {M : qxM} (hn : M.1 401 0 = nI n) (hl : qLay al n M) {its : Int32} : ∀ (k s x : Nat), s + k = 2 ^ n →
    Rs L xs (d + 4) 292 18 [some (.ref 400), some (.int its), some (.int (spZ (prf al n) s)), some (.int (nI s))] [] M x = some (.inl (some (.int (spZ (prf al n) (2 ^ n)))), M, x) := by
  obtain ⟨k1, k2, k3⟩ := qx_m400
  have h16 := n14 hn14
  have hpos := Nat.two_pow_pos n
  have h212 := fun d => m212 (L := L) (xs := xs) (d := d) (x := 0) hn hn14
  intro k
  induction k with
  | zero =>
    intro s x hs
    have e : s = 2 ^ n := by omega
    subst e
    have h1 : (nI (2 ^ n - 1) < nI (2 ^ n)) = True := eq_true (nI_lt (by omega) (by omega))
    simp only [s292_18, s292_19, s292_20, s292_23, s292_58, s292_59, k1, h212, h1, List.length_cons, List.length_nil, Nat.zero_le, Nat.reduceAdd, Nat.reduceLeDiff, Option.bind_some, qx_kn_v, qx_kn_n, Nat.add_zero, Bool.false_eq_true, ↓reduceIte]
  | succ k ih =>
    intro s x hs
    have hs16 : s < 16384 := by omega
    have h1 : ¬ nI (2 ^ n - 1) < nI s := by
      rw [i_nlt]
      exact nI_le (by omega) (by omega)
    have g := ih (s + 1) x (by omega)
    have h288 := m288 (L := L) (xs := xs) (d := d) (x := 0) (s := s) (M := M) ha hn14 hs16 hn hl
    have hs1 : nI s + nI 1 = nI (s + 1) := nI_add _ _
    have hsp := sp_some (P := prf al n) s
    unfold spZ at g ⊢
    by_cases z : sp (prf al n) s = 16384
    · have t : ((-1 : Int32) = -1) = True := eq_true rfl
      cases hp : prf al n s
      · have e : sp (prf al n) (s + 1) = sp (prf al n) s := by
          rw [sp, if_neg (fun w => by rw [hp] at w; exact absurd w.2 (by decide))]
        rw [hp] at h288
        rw [e, if_pos z] at g
        rw [if_pos z]
        simp only [s292_18, s292_19, s292_20, s292_23, s292_26, s292_27, s292_28, s292_31, s292_32, s292_35, s292_36, s292_39, s292_42, s292_43, s292_44, s292_47, s292_50, s292_51i, s292_51r, s292_51n, s292_52i, s292_52r, s292_52n, k1, h212, h1, t, h288, qbf, hs1, List.length_cons, List.length_nil, Nat.zero_le, Nat.reduceAdd, Nat.reduceLeDiff, Option.bind_some, qx_kn_v, qx_kn_n, Nat.add_zero, Bool.false_eq_true, ↓reduceIte]
        rw [s292_55, g]
      · have e : sp (prf al n) (s + 1) = s := by
          rw [sp, if_pos ⟨Or.inl z, hp⟩]
        rw [hp] at h288
        rw [e, if_neg (show ¬ s = 16384 by omega)] at g
        rw [if_pos z]
        simp only [s292_18, s292_19, s292_20, s292_23, s292_26, s292_27, s292_28, s292_31, s292_32, s292_35, s292_36, s292_39, s292_42, s292_43, s292_44, s292_47, s292_50, s292_51i, s292_51r, s292_51n, s292_52i, s292_52r, s292_52n, k1, h212, h1, t, h288, qbt, hs1, List.length_cons, List.length_nil, Nat.zero_le, Nat.reduceAdd, Nat.reduceLeDiff, Option.bind_some, qx_kn_v, qx_kn_n, Nat.add_zero, Bool.false_eq_true, ↓reduceIte]
        rw [s292_55, g]
    · obtain ⟨y1, y2⟩ := hsp.resolve_left z
      have hb16 : sp (prf al n) s < 16384 := by omega
      have t := qi_n1 (show sp (prf al n) s < 2 ^ 31 by omega)
      have e1 : (nI (qb_pc (sp (prf al n) s)) ≤ nI (qb_pc s)) = (qb_pc (sp (prf al n) s) ≤ qb_pc s) := qi_le (by have := qb_pc_le (sp (prf al n) s); omega) (by have := qb_pc_le s; omega)
      by_cases hc : qb_pc (sp (prf al n) s) ≤ qb_pc s
      · have e : sp (prf al n) (s + 1) = sp (prf al n) s := by
          rw [sp, if_neg (fun w => by
            rcases w.1 with a | a
            · exact z a
            · omega)]
        rw [e, if_neg z] at g
        rw [if_neg z]
        simp only [s292_18, s292_19, s292_20, s292_23, s292_26, s292_27, s292_28, s292_31, s292_32, s292_35, s292_36, s292_39, s292_42, s292_43, s292_44, s292_47, s292_50, s292_51i, s292_51r, s292_51n, s292_52i, s292_52r, s292_52n, k1, h212, h1, t, m209 hs16, m209 hb16, e1, hc, hs1, List.length_cons, List.length_nil, Nat.zero_le, Nat.reduceAdd, Nat.reduceLeDiff, Option.bind_some, qx_kn_v, qx_kn_n, Nat.add_zero, Bool.false_eq_true, ↓reduceIte]
        rw [s292_55, g]
      · cases hp : prf al n s
        · have e : sp (prf al n) (s + 1) = sp (prf al n) s := by
            rw [sp, if_neg (fun w => by rw [hp] at w; exact absurd w.2 (by decide))]
          rw [hp] at h288
          rw [e, if_neg z] at g
          rw [if_neg z]
          simp only [s292_18, s292_19, s292_20, s292_23, s292_26, s292_27, s292_28, s292_31, s292_32, s292_35, s292_36, s292_39, s292_42, s292_43, s292_44, s292_47, s292_50, s292_51i, s292_51r, s292_51n, s292_52i, s292_52r, s292_52n, k1, h212, h1, t, m209 hs16, m209 hb16, e1, hc, h288, qbf, hs1, List.length_cons, List.length_nil, Nat.zero_le, Nat.reduceAdd, Nat.reduceLeDiff, Option.bind_some, qx_kn_v, qx_kn_n, Nat.add_zero, Bool.false_eq_true, ↓reduceIte]
          rw [s292_55, g]
        · have e : sp (prf al n) (s + 1) = s := by
            rw [sp, if_pos ⟨Or.inr (by omega), hp⟩]
          rw [hp] at h288
          rw [e, if_neg (show ¬ s = 16384 by omega)] at g
          rw [if_neg z]
          simp only [s292_18, s292_19, s292_20, s292_23, s292_26, s292_27, s292_28, s292_31, s292_32, s292_35, s292_36, s292_39, s292_42, s292_43, s292_44, s292_47, s292_50, s292_51i, s292_51r, s292_51n, s292_52i, s292_52r, s292_52n, k1, h212, h1, t, m209 hs16, m209 hb16, e1, hc, h288, qbt, hs1, List.length_cons, List.length_nil, Nat.zero_le, Nat.reduceAdd, Nat.reduceLeDiff, Option.bind_some, qx_kn_v, qx_kn_n, Nat.add_zero, Bool.false_eq_true, ↓reduceIte]
          rw [s292_55, g]
theorem prf_sub {al : Nat → Nat} {n s : Nat} (ha : qAl al) (hn14 : n ≤ 14) (hs : s < 2 ^ n) (h : prf al n s = true) : ∀ j, s.testBit j = true → (qb_dif (2 ^ n - 1) (qLo al (2 ^ n - 1))).testBit j = true := by
  have h16 := n14 hn14
  have hall : 2 ^ n - 1 < 16384 := by have := Nat.two_pow_pos n; omega
  have hsub : ∀ j, s.testBit j = true → (2 ^ n - 1).testBit j = true := fun j hj => by rw [Nat.testBit_two_pow_sub_one, decide_eq_true (qj_n hs hj)]
  unfold prf at h
  have e := of_decide_eq_true h
  intro j hj
  refine qm_in.mpr ⟨hsub j hj, fun y => ?_⟩
  have t := od_tight ha.1 (k := 14) hall hsub (by rw [qb_pc_all n (by omega)]; omega) hj
  unfold qLo at y
  rw [qb_of_bit, Bool.and_eq_true, Bool.and_eq_true, decide_eq_true_eq, decide_eq_true_eq] at y
  omega
theorem prf_ex {al : Nat → Nat} {n : Nat} (ha : qAl al) (hn14 : n ≤ 14) : sp (prf al n) (2 ^ n) ≠ 16384 := by
  have h16 := n14 hn14
  have hpos := Nat.two_pow_pos n
  have hall : 2 ^ n - 1 < 16384 := by omega
  obtain ⟨A, a1, a2⟩ := od_ex ha.1 _ (2 ^ n - 1) (Nat.le_refl _) hall
  intro h
  have hA : A ≤ 2 ^ n - 1 := pc_le_of a1
  refine sp_none (2 ^ n) (by omega) h A (by omega) ?_
  unfold prf
  rw [qb_pc_all n (by omega)] at a2
  exact decide_eq_true a2.symm
noncomputable def spN (al : Nat → Nat) (n : Nat) : Nat := sp (prf al n) (2 ^ n)
theorem j127 {M : qxM} {B : Nat} (hR : qREL M) (hT0 : qTab B M) (hB : B < 90000) : qPairG Value.int B L xs (d + 40) 127 [some (.ref 10), none, none, none, none, none, none, none] 292 [some (.ref 400), none, none, none] ke0 M := by
  obtain ⟨k1, k2, k3⟩ := qx_m400
  rcases qREL_cmp hR with ⟨b1, b2, b3, b4⟩ | ⟨b1, b2, n, r, q, f, mt, s1, s2, s3, s4, st, rt, sp, bm, ou, inn, qb, e, as, qa, bs, lk, nr, fr, wy, hp, hn1, hT, hou, hinn, he14, hst4, hu, ⟨a1, a2, a3, a4⟩, hS, hm, ⟨v1, v2, v3, v4⟩, h35, hN⟩
  · refine qPairG_of hT0 hR 1 0 (by decide) ?_ ?_
    · rw [if_neg (by decide)]
      simp only [s127_0, s127_1, qx_m10, a159t b1, List.length_cons, List.length_nil, Nat.zero_le, Nat.reduceAdd, Nat.reduceLeDiff, Option.bind_some, qx_kn_v, qx_kn_n, Nat.add_zero, Bool.false_eq_true, ↓reduceIte]
      exact qx_kn_t rfl rfl rfl
    · intro o
      refine ⟨nI 0, ?_, fun h => absurd h (by decide)⟩
      have h1 := fun (d : Nat) => b263a (L := L) (xs := xs) (d := d) (x := 0) (M := (M.1, o)) b2
      simp only [s292_0, s292_1, s292_4, s292_7, s292_8, k1, h1, qbt, qbf, qi_z0, true_or, List.length_cons, List.length_nil, Nat.zero_le, Nat.reduceAdd, Nat.reduceLeDiff, Option.bind_some, qx_kn_v, qx_kn_n, Nat.add_zero, Bool.false_eq_true, ↓reduceIte]
  · have hn14 : n ≤ 14 := hp.1
    have hn0 : M.1 101 0 = nI n := hu.1
    have hneed := fun (d x : Nat) => a159 (L := L) (xs := xs) (d := d) (x := x) b1
    have hmay := fun (o : (Nat → Int64) × (Nat → UInt64)) (d : Nat) => b263c (L := L) (xs := xs) (d := d) (x := 0) (M := (M.1, o)) b2
    have hZ : qx_Z 104 := qx_T100.2.2
    have hP : qx_P 101 := qx_T100.2.1
    have hst0 : M.1 104 0 = nI st := hS.1.1
    have hst9 : ∀ {st : Nat}, st ≤ B + 1 → st < 100000 := fun h => by omega
    have hpos := Nat.two_pow_pos n
    have h16 := n14 hn14
    have hall : 2 ^ n - 1 < 16384 := by omega
    have ha := qal_ok hp hp.2.1
    obtain ⟨M1, st1, g1, s1, t1, f1⟩ := a168 (L := L) (xs := xs) (d := d + 36) (x := 0) hp hu hT0 hB
    have h36 := m36 (L := L) (xs := xs) (d := d + 38) (x := 0) (M := M1) hP (by rw [f1.1 101 (by unfold qFm; omega)]; exact hn0) hn14
    obtain ⟨M2, g2, t2, f2⟩ := m10 (L := L) (xs := xs) (d := d + 20) (x := 0) ha (hst9 s1) hall t1
    obtain ⟨M3, g3, t3, f3⟩ := m2 (L := L) (xs := xs) (d := d + 20) (x := 0) ha (hst9 s1) hall t2
    rw [qb_pc_all n (by omega)] at g3
    have F := qf_trans f1 (qf_trans (qF_m f2) (qF_m f3))
    have hoo : qb_dif (2 ^ n - 1) (qLo (qal r q f) (2 ^ n - 1)) < 2 ^ n := by
      have : qb_dif (2 ^ n - 1) (qLo (qal r q f) (2 ^ n - 1)) ≤ 2 ^ n - 1 := pc_le_of (fun j hj => (qm_in.mp hj).1)
      omega
    have g4 := a127l (L := L) (xs := xs) (d := d + 34) (o := qb_dif (2 ^ n - 1) (qLo (qal r q f) (2 ^ n - 1))) ha (hst9 s1) hn14 hoo (fun s hs h => prf_sub ha hn14 hs h) (prf_ex ha hn14) t3 (qb_dif (2 ^ n - 1) (qLo (qal r q f) (2 ^ n - 1))) 0 0 (qb_dif (2 ^ n - 1) (qLo (qal r q f) (2 ^ n - 1))) 15 0 (by omega) (Nat.le_refl _) (Nat.zero_le _) (fun j hj => absurd hj zb) (Or.inl ⟨rfl, rfl, rfl⟩)
    refine qPairG_mem hR (nI (spN (qal r q f) n)) ?_ F (qTab_s ha s1 t3) (fun o => ?_)
    · simp only [s127_0, s127_1, s127_4, s127_5, s127_8i, s127_8r, s127_8n, s127_9, s127_10, s127_13, s127_16, s127_19, s127_20, s127_23, s127_24, s127_25, s127_26i, s127_26r, s127_26n, s127_27, s127_28, s127_31i, s127_31r, s127_31n, s127_32, s127_33i, s127_33r, s127_33n, s127_35, s127_37i, s127_37r, s127_37n, s127_39, s127_40i, s127_40r, s127_40n, s127_42, s127_43i, s127_43r, s127_43n, qx_m10, qx_T100.1, hP.1, hneed, g1, h36, g2, qb_andn, g3, List.length_cons, List.length_nil, Nat.zero_le, Nat.reduceAdd, Nat.reduceLeDiff, Option.bind_some, qx_kn_v, qx_kn_n, Nat.add_zero, Bool.false_eq_true, ↓reduceIte]
      exact g4
    · have hu2 := nPu_F hm F o (nI 0)
      obtain ⟨M4, g5, l4, f4⟩ := m271 (L := L) (xs := xs) (d := d + 35) (x := 0) hp (al := qal r q f) (fun p _ => rfl) ha hu2
      have hn3 : M4.1 401 0 = nI n := by rw [f4.1 401 (by unfold qTb; omega)]; exact hu2.1
      have h263 := fun d => mo263 (L := L) (xs := xs) b2 F o d
      have g6 := m292l (L := L) (xs := xs) (d := d + 36) ha hn14 hn3 l4 (its := nI (mF (qal r q f) (2 ^ n - 1))) (2 ^ n) 0 0 (by omega)
      have e1 : spZ (prf (qal r q f) n) 0 = -1 := rfl
      have e2 : spZ (prf (qal r q f) n) (2 ^ n) = nI (spN (qal r q f) n) := if_neg (prf_ex ha hn14)
      rw [e1, e2] at g6
      refine ⟨M4, ?_, f4⟩
      simp only [s292_0, s292_1, s292_4, s292_7, s292_8, s292_9, s292_10, s292_13i, s292_13r, s292_13n, s292_14, s292_15i, s292_15r, s292_15n, s292_16, s292_17i, s292_17r, s292_17n, k1, h263, qbt, g5, List.length_cons, List.length_nil, Nat.zero_le, Nat.reduceAdd, Nat.reduceLeDiff, Option.bind_some, qx_kn_v, qx_kn_n, Nat.add_zero, Bool.false_eq_true, ↓reduceIte]
      exact g6
end QL
