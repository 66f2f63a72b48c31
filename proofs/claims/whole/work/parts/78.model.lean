/-! Pairs that are parted, counts: of the class, of the Model. -/
def qm_pf (al : Nat → Nat) : Nat → Nat → (Nat → Nat) → Nat → (Nat → Nat) × Nat
  | 0, _, mt, c => (mt, c)
  | k + 1, i, mt, c => if mt i < 14 ∧ (al i).testBit (mt i) = false then qm_pf al k (i + 1) (qu (qu mt (mt i) 14) i 14) (c + 1) else qm_pf al k (i + 1) mt c
theorem qm_unjoin {n : Nat} {mt : Nat → Nat} (hn : n ≤ 14) (h : qm_ok n mt) {i : Nat} (hi : i < 14) (hm : mt i < 14) : qm_ok n (qu (qu mt (mt i) 14) i 14) := by
  intro p hp hq
  have hi2 := h i hi hm
  by_cases e : p = i
  · rw [e, qu_eq] at hq
    omega
  · rw [qu_ne _ _ e] at hq ⊢
    by_cases e2 : p = mt i
    · rw [e2, qu_eq] at hq
      omega
    · rw [qu_ne _ _ e2] at hq ⊢
      obtain ⟨a1, a2, a3, a4⟩ := h p hp hq
      refine ⟨a1, a2, a3, ?_⟩
      have b1 : mt p ≠ i := fun z => by
        rw [z] at a4
        exact e2 a4.symm
      have b2 : mt p ≠ mt i := fun z => by
        rw [z, hi2.2.2.2] at a4
        exact e a4.symm
      rw [qu_ne _ _ b1, qu_ne _ _ b2, a4]
theorem qm_pf_ok {n : Nat} {al : Nat → Nat} (hn : n ≤ 14) : ∀ (k i : Nat) (mt : Nat → Nat) (c : Nat), i + k = n → qm_ok n mt → qm_ok n (qm_pf al k i mt c).1 ∧ (qm_pf al k i mt c).2 ≤ c + k
  | 0, i, mt, c, _, h => ⟨h, by show c ≤ c + 0; omega⟩
  | k + 1, i, mt, c, hi, h => by
    rw [qm_pf]
    by_cases z : mt i < 14 ∧ (al i).testBit (mt i) = false
    · rw [if_pos z]
      have := qm_pf_ok (al := al) hn k (i + 1) _ (c + 1) (by omega) (qm_unjoin hn h (by omega) z.1)
      exact ⟨this.1, by omega⟩
    · rw [if_neg z]
      have := qm_pf_ok (al := al) hn k (i + 1) mt c (by omega) h
      exact ⟨this.1, by omega⟩
/-- how many have mates, halved -/
def qm_np (n : Nat) (mt : Nat → Nat) : Nat := fb_ct (fun p => decide (mt p < 14)) n / 2
theorem qp_sm_ct (p : Nat → Bool) : ∀ (k i : Nat), qp_sm (fun j => if p j then 1 else 0) i k + fb_ct p i = fb_ct p (i + k)
  | 0, i => by
    rw [qp_sm]
    simp
  | k + 1, i => by
    have h := qp_sm_ct p k (i + 1)
    rw [qp_sm_succ, show i + (k + 1) = i + 1 + k by omega, ← h, fb_ct_succ]
    omega
theorem qp_sm_cong {f g : Nat → Nat} : ∀ (k i : Nat), (∀ j, i ≤ j → j < i + k → f j = g j) → qp_sm f i k = qp_sm g i k
  | 0, _, _ => rfl
  | k + 1, i, h => by
    rw [qp_sm_succ, qp_sm_succ, h i (Nat.le_refl _) (by omega), qp_sm_cong k (i + 1) (fun j h1 h2 => h j (by omega) (by omega))]
section QL
variable {L : Nat} {xs : Nat → Int32} {d x : Nat} {u n r q : Nat} {f mt : Nat → Nat}
theorem g51l (hP : qx_P u) : ∀ (k i c : Nat) (M : qxM) (mt : Nat → Nat) (a3 : Option Value), i + k = n → c + k ≤ 1000 → qp_ok n r q f mt → qPu u M n r q f mt →
    ∃ M', Rs L xs (d + 3) 51 4 [some (.ref u), some (.int (nI c)), some (.int (nI i)), a3] [] M x = some (.inl (some (.int (nI (qm_pf (fun p => qp_al r q (f p) p) k i mt c).2))), M', x) ∧ qMt u M' (qm_pf (fun p => qp_al r q (f p) p) k i mt c).1 ∧ qf (fun a => a = u + 2) M M' := by
  intro k
  induction k with
  | zero =>
    intro i c M mt a3 hi hc hp hu
    have h1 : (nI n ≤ nI i) = True := by rw [show i = n by omega]; exact eq_true (Int32.le_refl _)
    refine ⟨M, ?_, hu.2.2.2.2, qf_refl _ _⟩
    simp only [s51_0, s51_1i, s51_1r, s51_1n, s51_2, s51_3i, s51_3r, s51_3n, s51_4, s51_5, s51_6, s51_9, s51_12, s51_13, s51_14, s51_17i, s51_17r, s51_17n, s51_18, s51_19, s51_20, s51_23, s51_24, s51_25, s51_28, s51_29, s51_32, s51_35, s51_36, s51_37, s51_40i, s51_40r, s51_40n, s51_43i, s51_43r, s51_43n, s51_49, s51_50, hP.1, hu.1, h1, ↓reduceIte]
    rfl
  | succ k ih =>
    intro i c M mt a3 hi hc hp hu
    have hn14 := hp.1
    have h1 : ¬ nI n ≤ nI i := nI_ge (by omega) (by omega)
    have hi14 : i < 14 := by omega
    obtain ⟨u0, u1, u2, u3, u4⟩ := hu
    have hmi : M.1 (u + 2) i = qz (mt i) := u4 i hi14
    have hf14 := qp_f14 hp hi14
    have hal := qp_al_lt (r := r) (k := q) (p := i) hf14
    rw [qm_pf]
    by_cases z : mt i < 14
    · have hz2 : qz (mt i) = nI (mt i) := qz_lt z
      have hn1 := qi_n1 (show mt i < 2 ^ 31 by omega)
      by_cases y : (qp_al r q (f i) i).testBit (mt i) = false
      · rw [if_pos ⟨z, y⟩]
        have hm50 : M.1 (u + 2) i = nI (mt i) := by rw [hmi, hz2]
        have f1 : qf (fun a => a = u + 2) M (qx_up (qx_up M (u + 2) (mt i) (-1)) (u + 2) i (-1)) := qf_trans (qf_up _ _ _ _ rfl) (qf_up _ _ _ _ rfl)
        have hp1 : qp_ok n r q f (qu (qu mt (mt i) 14) i 14) := by
          obtain ⟨p1, p2, p3, p4, p5, p6⟩ := hp
          exact ⟨p1, p2, p3, p4, p5, qm_unjoin p1 p6 hi14 z⟩
        have m1 : qMt u (qx_up (qx_up M (u + 2) (mt i) (-1)) (u + 2) i (-1)) (qu (qu mt (mt i) 14) i 14) := qMt_up (z := 14) (qMt_up (z := 14) u4)
        obtain ⟨M2, g2, m2, f2⟩ := ih (i + 1) (c + 1) _ _ (some (.int (nI (mt i)))) (by omega) (by omega) hp1 (qPu_step (t := 0) ⟨u0, u1, u2, u3, u4⟩ f1 m1 (by omega) (by omega))
        refine ⟨M2, ?_, m2, qf_trans f1 f2⟩
        simp only [s51_0, s51_1i, s51_1r, s51_1n, s51_2, s51_3i, s51_3r, s51_3n, s51_4, s51_5, s51_6, s51_9, s51_12, s51_13, s51_14, s51_17i, s51_17r, s51_17n, s51_18, s51_19, s51_20, s51_23, s51_24, s51_25, s51_28, s51_29, s51_32, s51_35, s51_36, s51_37, s51_40i, s51_40r, s51_40n, s51_43i, s51_43r, s51_43n, s51_49, s51_50, hP.1, u0, h1, m46 hP hi14, hmi, hz2, hn1, m42 hP hi14 hp.2.1 u1 u2 hp.2.2.1 (u3 i hi14), m170 (show qp_al r q (f i) i < 2 ^ 31 by omega) (show mt i < 31 by omega), y, bI_0, m50 hP hi14 z hm50, nI_add, List.length_cons, List.length_nil, Nat.zero_le, Nat.reduceAdd, Nat.reduceLeDiff, Option.bind_some, qx_kn_v, qx_kn_n, Nat.add_zero, Bool.false_eq_true, ↓reduceIte]
        rw [s51_46, g2]
      · rw [if_neg (fun w => y w.2)]
        have y2 : (qp_al r q (f i) i).testBit (mt i) = true := by simpa using y
        obtain ⟨M2, g2, m2, f2⟩ := ih (i + 1) c M mt (some (.int (nI (mt i)))) (by omega) (by omega) hp ⟨u0, u1, u2, u3, u4⟩
        refine ⟨M2, ?_, m2, f2⟩
        simp only [s51_0, s51_1i, s51_1r, s51_1n, s51_2, s51_3i, s51_3r, s51_3n, s51_4, s51_5, s51_6, s51_9, s51_12, s51_13, s51_14, s51_17i, s51_17r, s51_17n, s51_18, s51_19, s51_20, s51_23, s51_24, s51_25, s51_28, s51_29, s51_32, s51_35, s51_36, s51_37, s51_40i, s51_40r, s51_40n, s51_43i, s51_43r, s51_43n, s51_49, s51_50, hP.1, u0, h1, m46 hP hi14, hmi, hz2, hn1, m42 hP hi14 hp.2.1 u1 u2 hp.2.2.1 (u3 i hi14), m170 (show qp_al r q (f i) i < 2 ^ 31 by omega) (show mt i < 31 by omega), y2, bI_0, Bool.true_eq_false, nI_add, List.length_cons, List.length_nil, Nat.zero_le, Nat.reduceAdd, Nat.reduceLeDiff, Option.bind_some, qx_kn_v, qx_kn_n, Nat.add_zero, Bool.false_eq_true, ↓reduceIte]
        rw [s51_46, g2]
    · rw [if_neg (fun w => z w.1)]
      have hz2 : qz (mt i) = -1 := qz_ge z
      obtain ⟨M2, g2, m2, f2⟩ := ih (i + 1) c M mt (some (.int (-1))) (by omega) (by omega) hp ⟨u0, u1, u2, u3, u4⟩
      refine ⟨M2, ?_, m2, f2⟩
      simp only [s51_0, s51_1i, s51_1r, s51_1n, s51_2, s51_3i, s51_3r, s51_3n, s51_4, s51_5, s51_6, s51_9, s51_12, s51_13, s51_14, s51_17i, s51_17r, s51_17n, s51_18, s51_19, s51_20, s51_23, s51_24, s51_25, s51_28, s51_29, s51_32, s51_35, s51_36, s51_37, s51_40i, s51_40r, s51_40n, s51_43i, s51_43r, s51_43n, s51_49, s51_50, hP.1, u0, h1, m46 hP hi14, hmi, hz2, eq_self, nI_add, List.length_cons, List.length_nil, Nat.zero_le, Nat.reduceAdd, Nat.reduceLeDiff, Option.bind_some, qx_kn_v, qx_kn_n, Nat.add_zero, Bool.false_eq_true, ↓reduceIte]
      rw [s51_46, g2]
theorem g51 (hP : qx_P u) {M : qxM} (hp : qp_ok n r q f mt) (hu : qPu u M n r q f mt) :
    ∃ M', Rs L xs (d + 3) 51 0 [some (.ref (u)), none, none, none] [] (M) x = some (.inl (some (.int (nI (qm_pf (fun p => qp_al r q (f p) p) n 0 mt 0).2))), M', x) ∧ qMt u M' (qm_pf (fun p => qp_al r q (f p) p) n 0 mt 0).1 ∧ qf (fun a => a = u + 2) M M' := by
  have hn14 := hp.1
  obtain ⟨M2, g2, m2, f2⟩ := g51l (L := L) (xs := xs) (d := d) (x := x) hP n 0 0 M mt none (by omega) (by omega) hp hu
  refine ⟨M2, ?_, m2, f2⟩
  simp only [s51_0, s51_1i, s51_1r, s51_1n, s51_2, s51_3i, s51_3r, s51_3n]
  exact g2
theorem g221l : ∀ (k i c : Nat) (M : qxM) (mt : Nat → Nat), i + k = n → c + k ≤ 1000 → qp_ok n r q f mt → nPu M n r q f mt →
    ∃ M', Rs L xs (d + 3) 221 4 [some (.ref 400), some (.int (nI c)), some (.int (nI i))] [] M x = some (.inl (some (.int (nI (qm_pf (fun p => qp_al r q (f p) p) k i mt c).2))), M', x) ∧ nMt M' (qm_pf (fun p => qp_al r q (f p) p) k i mt c).1 ∧ mf (fun j => 21 ≤ j ∧ j < 35) M M' := by
  obtain ⟨k1, k2, k3⟩ := qx_m400
  intro k
  induction k with
  | zero =>
    intro i c M mt hi hc hp hu
    have h1 : (nI n ≤ nI i) = True := by rw [show i = n by omega]; exact eq_true (Int32.le_refl _)
    refine ⟨M, ?_, hu.2.2.2.2, mf_refl _ _⟩
    simp only [s221_0, s221_1i, s221_1r, s221_1n, s221_2, s221_3i, s221_3r, s221_3n, s221_4, s221_5, s221_6, s221_9, s221_10, s221_11, s221_14, s221_15, s221_16, s221_19, s221_20, s221_23, s221_24, s221_25, s221_26, s221_27, s221_30, s221_33, s221_36, s221_39, s221_40, s221_41, s221_44i, s221_44r, s221_44n, s221_47i, s221_47r, s221_47n, s221_53, s221_54, k1, k2, k3, hu.1, h1, (qn_c (0) (by omega)).1, (qn_c (0) (by omega)).2, ↓reduceIte]
    rfl
  | succ k ih =>
    intro i c M mt hi hc hp hu
    have hn14 := hp.1
    have h1 : ¬ nI n ≤ nI i := nI_ge (by omega) (by omega)
    have hi14 : i < 14 := by omega
    obtain ⟨u0, u1, u2, u3, u4⟩ := hu
    have hmi : M.1 401 (21 + i) = qz (mt i) := u4 i hi14
    have hf14 := qp_f14 hp hi14
    rw [qm_pf]
    by_cases z : mt i < 14
    · have hz2 : qz (mt i) = nI (mt i) := qz_lt z
      have hn1 := qi_n1 (show mt i < 2 ^ 31 by omega)
      by_cases y : (qp_al r q (f i) i).testBit (mt i) = false
      · rw [if_pos ⟨z, y⟩]
        have hm50 : M.1 401 (21 + i) = nI (mt i) := by rw [hmi, hz2]
        have f1 : mf (fun j => 21 ≤ j ∧ j < 35) M (qx_up (qx_up M 401 (21 + mt i) (-1)) 401 (21 + i) (-1)) := mf_trans (mf_up _ _ _ (by omega)) (mf_up _ _ _ (by omega))
        have hp1 : qp_ok n r q f (qu (qu mt (mt i) 14) i 14) := by
          obtain ⟨p1, p2, p3, p4, p5, p6⟩ := hp
          exact ⟨p1, p2, p3, p4, p5, qm_unjoin p1 p6 hi14 z⟩
        have m1 : nMt (qx_up (qx_up M 401 (21 + mt i) (-1)) 401 (21 + i) (-1)) (qu (qu mt (mt i) 14) i 14) := by
          intro p hp
          rw [qx_up_at]
          by_cases e : p = i
          · rw [if_pos ⟨rfl, by omega⟩, e, qu_eq]
            rfl
          · rw [if_neg (by omega), qu_ne _ _ e, qx_up_at]
            by_cases e2 : p = mt i
            · rw [if_pos ⟨rfl, by omega⟩, e2, qu_eq]
              rfl
            · rw [if_neg (by omega), qu_ne _ _ e2, u4 p hp]
        obtain ⟨M2, g2, m2, f2⟩ := ih (i + 1) (c + 1) _ _ (by omega) (by omega) hp1 (nPu_step ⟨u0, u1, u2, u3, u4⟩ f1 m1 (by omega))
        refine ⟨M2, ?_, m2, mf_trans f1 f2⟩
        simp only [s221_0, s221_1i, s221_1r, s221_1n, s221_2, s221_3i, s221_3r, s221_3n, s221_4, s221_5, s221_6, s221_9, s221_10, s221_11, s221_14, s221_15, s221_16, s221_19, s221_20, s221_23, s221_24, s221_25, s221_26, s221_27, s221_30, s221_33, s221_36, s221_39, s221_40, s221_41, s221_44i, s221_44r, s221_44n, s221_47i, s221_47r, s221_47n, s221_53, s221_54, k1, k2, k3, u0, h1, m213 hi14, hmi, hz2, hn1, m219 hi14 z (u3 i hi14) hf14 u1 hp.2.1 u2 hp.2.2.1, y, bI_0, m215 hi14 z hm50, nI_add, (qn_c (0) (by omega)).1, (qn_c (0) (by omega)).2, List.length_cons, List.length_nil, Nat.zero_le, Nat.reduceAdd, Nat.reduceLeDiff, Option.bind_some, qx_kn_v, qx_kn_n, Nat.add_zero, Bool.false_eq_true, ↓reduceIte]
        rw [s221_50, g2]
      · rw [if_neg (fun w => y w.2)]
        have y2 : (qp_al r q (f i) i).testBit (mt i) = true := by simpa using y
        obtain ⟨M2, g2, m2, f2⟩ := ih (i + 1) c M mt (by omega) (by omega) hp ⟨u0, u1, u2, u3, u4⟩
        refine ⟨M2, ?_, m2, f2⟩
        simp only [s221_0, s221_1i, s221_1r, s221_1n, s221_2, s221_3i, s221_3r, s221_3n, s221_4, s221_5, s221_6, s221_9, s221_10, s221_11, s221_14, s221_15, s221_16, s221_19, s221_20, s221_23, s221_24, s221_25, s221_26, s221_27, s221_30, s221_33, s221_36, s221_39, s221_40, s221_41, s221_44i, s221_44r, s221_44n, s221_47i, s221_47r, s221_47n, s221_53, s221_54, k1, k2, k3, u0, h1, m213 hi14, hmi, hz2, hn1, m219 hi14 z (u3 i hi14) hf14 u1 hp.2.1 u2 hp.2.2.1, y2, bI_0, Bool.true_eq_false, nI_add, (qn_c (0) (by omega)).1, (qn_c (0) (by omega)).2, List.length_cons, List.length_nil, Nat.zero_le, Nat.reduceAdd, Nat.reduceLeDiff, Option.bind_some, qx_kn_v, qx_kn_n, Nat.add_zero, Bool.false_eq_true, ↓reduceIte]
        rw [s221_50, g2]
    · rw [if_neg (fun w => z w.1)]
      have hz2 : qz (mt i) = -1 := qz_ge z
      obtain ⟨M2, g2, m2, f2⟩ := ih (i + 1) c M mt (by omega) (by omega) hp ⟨u0, u1, u2, u3, u4⟩
      refine ⟨M2, ?_, m2, f2⟩
      simp only [s221_0, s221_1i, s221_1r, s221_1n, s221_2, s221_3i, s221_3r, s221_3n, s221_4, s221_5, s221_6, s221_9, s221_10, s221_11, s221_14, s221_15, s221_16, s221_19, s221_20, s221_23, s221_24, s221_25, s221_26, s221_27, s221_30, s221_33, s221_36, s221_39, s221_40, s221_41, s221_44i, s221_44r, s221_44n, s221_47i, s221_47r, s221_47n, s221_53, s221_54, k1, k2, k3, u0, h1, m213 hi14, hmi, hz2, eq_self, nI_add, (qn_c (0) (by omega)).1, (qn_c (0) (by omega)).2, List.length_cons, List.length_nil, Nat.zero_le, Nat.reduceAdd, Nat.reduceLeDiff, Option.bind_some, qx_kn_v, qx_kn_n, Nat.add_zero, Bool.false_eq_true, ↓reduceIte]
      rw [s221_50, g2]
theorem g221 {M : qxM} (hp : qp_ok n r q f mt) (hu : nPu M n r q f mt) :
    ∃ M', Rs L xs (d + 3) 221 0 [some (.ref (400)), none, none] [] (M) x = some (.inl (some (.int (nI (qm_pf (fun p => qp_al r q (f p) p) n 0 mt 0).2))), M', x) ∧ nMt M' (qm_pf (fun p => qp_al r q (f p) p) n 0 mt 0).1 ∧ mf (fun j => 21 ≤ j ∧ j < 35) M M' := by
  have hn14 := hp.1
  obtain ⟨M2, g2, m2, f2⟩ := g221l (L := L) (xs := xs) (d := d) (x := x) n 0 0 M mt (by omega) (by omega) hp hu
  refine ⟨M2, ?_, m2, f2⟩
  simp only [s221_0, s221_1i, s221_1r, s221_1n, s221_2, s221_3i, s221_3r, s221_3n]
  exact g2
/-- pairs -/
theorem g48 (hP : qx_P u) {M : qxM} (hn2 : n ≤ 14) (hn : M.1 u 0 = nI n) (hm : qMt u M mt) : Rs L xs (d + 2) 48 0 [some (.ref (u)), none, none] [] (M) x = some (.inl (some (.int (nI (qm_np n mt)))), M, x) := by
  rw [m48 hP hn hn2]
  congr 5
  have h := qp_sm_ct (fun p => decide (mt p < 14)) n 0
  rw [show fb_ct (fun p => decide (mt p < 14)) 0 = 0 from rfl, Nat.add_zero, Nat.zero_add] at h
  unfold qm_np
  rw [← h]
  refine congrArg (fun y => nI (y / 2)) (qp_sm_cong n 0 ?_)
  intro j _ hj
  rw [hm j (by omega)]
  by_cases z : mt j < 14
  · rw [if_neg (by rw [qz_n1]; exact fun y => y z)]
    simp [z]
  · rw [if_pos (by rw [qz_n1]; exact z)]
    simp [z]
theorem g223l {M : qxM} (hn2 : n ≤ 14) (hn : M.1 401 0 = nI n) (hm : nMt M mt) : ∀ (k i : Nat), i + k = n →
    Rs L xs (d + 1) 223 4 [some (.ref (400)), some (.int (nI (qb_of (fun p => !decide (mt p < 14)) i))), some (.int (nI i))] [] (M) x = some (.inl (some (.int (nI (qb_of (fun p => !decide (mt p < 14)) n)))), M, x) := by
  obtain ⟨k1, k2, k3⟩ := qx_m400
  intro k
  induction k with
  | zero =>
    intro i hi
    have h1 : (nI n ≤ nI i) = True := by rw [show i = n by omega]; exact eq_true (Int32.le_refl _)
    rw [show i = n by omega] at h1 ⊢
    simp only [s223_0, s223_1i, s223_1r, s223_1n, s223_2, s223_3i, s223_3r, s223_3n, s223_4, s223_5, s223_6, s223_9, s223_10, s223_11, s223_14, s223_15, s223_16, s223_17, s223_20, s223_21, s223_24, s223_25, s223_28, s223_29, s223_32, s223_33, s223_34, s223_35i, s223_35r, s223_35n, s223_36i, s223_36r, s223_36n, s223_42, s223_43, k1, k2, k3, hn, h1, (qn_c (0) (by omega)).1, (qn_c (0) (by omega)).2, ↓reduceIte]
  | succ k ih =>
    intro i hi
    have h1 : ¬ nI n ≤ nI i := nI_ge (by omega) (by omega)
    have hi14 : i < 14 := by omega
    have hmi := hm i hi14
    have h2 := ih (i + 1) (by omega)
    rw [qb_of] at h2
    have e1 := m179 (L := L) (xs := xs) (d := d) (x := 0) (M := M) true
    have e0 := m179 (L := L) (xs := xs) (d := d) (x := 0) (M := M) false
    rw [← bI_t] at e1
    rw [← bI_f] at e0
    by_cases z : mt i < 14
    · have hz1 := qi_n1 (show mt i < 2 ^ 31 by omega)
      rw [qz_lt z] at hmi
      rw [if_neg (by simp [z]), Nat.or_zero] at h2
      have hs : nI 0 <<< (nI i &&& 31) = nI 0 := qb_shl0 (by omega)
      have ho : ∀ a, nI a ||| nI 0 = nI a := fun a => by rw [qb_or, Nat.or_zero]
      simp only [s223_0, s223_1i, s223_1r, s223_1n, s223_2, s223_3i, s223_3r, s223_3n, s223_4, s223_5, s223_6, s223_9, s223_10, s223_11, s223_14, s223_15, s223_16, s223_17, s223_20, s223_21, s223_24, s223_25, s223_28, s223_29, s223_32, s223_33, s223_34, s223_35i, s223_35r, s223_35n, s223_36i, s223_36r, s223_36n, s223_42, s223_43, k1, k2, k3, hn, h1, m213 hi14, hmi, hz1, e0, hs, ho, nI_add, (qn_c (0) (by omega)).1, (qn_c (0) (by omega)).2, List.length_cons, List.length_nil, Nat.zero_le, Nat.reduceAdd, Nat.reduceLeDiff, Option.bind_some, qx_kn_v, qx_kn_n, Nat.add_zero, Bool.false_eq_true, ↓reduceIte]
      rw [s223_39, h2]
    · rw [qz_ge z] at hmi
      rw [if_pos (by simp [z])] at h2
      simp only [s223_0, s223_1i, s223_1r, s223_1n, s223_2, s223_3i, s223_3r, s223_3n, s223_4, s223_5, s223_6, s223_9, s223_10, s223_11, s223_14, s223_15, s223_16, s223_17, s223_20, s223_21, s223_24, s223_25, s223_28, s223_29, s223_32, s223_33, s223_34, s223_35i, s223_35r, s223_35n, s223_36i, s223_36r, s223_36n, s223_42, s223_43, k1, k2, k3, hn, h1, m213 hi14, hmi, eq_self, e1, qb_shl (show i < 32 by omega), qb_or, nI_add, (qn_c (0) (by omega)).1, (qn_c (0) (by omega)).2, List.length_cons, List.length_nil, Nat.zero_le, Nat.reduceAdd, Nat.reduceLeDiff, Option.bind_some, qx_kn_v, qx_kn_n, Nat.add_zero, Bool.false_eq_true, ↓reduceIte]
      rw [s223_39, h2]
theorem g223 {M : qxM} (hn2 : n ≤ 14) (hn : M.1 401 0 = nI n) (hm : nMt M mt) : Rs L xs (d + 1) 223 0 [some (.ref (400)), none, none] [] (M) x = some (.inl (some (.int (nI (qb_of (fun p => !decide (mt p < 14)) n)))), M, x) := by
  have h := g223l (L := L) (xs := xs) (d := d) (x := x) hn2 hn hm n 0 (by omega)
  simp only [s223_0, s223_1i, s223_1r, s223_1n, s223_2, s223_3i, s223_3r, s223_3n]
  exact h
theorem qb_pc_of (p : Nat → Bool) {n : Nat} (h : n ≤ 14) : qb_pc (qb_of p n) = fb_ct p n := by
  unfold qb_pc
  have h1 : fb_ct (qb_of p n).testBit 14 = fb_ct (qb_of p n).testBit n := by
    have := fb_ct_past (s := (qb_of p n).testBit) (n := n) (fun j hj => by rw [qb_of_bit]; simp; omega) (14 - n)
    rw [show n + (14 - n) = 14 by omega] at this
    exact this
  rw [h1]
  exact fb_ct_cong (fun k hk => by rw [qb_of_bit]; simp [hk])
theorem qb_of_lt14 (p : Nat → Bool) {n : Nat} (h : n ≤ 14) : qb_of p n < 16384 :=
  Nat.lt_of_lt_of_le (qb_of_lt p n) (show 2 ^ n ≤ 2 ^ 14 from Nat.pow_le_pow_right (by decide) h)
theorem g224 {M : qxM} (hn2 : n ≤ 14) (hn : M.1 401 0 = nI n) (hm : nMt M mt) : Rs L xs (d + 2) 224 0 [some (.ref (400))] [] (M) x = some (.inl (some (.int (nI (qm_np n mt)))), M, x) := by
  obtain ⟨k1, k2, k3⟩ := qx_m400
  have h1 := fb_ct_not (fun p => decide (mt p < 14)) n
  have h2 : nI n - nI (fb_ct (fun p => !decide (mt p < 14)) n) = nI (fb_ct (fun p => decide (mt p < 14)) n) := by
    rw [pk_sub (by omega)]
    congr 1
    omega
  have h3 : nI (fb_ct (fun p => decide (mt p < 14)) n) / nI 2 = nI (qm_np n mt) := pk_div (by have := fb_ct_le (fun p => decide (mt p < 14)) n; omega) (by decide) (by decide)
  have h4 : ¬ nI 2 = 0 := by decide
  simp only [s224_0, s224_1, s224_4, s224_5, s224_6, s224_7, s224_10, s224_13, s224_14, s224_15, s224_16, k1, k2, k3, hn, g223 hn2 hn hm, m209 (qb_of_lt14 (fun p => !decide (mt p < 14)) hn2), qb_pc_of _ hn2, h2, h3, h4, (qn_c (0) (by omega)).1, (qn_c (0) (by omega)).2, List.length_cons, List.length_nil, Nat.zero_le, Nat.reduceAdd, Nat.reduceLeDiff, Option.bind_some, qx_kn_v, qx_kn_n, Nat.add_zero, Bool.false_eq_true, ↓reduceIte, not_false_eq_true, ne_eq]
end QL
