/-! A line of a pair; any line. -/
theorem lot_w {M W : qxM} {B : Nat → Int32} {N s n r : Nat} {rc rw rw' : Option qxO} (hw : ∀ W1, rw = some (.inl none, W1, 0) → rw' = some (.inl none, W1, 0)) (h : lot M W B N s n r rc rw) : lot M W B N s n r rc rw' := by
  rcases h with ⟨c, s1, M1, W1, q1, q2, f1, mt1, f2, mt2, a1, a2, a3, a4, a5, a6, a7, a8, a9⟩ | ⟨s1, M1, W1, q1, f1, mt1, a1, a2, a3, a4, a5, a6⟩
  · exact Or.inl ⟨c, s1, M1, W1, q1, q2, f1, mt1, f2, mt2, a1, hw _ a2, a3, a4, a5, a6, a7, a8, a9⟩
  · exact Or.inr ⟨s1, M1, W1, q1, f1, mt1, a1, hw _ a2, a3, a4, a5, a6⟩
section QL
variable {L : Nat} {xs : Nat → Int32} {B : Nat → Int32} {N : Nat}
theorem g204e {d c n r q s a : Nat} {f mt : Nat → Nat} {l2 : Option Value} {W : qxM} (h : wE W c s n r q f mt) (hl : l2 = none) : Rs L xs (d + 9) 204 30 [some (.ref 400), some (.int (nI a)), l2] [] W 0 = some (.inl none, W, 0) := by
  subst hl
  have g := fun d => m198e (L := L) (xs := xs) (d := d) (x := 0) h
  have t : (nI c ≤ 0) = False := zil h.1.1 (by have := h.1.2; omega)
  have g192 := fun d => m192e (L := L) (xs := xs) (d := d) (x := 0) h.1.1 h.1.2 h.2.1
  simp only [s204_30, s204_31, s204_34, s204_35, s204_38i, s204_38r, s204_38n, s204_39, s204_40, s204_43, s204_46, s204_47, s204_48, s204_51, s204_52, s204_53, s204_56, s204_57, s204_60, s204_63, s204_64, s204_65, s204_68, s204_69, s204_72, s204_73, s204_74, s204_77, s204_78, s204_81, s204_84, s204_85, s204_86, s204_87, s204_90, s204_93, s204_94, s204_95, s204_98, s204_99, s204_102, s204_105, qx_m400.1, g, g192, h.2.1, zi0 h.1.1 (show c < 2 ^ 31 by have := h.1.2; omega), t, List.length_cons, List.length_nil, Nat.zero_le, Nat.reduceAdd, Nat.reduceLeDiff, Option.bind_some, qx_kn_v, qx_kn_n, Nat.add_zero, Bool.false_eq_true, ↓reduceIte]
theorem g204f {d c s a : Nat} {W : qxM} (hc : 0 < c ∧ c < 9) (h : ∀ d x : Nat, Rs L xs (d + 2) 198 0 [some (.ref (400))] [] (W) x = some (.inl (some (.int (nI 0))), qft W c s, x)) : Rs L xs (d + 9) 204 34 [some (.ref 400), some (.int (nI a)), none] [] W 0 = some (.inl none, qft W c s, 0) := by
  have g := fun d => h d 0
  have t : (nI c ≤ 0) = False := zil hc.1 (by omega)
  simp only [s204_34, s204_35, s204_38i, s204_38r, s204_38n, s204_39, s204_40, s204_43, s204_46, s204_47, s204_48, s204_51, s204_52, s204_53, s204_56, s204_57, s204_60, s204_63, s204_64, s204_65, s204_68, s204_69, s204_72, s204_73, s204_74, s204_77, s204_78, s204_81, s204_84, s204_85, s204_86, s204_87, s204_90, s204_93, s204_94, s204_95, s204_98, s204_99, s204_102, s204_105, qx_m400.1, g, qft_10, zi0 hc.1 (show c < 2 ^ 31 by omega), t, List.length_cons, List.length_nil, Nat.zero_le, Nat.reduceAdd, Nat.reduceLeDiff, Option.bind_some, qx_kn_v, qx_kn_n, Nat.add_zero, Bool.false_eq_true, ↓reduceIte]
theorem p1 {d e n r q s a : Nat} {f mt : Nat → Nat} {M W : qxM} {e6 : Option Value} (hN : N ≤ 500) (ha : a < n) (h10 : M.1 20 10 = nI a) (hma : ¬ mt a < 14) (hs1 : 1 ≤ s) (h : lk M W B N s n r q f mt) :
    lot M W B N s n r (Rs L xs (d + 9) 23 63 [some (.ref 20), some (.int (nI 3)), some (.int (nI 2)), some (.int (nI 2)), some (.int (nI 1)), some (.int (nI 1)), e6] [] M 0) (Rs L xs (e + 9) 204 34 [some (.ref 400), some (.int (nI a)), none] [] W 0) := by
  have k1 := qx_m400.1
  obtain ⟨h1, h2, h3, h4, h5, h6, h7, h8⟩ := id h
  have hn14 := h6.1
  by_cases hk2 : tkK B N s = 2
  · rcases pup (L := L) (xs := xs) h with ⟨c, c0, c3, ce, g1, g2⟩ | ⟨p, p1, p2, p3, g1, g2⟩
    · have hE := wE_ft (W := W) (s := s) ⟨c0, (show c < 9 by omega)⟩ h5 h6
      exact lot_bad h (c23e h1 hk2 (by decide) (by decide) h4.1 c0 (by omega) g1) (g204f ⟨c0, by omega⟩ g2) hE.1 hE.2
    · have h25 := m25_3b (L := L) (xs := xs) (d := d + 5) (x := 0) (i := 1) (by decide) (by decide) h6 h4 p3 h10 (show p < 14 by omega) (show a < 14 by omega)
      have g2' := fun d => g2 d 0
      have h213 := fun d => m213 (L := L) (xs := xs) (d := d) (x := 0) (M := W) (show p < 14 by omega)
      have hmp := h5.2.2.2.2 p (by omega)
      have g193 := fun c d => m193 (L := L) (xs := xs) (d := d) (x := 0) (c := c) h3 h2.2.2.1
      by_cases hpa : p = a
      · rw [if_pos hpa] at h25
        have hE := wE_ft (W := W) (c := 3) (s := s) (by decide) h5 h6
        have t : (nI 3 ≤ 0) = False := by decide
        subst hpa
        refine lot_bad h (c23b (c := 3) h1 hk2 (by decide) (by decide) h4.1 (by decide) (by decide) g1 h25) ?_ hE.1 hE.2
        simp only [s204_34, s204_35, s204_38i, s204_38r, s204_38n, s204_39, s204_40, s204_43, s204_46, s204_47, s204_48, s204_51, s204_52, s204_53, s204_56, s204_57, s204_60, s204_63, s204_64, s204_65, s204_68, s204_69, s204_72, s204_73, s204_74, s204_77, s204_78, s204_81, s204_84, s204_85, s204_86, s204_87, s204_90, s204_93, s204_94, s204_95, s204_98, s204_99, s204_102, s204_105, k1, g2', h3, qi_z0, z30, g193, qft_10, t, List.length_cons, List.length_nil, Nat.zero_le, Nat.reduceAdd, Nat.reduceLeDiff, Option.bind_some, qx_kn_v, qx_kn_n, Nat.add_zero, Bool.false_eq_true, ↓reduceIte]
      · rw [if_neg hpa] at h25
        have e1 : (nI a = nI p) = False := by rw [qi_eq (by omega) (by omega)]; exact eq_false (fun w => hpa w.symm)
        by_cases hmt : mt p < 14
        · rw [if_pos hmt] at h25
          rw [qz_lt hmt] at hmp
          have hE := wE_ft (W := W) (c := 4) (s := s) (by decide) h5 h6
          have t : (nI 4 ≤ 0) = False := by decide
          have t0 : (nI 4 = 0) = False := by decide
          refine lot_bad h (c23b (c := 4) h1 hk2 (by decide) (by decide) h4.1 (by decide) (by decide) g1 h25) ?_ hE.1 hE.2
          simp only [s204_34, s204_35, s204_38i, s204_38r, s204_38n, s204_39, s204_40, s204_43, s204_46, s204_47, s204_48, s204_51, s204_52, s204_53, s204_56, s204_57, s204_60, s204_63, s204_64, s204_65, s204_68, s204_69, s204_72, s204_73, s204_74, s204_77, s204_78, s204_81, s204_84, s204_85, s204_86, s204_87, s204_90, s204_93, s204_94, s204_95, s204_98, s204_99, s204_102, s204_105, k1, g2', h3, qi_z0, e1, h213, hmp, qi_n1 (show mt p < 2 ^ 31 by omega), g193, qft_10, t, t0, List.length_cons, List.length_nil, Nat.zero_le, Nat.reduceAdd, Nat.reduceLeDiff, Option.bind_some, qx_kn_v, qx_kn_n, Nat.add_zero, Bool.false_eq_true, ↓reduceIte]
        · rw [if_neg hmt] at h25
          rw [qz_ge hmt] at hmp
          have h219 := fun d => m219 (L := L) (xs := xs) (d := d) (x := 0) (M := W) (show a < 14 by omega) (show p < 14 by omega) (h5.2.2.2.1 a (by omega)) (qp_f14 h6 (by omega)) h5.2.1 h6.2.1 h5.2.2.1 h6.2.2.1
          cases hal : (qp_al r q (f a) a).testBit p
          · rw [hal, if_neg (by decide)] at h25
            simp only [hal] at h219
            have hE := wE_ft (W := W) (c := 5) (s := s) (by decide) h5 h6
            have t : (nI 5 ≤ 0) = False := by decide
            refine lot_bad h (c23b (c := 5) h1 hk2 (by decide) (by decide) h4.1 (by decide) (by decide) g1 h25) ?_ hE.1 hE.2
            simp only [s204_34, s204_35, s204_38i, s204_38r, s204_38n, s204_39, s204_40, s204_43, s204_46, s204_47, s204_48, s204_51, s204_52, s204_53, s204_56, s204_57, s204_60, s204_63, s204_64, s204_65, s204_68, s204_69, s204_72, s204_73, s204_74, s204_77, s204_78, s204_81, s204_84, s204_85, s204_86, s204_87, s204_90, s204_93, s204_94, s204_95, s204_98, s204_99, s204_102, s204_105, k1, g2', h3, qi_z0, e1, h213, hmp, eq_self, h219, qbf, g193, qft_10, t, List.length_cons, List.length_nil, Nat.zero_le, Nat.reduceAdd, Nat.reduceLeDiff, Option.bind_some, qx_kn_v, qx_kn_n, Nat.add_zero, Bool.false_eq_true, ↓reduceIte]
          · rw [hal, if_pos rfl] at h25
            simp only [hal] at h219
            obtain ⟨M1, g26, u1, e1', f1⟩ := m26_3 (L := L) (xs := xs) (d := d + 6) (x := 0) (i := 1) (by decide) (by decide) h4 p3 h10 (show p < 14 by omega) (show a < 14 by omega)
            have h214 := fun d => m214 (L := L) (xs := xs) (d := d) (x := 0) (M := W) (show a < 14 by omega) (show p < 14 by omega)
            have v1 : mf (fun j => 21 ≤ j ∧ j < 35) W (qx_up (qx_up W 401 (21 + a) (nI p)) 401 (21 + p) (nI a)) := mf_trans (mf_up _ _ _ (by omega)) (mf_up _ _ _ (by omega))
            have w1 := nPu_step h5 v1 (nMt_up2 h5.2.2.2.2 (show a < 14 by omega) (show p < 14 by omega)) (by intro j hj; omega)
            generalize qx_up (qx_up W 401 (21 + a) (nI p)) 401 (21 + p) (nI a) = W1 at h214 v1 w1
            have l1 := lt_mf (lt_20 (lk_lt h) e1' f1) v1
            obtain ⟨M2, W2, s1, a1, a2, l2, q1, q2, s1a, s1b⟩ := nxtk (L := L) (xs := xs) (d := d + 5) (e := e + 5) hN l1
            have hp2 : qp_ok n r q f (qu (qu mt a p) p a) := qp_wm h6 (qm_join hn14 h6.2.2.2.2.2 ha p1 (fun w => hpa w.symm) hma hmt)
            have hlk : lk M2 W2 B N s1 n r q f (qu (qu mt a p) p a) := lk_of l2 (qPu_20 u1 q1.2) (nPu_q4 w1 q2) hp2 h8
            have hcx := c23x (L := L) (xs := xs) (d := d) (i := 2) (so := 3) (nd := 2) (lm := 2) (e6 := some (.int (nI 0))) l2.1 (Or.inl (by decide)) (by decide) (by decide) (by decide)
            refine Or.inr ⟨s1, M2, W2, q, f, _, ?_, ?_, hlk, s1a, cF_trans (cF_10 e1' f1) (cF_q20 q1), wF_trans (wF_mf v1 (by intro j hj; omega)) (wF_q4 q2)⟩
            · rw [c23g h1 hk2 (by decide) (by decide) h4.1 g1 h25 g26 a1, hcx, if_neg (by decide)]
              simp only [s23_143, s23_144, s23_145, s23_148, s23_149, s23_152, s23_153, s23_156, s23_157, s23_160, s23_161, s23_164, s23_165, z32, List.length_cons, List.length_nil, Nat.zero_le, Nat.reduceAdd, Nat.reduceLeDiff, Option.bind_some, qx_kn_v, qx_kn_n, Nat.add_zero, Bool.false_eq_true, ↓reduceIte]
            · simp only [s204_34, s204_35, s204_38i, s204_38r, s204_38n, s204_39, s204_40, s204_43, s204_46, s204_47, s204_48, s204_51, s204_52, s204_53, s204_56, s204_57, s204_60, s204_63, s204_64, s204_65, s204_68, s204_69, s204_72, s204_73, s204_74, s204_77, s204_78, s204_81, s204_84, s204_85, s204_86, s204_87, s204_90, s204_93, s204_94, s204_95, s204_98, s204_99, s204_102, s204_105, s204_106, s204_107, s204_108, s204_109, s204_112, s204_113, s204_116, k1, g2', h3, qi_z0, e1, h213, hmp, eq_self, h219, qbt, z00, h214, a2, List.length_cons, List.length_nil, Nat.zero_le, Nat.reduceAdd, Nat.reduceLeDiff, Option.bind_some, qx_kn_v, qx_kn_n, Nat.add_zero, Bool.false_eq_true, ↓reduceIte]
  · have hcls := c23x (L := L) (xs := xs) (d := d) (i := 1) (so := 3) (nd := 2) (lm := 2) (e6 := e6) h1 (Or.inr hk2) (by omega) (by decide) (by decide)
    rcases pup (L := L) (xs := xs) h with ⟨c, c0, c3, ce, g1, g2⟩ | ⟨p, p1, p2, p3, g1, g2⟩
    · have hc1 := ce hk2
      subst hc1
      have hE := wE_ft (W := W) (c := 1) (s := s) (by decide) h5 h6
      exact lot_bad h (by rw [hcls, if_pos (by omega)]) (g204f (by decide) g2) hE.1 hE.2
    · exact absurd p2 hk2
theorem p0 {d e n r q s : Nat} {f mt : Nat → Nat} {M W : qxM} {e6 : Option Value} (hN : N ≤ 500) (h : lk M W B N s n r q f mt) :
    lot M W B N s n r (Rs L xs (d + 9) 23 63 [some (.ref 20), some (.int (nI 3)), some (.int (nI 2)), some (.int (nI 2)), some (.int (nI 0)), some (.int (nI 0)), e6] [] M 0) (Rs L xs (e + 9) 204 4 [some (.ref 400), none, none] [] W 0) := by
  have k1 := qx_m400.1
  obtain ⟨h1, h2, h3, h4, h5, h6, h7, h8⟩ := id h
  have hn14 := h6.1
  have bad : ∀ c, 0 < c ∧ c < 9 → (∀ d x : Nat, Rs L xs (d + 2) 198 0 [some (.ref (400))] [] (W) x = some (.inl (some (.int (nI 0))), qft W c s, x)) → Rs L xs (e + 9) 204 4 [some (.ref 400), none, none] [] W 0 = some (.inl none, qft W c s, 0) := by
    intro c hc g
    have g' := fun d => g d 0
    have hE := (wE_ft (W := W) (s := s) hc h5 h6).1
    have ge := g204e (L := L) (xs := xs) (d := e) (a := 0) hE rfl
    simp only [s204_4, s204_5, s204_8i, s204_8r, s204_8n, s204_9, s204_10, s204_13, k1, g', qft_10, zi0 hc.1 (show c < 2 ^ 31 by omega), List.length_cons, List.length_nil, Nat.zero_le, Nat.reduceAdd, Nat.reduceLeDiff, Option.bind_some, qx_kn_v, qx_kn_n, Nat.add_zero, Bool.false_eq_true, ↓reduceIte]
    exact ge
  by_cases hk2 : tkK B N s = 2
  · rcases pup (L := L) (xs := xs) h with ⟨c, c0, c3, ce, g1, g2⟩ | ⟨p, pn, p2, p3, g1, g2⟩
    · have hE := wE_ft (W := W) (s := s) ⟨c0, (show c < 9 by omega)⟩ h5 h6
      exact lot_bad h (c23e h1 hk2 (by decide) (by decide) h4.1 c0 (by omega) g1) (bad c ⟨c0, by omega⟩ g2) hE.1 hE.2
    · have h25 := m25_3a (L := L) (xs := xs) (d := d + 5) (x := 0) h4.2.2.2.2 p3 (show p < 14 by omega)
      have g2' := fun d => g2 d 0
      have h213 := fun d => m213 (L := L) (xs := xs) (d := d) (x := 0) (M := W) (show p < 14 by omega)
      have hmp := h5.2.2.2.2 p (by omega)
      by_cases hmt : mt p < 14
      · rw [if_pos hmt] at h25
        rw [qz_lt hmt] at hmp
        have hE := wE_ft (W := W) (c := 4) (s := s) (by decide) h5 h6
        have g193 := fun d => m193 (L := L) (xs := xs) (d := d) (x := 0) (c := 4) h3 h2.2.2.1
        have ge := g204e (L := L) (xs := xs) (d := e) (a := p) hE.1 rfl
        refine lot_bad h (c23b (c := 4) h1 hk2 (by decide) (by decide) h4.1 (by decide) (by decide) g1 h25) ?_ hE.1 hE.2
        simp only [s204_4, s204_5, s204_8i, s204_8r, s204_8n, s204_9, s204_10, s204_13, s204_16, s204_17, s204_18, s204_21, s204_22, s204_25, s204_26, s204_27, k1, g2', h3, qi_z0, h213, hmp, qi_n1 (show mt p < 2 ^ 31 by omega), g193, List.length_cons, List.length_nil, Nat.zero_le, Nat.reduceAdd, Nat.reduceLeDiff, Option.bind_some, qx_kn_v, qx_kn_n, Nat.add_zero, Bool.false_eq_true, ↓reduceIte]
        exact ge
      · rw [if_neg hmt] at h25
        rw [qz_ge hmt] at hmp
        obtain ⟨M1, g26, u1, e1, e10, e11, e12, f1⟩ := m26_z (L := L) (xs := xs) (d := d + 6) (x := 0) (k := 3) (Or.inr (Or.inr rfl)) h4 p3 (show p < 14 by omega)
        have l1 := lt_20 (lk_lt h) e1 f1
        obtain ⟨M2, W1, s1, a1, a2, l2, q1, q2, s1a, s1b⟩ := nxtk (L := L) (xs := xs) (d := d + 5) (e := e + 5) hN l1
        have hs1 := s1b (by rw [hk2]; decide)
        have hw : Rs L xs (e + 9) 204 4 [some (.ref 400), none, none] [] W 0 = Rs L xs (e + 9) 204 34 [some (.ref 400), some (.int (nI p)), none] [] W1 0 := by
          simp only [s204_4, s204_5, s204_8i, s204_8r, s204_8n, s204_9, s204_10, s204_13, s204_16, s204_17, s204_18, s204_21, s204_22, s204_25, s204_26, s204_27, s204_30, s204_31, k1, g2', h3, qi_z0, h213, hmp, eq_self, a2, List.length_cons, List.length_nil, Nat.zero_le, Nat.reduceAdd, Nat.reduceLeDiff, Option.bind_some, qx_kn_v, qx_kn_n, Nat.add_zero, Bool.false_eq_true, ↓reduceIte]
        rw [c23g h1 hk2 (by decide) (by decide) h4.1 g1 h25 g26 a1, hw]
        have hlk : lk M2 W1 B N s1 n r q f mt := lk_of l2 (qPu_20 u1 q1.2) (nPu_q4 h5 q2) h6 h8
        have g := p1 (L := L) (xs := xs) (d := d) (e := e) (e6 := some (.int (nI 0))) hN pn (by rw [q1.1 10 (by unfold qtF; omega), e10]) hmt (by omega) hlk
        exact lot_tr (cF_trans (cF_10 e1 f1) (cF_q20 q1)) (wF_q4 q2) (by omega) g
  · have hcls := c23x (L := L) (xs := xs) (d := d) (i := 0) (so := 3) (nd := 2) (lm := 2) (e6 := e6) h1 (Or.inr hk2) (by omega) (by decide) (by decide)
    rcases pup (L := L) (xs := xs) h with ⟨c, c0, c3, ce, g1, g2⟩ | ⟨p, p1, p2, p3, g1, g2⟩
    · have hc1 := ce hk2
      subst hc1
      have hE := wE_ft (W := W) (c := 1) (s := s) (by decide) h5 h6
      exact lot_bad h (by rw [hcls, if_pos (by omega)]) (bad 1 (by decide) g2) hE.1 hE.2
    · exact absurd p2 hk2
end QL
