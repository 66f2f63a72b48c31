/-! A line of friends from its first pupil, a line of a ring, a line of a pair. -/
section QL
variable {L : Nat} {xs : Nat → Int32} {B : Nat → Int32} {N : Nat}
theorem f0 {d e n r q s : Nat} {f mt : Nat → Nat} {M W : qxM} {e6 : Option Value} (hN : N ≤ 500) (h : lk M W B N s n r q f mt) :
    lot M W B N s n r (Rs L xs (d + 9) 23 63 [some (.ref 20), some (.int (nI 1)), some (.int (nI 2)), some (.int (nI 500)), some (.int (nI 0)), some (.int (nI 0)), e6] [] M 0) (Rs L xs (e + 9) 202 4 [some (.ref 400), none] [] W 0) := by
  have k1 := qx_m400.1
  obtain ⟨h1, h2, h3, h4, h5, h6, h7, h8⟩ := id h
  have hn14 := h6.1
  have bad : ∀ c, 0 < c ∧ c < 9 → (∀ d x : Nat, Rs L xs (d + 2) 198 0 [some (.ref (400))] [] (W) x = some (.inl (some (.int (nI 0))), qft W c s, x)) → Rs L xs (e + 9) 202 4 [some (.ref 400), none] [] W 0 = some (.inl none, qft W c s, 0) := by
    intro c hc g
    have hE := (wE_ft (W := W) (s := s) hc h5 h6).1
    have g199 := m199b (d := e + 4) hc g
    have g201 := m201e (L := L) (xs := xs) (d := e) (a := 0) hE
    have g194 := fun d => m194e (L := L) (xs := xs) (d := d) (x := 0) (j := 3) hc.1 hc.2 hE.2.1
    simp only [s202_4, s202_5, s202_8i, s202_8r, s202_8n, s202_9, s202_10, s202_11, s202_14, s202_15, s202_16, s202_19, s202_30, k1, g199, g201, g194, qbf, List.length_cons, List.length_nil, Nat.zero_le, Nat.reduceAdd, Nat.reduceLeDiff, Option.bind_some, qx_kn_v, qx_kn_n, Nat.add_zero, Bool.false_eq_true, ↓reduceIte]
  by_cases hk2 : tkK B N s = 2
  · have hsN : s < N := Decidable.by_contra fun w => by
      rw [tkK_N (by omega)] at hk2
      omega
    rcases pup (L := L) (xs := xs) h with ⟨c, c0, c3, ce, g1, g2⟩ | ⟨p, p1, p2, p3, g1, g2⟩
    · have hE := wE_ft (W := W) (s := s) ⟨c0, (show c < 9 by omega)⟩ h5 h6
      exact lot_bad h (c23e h1 hk2 (by decide) (by decide) h4.1 c0 (by omega) g1) (bad c ⟨c0, by omega⟩ g2) hE.1 hE.2
    · obtain ⟨M1, g26, u1, e1, e10, e11, e12, f1⟩ := m26_z (L := L) (xs := xs) (d := d + 6) (x := 0) (k := 1) (Or.inl rfl) h4 p3 (show p < 14 by omega)
      have l1 := lt_20 (lk_lt h) e1 f1
      obtain ⟨M2, W1, s1, a1, a2, l2, q1, q2, s1a, s1b⟩ := nxtk (L := L) (xs := xs) (d := d + 5) (e := e + 4) hN l1
      have hs1 := s1b (by rw [hk2]; decide)
      have h199 := m199 (d := e + 4) g2 a2
      have hw : Rs L xs (e + 9) 202 4 [some (.ref 400), none] [] W 0 = Rs L xs (e + 9) 202 9 [some (.ref 400), some (.int (nI p))] [] W1 0 := by
        simp only [s202_4, s202_5, s202_8i, s202_8r, s202_8n, k1, h199, List.length_cons, List.length_nil, Nat.zero_le, Nat.reduceAdd, Nat.reduceLeDiff, Option.bind_some, qx_kn_v, qx_kn_n, Nat.add_zero, Bool.false_eq_true, ↓reduceIte]
      rw [c23g h1 hk2 (by decide) (by decide) h4.1 g1 m25_1a g26 a1, hw]
      have hlk : lk M2 W1 B N s1 n r q f mt := lk_of l2 (qPu_20 u1 q1.2) (nPu_q4 h5 q2) h6 h8
      have g := fl (L := L) (xs := xs) (d := d) (e := e) hN p1 (N + 1) 1 s1 f M2 W1 (some (.int (nI 0))) (by omega) (by decide) (by omega) (by rw [q1.1 10 (by unfold qtF; omega), e10]) hlk
      rw [if_pos rfl] at g
      exact lot_tr (cF_trans (cF_10 e1 f1) (cF_q20 q1)) (wF_q4 q2) (by omega) g
  · have hcls := c23x (L := L) (xs := xs) (d := d) (i := 0) (so := 1) (nd := 2) (lm := 500) (e6 := e6) h1 (Or.inr hk2) (by omega) (by decide) (by decide)
    rcases pup (L := L) (xs := xs) h with ⟨c, c0, c3, ce, g1, g2⟩ | ⟨p, p1, p2, p3, g1, g2⟩
    · have hc1 := ce hk2
      subst hc1
      have hE := wE_ft (W := W) (c := 1) (s := s) (by decide) h5 h6
      exact lot_bad h (by rw [hcls, if_pos (by omega)]) (bad 1 (by decide) g2) hE.1 hE.2
    · exact absurd p2 hk2
/-- the Model's ring -/
theorem g203 {d s i a S b n r q : Nat} {f mt : Nat → Nat} {p5 : Option Value} {M W : qxM} (h : lk M W B N s n r q f mt) (hi : i < 1000) (hh : i < 3 ∨ tkK B N s = 2) : Rs L xs (d + 9) 203 18 [some (.ref 400), some (.int (nI a)), some (.int (nI S)), some (.int (nI b)), some (.int (nI i)), p5] [] W 0 = Rs L xs (d + 9) 203 32 [some (.ref 400), some (.int (nI a)), some (.int (nI S)), some (.int (nI b)), some (.int (nI i)), p5] [] W 0 := by
  have k1 := qx_m400.1
  have e : (nI i < nI 3) = (i < 3) := qi_lt (by omega) (by decide)
  by_cases z : i < 3
  · have t : (nI i < nI 3) = True := by rw [e]; exact eq_true z
    simp only [s203_18, s203_20, s203_21, t, List.length_cons, List.length_nil, Nat.zero_le, Nat.reduceAdd, Nat.reduceLeDiff, Option.bind_some, qx_kn_v, qx_kn_n, Nat.add_zero, Bool.false_eq_true, ↓reduceIte]
  · have t : (nI i < nI 3) = False := by rw [e]; exact eq_false z
    have g := fun d => is3t (L := L) (xs := xs) h (hh.resolve_left z) d
    simp only [s203_18, s203_20, s203_21, s203_24, s203_25, s203_26, s203_29, k1, t, g, qbt, List.length_cons, List.length_nil, Nat.zero_le, Nat.reduceAdd, Nat.reduceLeDiff, Option.bind_some, qx_kn_v, qx_kn_n, Nat.add_zero, Bool.false_eq_true, ↓reduceIte]
theorem g203e {d c a S b n r q s : Nat} {f mt : Nat → Nat} {iv : Int32} {p5 : Option Value} {W : qxM} (h : wE W c s n r q f mt) : Rs L xs (d + 9) 203 32 [some (.ref 400), some (.int (nI a)), some (.int (nI S)), some (.int (nI b)), some (.int iv), p5] [] W 0 = some (.inl none, W, 0) := by
  have g := fun d => m198e (L := L) (xs := xs) (d := d) (x := 0) h
  have t : (nI c ≤ 0) = False := zil h.1.1 (by have := h.1.2; omega)
  simp only [s203_32, s203_33, s203_36i, s203_36r, s203_36n, s203_38, s203_39, s203_42, s203_45, s203_46, s203_48, s203_51, s203_54, s203_55, s203_56, s203_59, s203_60, s203_63, s203_66, qx_m400.1, g, h.2.1, zi0 h.1.1 (show c < 2 ^ 31 by have := h.1.2; omega), t, List.length_cons, List.length_nil, Nat.zero_le, Nat.reduceAdd, Nat.reduceLeDiff, Option.bind_some, qx_kn_v, qx_kn_n, Nat.add_zero, Bool.false_eq_true, ↓reduceIte]
theorem g203f {d c a S b s : Nat} {iv : Int32} {p5 : Option Value} {W : qxM} (hc : 0 < c ∧ c < 9) (h : ∀ d x : Nat, Rs L xs (d + 2) 198 0 [some (.ref (400))] [] (W) x = some (.inl (some (.int (nI 0))), qft W c s, x)) : Rs L xs (d + 9) 203 32 [some (.ref 400), some (.int (nI a)), some (.int (nI S)), some (.int (nI b)), some (.int iv), p5] [] W 0 = some (.inl none, qft W c s, 0) := by
  have g := fun d => h d 0
  have t : (nI c ≤ 0) = False := zil hc.1 (by omega)
  simp only [s203_32, s203_33, s203_36i, s203_36r, s203_36n, s203_38, s203_39, s203_42, s203_45, s203_46, s203_48, s203_51, s203_54, s203_55, s203_56, s203_59, s203_60, s203_63, s203_66, qx_m400.1, g, qft_10, zi0 hc.1 (show c < 2 ^ 31 by omega), t, List.length_cons, List.length_nil, Nat.zero_le, Nat.reduceAdd, Nat.reduceLeDiff, Option.bind_some, qx_kn_v, qx_kn_n, Nat.add_zero, Bool.false_eq_true, ↓reduceIte]
theorem rl {d e n r q a : Nat} {mt : Nat → Nat} (hN : N ≤ 500) (ha : a < n) : ∀ (k i s S b : Nat) (f : Nat → Nat) (M W : qxM) (e6 p5 : Option Value), N < s + k → 1 ≤ i → i ≤ s → M.1 20 10 = nI a → M.1 20 11 = nI b → M.1 20 12 = nI S → S < 16384 → S.testBit a = true → S.testBit b = true → b < n → (2 ≤ i → a ≠ b) → lk M W B N s n r q f mt →
    lot M W B N s n r (Rs L xs (d + 9) 23 63 [some (.ref 20), some (.int (nI 2)), some (.int (nI 3)), some (.int (nI 500)), some (.int (nI i)), some (.int (nI i)), e6] [] M 0) (Rs L xs (e + 9) 203 18 [some (.ref 400), some (.int (nI a)), some (.int (nI S)), some (.int (nI b)), some (.int (nI i)), p5] [] W 0) := by
  obtain ⟨k1, k2, k3⟩ := qx_m400
  intro k
  induction k with
  | zero =>
    intro i s S b f M W e6 p5 hk h1i hi h10 h11 h12 hS hSa hSb hb hab h
    have := h.2.2.2.2.2.2.1
    omega
  | succ k ih =>
    intro i s S b f M W e6 p5 hk h1i hi h10 h11 h12 hS hSa hSb hb hab h
    obtain ⟨h1, h2, h3, h4, h5, h6, h7, h8⟩ := id h
    have hn14 := h6.1
    by_cases hk2 : tkK B N s = 2
    · have hsN : s < N := Decidable.by_contra fun w => by
        rw [tkK_N (by omega)] at hk2
        omega
      have hi5 : i < 500 := by omega
      rw [g203 h (by omega) (Or.inr hk2)]
      rcases pup (L := L) (xs := xs) h with ⟨c, c0, c3, ce, g1, g2⟩ | ⟨p, p1, p2, p3, g1, g2⟩
      · have hE := wE_ft (W := W) (s := s) ⟨c0, (show c < 9 by omega)⟩ h5 h6
        exact lot_bad h (c23e h1 hk2 hi5 (by decide) h4.1 c0 (by omega) g1) (g203f ⟨c0, by omega⟩ g2) hE.1 hE.2
      · have h25 := m25_2 (L := L) (xs := xs) (d := d + 7) (x := 0) (i := i) p3 h12 (by omega) (show p < 14 by omega)
        have g2' := fun d => g2 d 0
        have h208 := fun d => m208 (L := L) (xs := xs) (d := d) (x := 0) (M := W) (show S < 2 ^ 31 by omega) (show p < 31 by omega)
        cases hSp : S.testBit p
        · rw [hSp, if_neg (by decide)] at h25
          simp only [hSp] at h208
          have hbp : b ≠ p := fun w => by rw [w, hSp] at hSb; exact absurd hSb (by decide)
          have hap : a ≠ p := fun w => by rw [w, hSp] at hSa; exact absurd hSa (by decide)
          obtain ⟨M1, g26, u1, e1, e10, e11, e12, f1⟩ := m26_2 (L := L) (xs := xs) (d := d + 6) (x := 0) (i := i) (by omega) (by omega) h4 p3 h10 h11 (show p < 14 by omega) (show b < 14 by omega) hbp
          obtain ⟨W1, g217', w1, v1⟩ := g217 (L := L) (xs := xs) (d := e + 8) (x := 0) h5 (show b < 14 by omega) (show p < 14 by omega) hbp true
          have g217'' : Rs L xs (e + 8) 217 0 [some (.ref 400), some (.int (nI b)), some (.int (nI p)), some (.int (nI 1))] [] W 0 = some (.inl none, W1, 0) := g217'
          have l1 := lt_mf (lt_20 (lk_lt h) e1 f1) v1
          obtain ⟨M2, W2, s1, a1, a2, l2, q1, q2, s1a, s1b⟩ := nxtk (L := L) (xs := xs) (d := d + 5) (e := e + 5) hN l1
          have hs1 := s1b (by rw [hk2]; decide)
          have hw : Rs L xs (e + 9) 203 32 [some (.ref 400), some (.int (nI a)), some (.int (nI S)), some (.int (nI b)), some (.int (nI i)), p5] [] W 0 = Rs L xs (e + 9) 203 18 [some (.ref 400), some (.int (nI a)), some (.int (nI (S ||| 2 ^ p))), some (.int (nI p)), some (.int (nI (i + 1))), some (.int (nI p))] [] W2 0 := by
            simp only [s203_32, s203_33, s203_36i, s203_36r, s203_36n, s203_38, s203_39, s203_42, s203_45, s203_46, s203_48, s203_51, s203_54, s203_55, s203_56, s203_59, s203_60, s203_63, s203_66, s203_67, s203_68, s203_69, s203_71, s203_72, s203_75, s203_76, s203_77, s203_79, s203_80, s203_81i, s203_81r, s203_81n, s203_82, s203_84i, s203_84r, s203_84n, s203_85, s203_86, s203_89i, s203_89r, s203_89n, k1, g2', h3, qi_z0, h208, qbf, z00, g217'', qb_shl (show p < 32 by omega), qb_or, a2, nI_add, List.length_cons, List.length_nil, Nat.zero_le, Nat.reduceAdd, Nat.reduceLeDiff, Option.bind_some, qx_kn_v, qx_kn_n, Nat.add_zero, Bool.false_eq_true, ↓reduceIte]
            rw [s203_92]
          rw [c23g h1 hk2 hi5 (by decide) h4.1 g1 h25 g26 a1, hw]
          have hlk : lk M2 W2 B N s1 n r q (qp_be f b p true) mt := lk_of l2 (qPu_20 u1 q1.2) (nPu_q4 w1 q2) (qp_be_ok h6 hb p1 hbp true) h8
          have g := ih (i + 1) s1 (S ||| 2 ^ p) p (qp_be f b p true) M2 W2 (some (.int (nI 0))) (some (.int (nI p))) (by omega) (by omega) (by omega) (by rw [q1.1 10 (by unfold qtF; omega), e10]) (by rw [q1.1 11 (by unfold qtF; omega), e11]) (by rw [q1.1 12 (by unfold qtF; omega), e12 S h12]) (qk_lt hS (by omega)) (by rw [Nat.testBit_or, hSa, Bool.true_or]) (by rw [Nat.testBit_or, qb_two]; simp) p1 (fun _ => hap) hlk
          exact lot_tr (cF_trans (cF_10 e1 f1) (cF_q20 q1)) (wF_trans (wF_mf v1 (by intro j hj; omega)) (wF_q4 q2)) (by omega) g
        · rw [hSp, if_pos rfl] at h25
          simp only [hSp] at h208
          have hE := wE_ft (W := W) (c := 3) (s := s) (by decide) h5 h6
          have g193 := fun d => m193 (L := L) (xs := xs) (d := d) (x := 0) (c := 3) h3 h2.2.2.1
          have t : (nI 3 ≤ 0) = False := by decide
          refine lot_bad h (c23b (c := 3) h1 hk2 hi5 (by decide) h4.1 (by decide) (by decide) g1 h25) ?_ hE.1 hE.2
          simp only [s203_32, s203_33, s203_36i, s203_36r, s203_36n, s203_38, s203_39, s203_42, s203_45, s203_46, s203_48, s203_51, s203_54, s203_55, s203_56, s203_59, s203_60, s203_63, s203_66, k1, g2', h3, qi_z0, h208, qbt, g193, qft_10, t, List.length_cons, List.length_nil, Nat.zero_le, Nat.reduceAdd, Nat.reduceLeDiff, Option.bind_some, qx_kn_v, qx_kn_n, Nat.add_zero, Bool.false_eq_true, ↓reduceIte]
    · have hcls := c23x (L := L) (xs := xs) (d := d) (i := i) (so := 2) (nd := 3) (lm := 500) (e6 := e6) h1 (Or.inr hk2) (by omega) (by decide) (by decide)
      by_cases hi1 : i < 3
      · rw [g203 h (by omega) (Or.inl hi1)]
        rcases pup (L := L) (xs := xs) h with ⟨c, c0, c3, ce, g1, g2⟩ | ⟨p, p1, p2, p3, g1, g2⟩
        · have hc1 := ce hk2
          subst hc1
          have hE := wE_ft (W := W) (c := 1) (s := s) (by decide) h5 h6
          exact lot_bad h (by rw [hcls, if_pos hi1]) (g203f (by decide) g2) hE.1 hE.2
        · exact absurd p2 hk2
      · have g194 := fun d => is3f (L := L) (xs := xs) h hk2 d
        have t : (nI i < nI 3) = False := by rw [qi_lt (by omega) (by decide)]; exact eq_false hi1
        have hba : b ≠ a := fun w => hab (by omega) w.symm
        obtain ⟨M1, g40, u1, f1⟩ := qPu_be22 (L := L) (xs := xs) (d := d + 7) (x := 0) h4 (show b < 14 by omega) (show a < 14 by omega) hba true
        have g40' : Rs L xs (d + 8) 40 0 [some (.ref 22), some (.int (nI b)), some (.int (nI a)), some (.int (nI 1))] [] M 0 = some (.inl none, M1, 0) := g40
        obtain ⟨W1, g217', w1, v1⟩ := g217 (L := L) (xs := xs) (d := e + 8) (x := 0) h5 (show b < 14 by omega) (show a < 14 by omega) hba true
        have g217'' : Rs L xs (e + 8) 217 0 [some (.ref 400), some (.int (nI b)), some (.int (nI a)), some (.int (nI 1))] [] W 0 = some (.inl none, W1, 0) := g217'
        have e20 : ∀ j, j < 10 → M1.1 20 j = M.1 20 j := fun j _ => by rw [f1.1 20 (by decide)]
        have F1 : qf (fun a => a = 20 ∨ 22 ≤ a ∧ a ≤ 24) M M1 := qf_mono f1 (fun a e => by omega)
        have hlk : lk M1 W1 B N s n r q (qp_be f b a true) mt := lk_of (lt_mf (lt_20 (lk_lt h) e20 F1) v1) u1 w1 (qp_be_ok h6 hb ha hba true) h8
        refine Or.inr ⟨s, M1, W1, q, _, mt, ?_, ?_, hlk, Nat.le_refl _, cF_10 e20 F1, wF_mf v1 (by intro j hj; omega)⟩
        · rw [hcls, if_neg hi1]
          simp only [s23_143, s23_144, s23_145, s23_148, s23_149, s23_152, s23_153, s23_156, s23_157, s23_160, s23_161, s23_164, s23_165, qx_m20.1, qx_P22.1, h10, h11, g40', List.length_cons, List.length_nil, Nat.zero_le, Nat.reduceAdd, Nat.reduceLeDiff, Option.bind_some, qx_kn_v, qx_kn_n, Nat.add_zero, Bool.false_eq_true, ↓reduceIte]
        · simp only [s203_18, s203_20, s203_21, s203_24, s203_25, s203_26, s203_29, s203_95, s203_96, s203_97, s203_98, s203_99, s203_102, k1, t, g194, qbf, g217'', List.length_cons, List.length_nil, Nat.zero_le, Nat.reduceAdd, Nat.reduceLeDiff, Option.bind_some, qx_kn_v, qx_kn_n, Nat.add_zero, Bool.false_eq_true, ↓reduceIte]
theorem r0 {d e n r q s : Nat} {f mt : Nat → Nat} {M W : qxM} {e6 : Option Value} (hN : N ≤ 500) (h12 : M.1 20 12 = nI 0) (h : lk M W B N s n r q f mt) :
    lot M W B N s n r (Rs L xs (d + 9) 23 63 [some (.ref 20), some (.int (nI 2)), some (.int (nI 3)), some (.int (nI 500)), some (.int (nI 0)), some (.int (nI 0)), e6] [] M 0) (Rs L xs (e + 9) 203 4 [some (.ref 400), none, none, none, none, none] [] W 0) := by
  have k1 := qx_m400.1
  obtain ⟨h1, h2, h3, h4, h5, h6, h7, h8⟩ := id h
  have hn14 := h6.1
  have t13 : (nI 1 < nI 3) = True := by decide
  have bad : ∀ c, 0 < c ∧ c < 9 → (∀ d x : Nat, Rs L xs (d + 2) 198 0 [some (.ref (400))] [] (W) x = some (.inl (some (.int (nI 0))), qft W c s, x)) → Rs L xs (e + 9) 203 4 [some (.ref 400), none, none, none, none, none] [] W 0 = some (.inl none, qft W c s, 0) := by
    intro c hc g
    have hE := (wE_ft (W := W) (s := s) hc h5 h6).1
    have g199 := m199b (d := e + 4) hc g
    have ge := g203e (L := L) (xs := xs) (d := e) (a := 0) (S := 2 ^ 0) (b := 0) (iv := nI 1) (p5 := none) hE
    simp only [s203_4, s203_5, s203_8i, s203_8r, s203_8n, s203_9, s203_10, s203_11, s203_12i, s203_12r, s203_12n, s203_13, s203_14i, s203_14r, s203_14n, s203_15, s203_16i, s203_16r, s203_16n, s203_18, s203_20, s203_21, k1, g199, t13, qb_shl (show 0 < 32 by decide), List.length_cons, List.length_nil, Nat.zero_le, Nat.reduceAdd, Nat.reduceLeDiff, Option.bind_some, qx_kn_v, qx_kn_n, Nat.add_zero, Bool.false_eq_true, ↓reduceIte]
    exact ge
  by_cases hk2 : tkK B N s = 2
  · have hsN : s < N := Decidable.by_contra fun w => by
      rw [tkK_N (by omega)] at hk2
      omega
    rcases pup (L := L) (xs := xs) h with ⟨c, c0, c3, ce, g1, g2⟩ | ⟨p, p1, p2, p3, g1, g2⟩
    · have hE := wE_ft (W := W) (s := s) ⟨c0, (show c < 9 by omega)⟩ h5 h6
      exact lot_bad h (c23e h1 hk2 (by decide) (by decide) h4.1 c0 (by omega) g1) (bad c ⟨c0, by omega⟩ g2) hE.1 hE.2
    · have h25 := m25_2 (L := L) (xs := xs) (d := d + 7) (x := 0) (i := 0) p3 h12 (by decide) (show p < 14 by omega)
      rw [Nat.zero_testBit, if_neg (by decide)] at h25
      obtain ⟨M1, g26, u1, e1, e10, e11, e12, f1⟩ := m26_z (L := L) (xs := xs) (d := d + 6) (x := 0) (k := 2) (Or.inr (Or.inl rfl)) h4 p3 (show p < 14 by omega)
      have l1 := lt_20 (lk_lt h) e1 f1
      obtain ⟨M2, W1, s1, a1, a2, l2, q1, q2, s1a, s1b⟩ := nxtk (L := L) (xs := xs) (d := d + 5) (e := e + 4) hN l1
      have hs1 := s1b (by rw [hk2]; decide)
      have h199 := m199 (d := e + 4) g2 a2
      have hw : Rs L xs (e + 9) 203 4 [some (.ref 400), none, none, none, none, none] [] W 0 = Rs L xs (e + 9) 203 18 [some (.ref 400), some (.int (nI p)), some (.int (nI (2 ^ p))), some (.int (nI p)), some (.int (nI 1)), none] [] W1 0 := by
        simp only [s203_4, s203_5, s203_8i, s203_8r, s203_8n, s203_9, s203_10, s203_11, s203_12i, s203_12r, s203_12n, s203_13, s203_14i, s203_14r, s203_14n, s203_15, s203_16i, s203_16r, s203_16n, k1, h199, qb_shl (show p < 32 by omega), List.length_cons, List.length_nil, Nat.zero_le, Nat.reduceAdd, Nat.reduceLeDiff, Option.bind_some, qx_kn_v, qx_kn_n, Nat.add_zero, Bool.false_eq_true, ↓reduceIte]
      rw [c23g h1 hk2 (by decide) (by decide) h4.1 g1 h25 g26 a1, hw]
      have hlk : lk M2 W1 B N s1 n r q f mt := lk_of l2 (qPu_20 u1 q1.2) (nPu_q4 h5 q2) h6 h8
      have hbit : (2 ^ p).testBit p = true := by rw [qb_two]; simp
      have g := rl (L := L) (xs := xs) (d := d) (e := e) hN p1 (N + 1) 1 s1 (2 ^ p) p f M2 W1 (some (.int (nI 0))) none (by omega) (by decide) (by omega) (by rw [q1.1 10 (by unfold qtF; omega), e10]) (by rw [q1.1 11 (by unfold qtF; omega), e11]) (by rw [q1.1 12 (by unfold qtF; omega), e12 0 h12, Nat.zero_or]) (show 2 ^ p < 2 ^ 14 from Nat.pow_lt_pow_right (by decide) (show p < 14 by omega)) hbit hbit p1 (fun w => absurd w (by decide)) hlk
      exact lot_tr (cF_trans (cF_10 e1 f1) (cF_q20 q1)) (wF_q4 q2) (by omega) g
  · have hcls := c23x (L := L) (xs := xs) (d := d) (i := 0) (so := 2) (nd := 3) (lm := 500) (e6 := e6) h1 (Or.inr hk2) (by omega) (by decide) (by decide)
    rcases pup (L := L) (xs := xs) h with ⟨c, c0, c3, ce, g1, g2⟩ | ⟨p, p1, p2, p3, g1, g2⟩
    · have hc1 := ce hk2
      subst hc1
      have hE := wE_ft (W := W) (c := 1) (s := s) (by decide) h5 h6
      exact lot_bad h (by rw [hcls, if_pos (by omega)]) (bad 1 (by decide) g2) hE.1 hE.2
    · exact absurd p2 hk2
end QL
