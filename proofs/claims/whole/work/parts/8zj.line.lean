/-! Any line. -/
theorem lot_len {M W : qxM} {B : Nat → Int32} {N s s0 n r : Nat} {rc rw : Option qxO} (h3 : s0 ≤ s) (h : lot M W B N s n r rc rw) : lot M W B N s0 n r rc rw := lot_tr (cF_refl _) (wF_refl _) h3 h
section QL
variable {L : Nat} {xs : Nat → Int32} {B : Nat → Int32} {N : Nat}
theorem wrd {s n r q : Nat} {f mt : Nat → Nat} {M W : qxM} (hN : N ≤ 500) (h : lk M W B N s n r q f mt) {k : Nat} (h1 : 1 ≤ k) (h2 : k < 6) : (∀ d, Rs L xs (d + 1) 31 0 [some (.ref 20), some (.ref (500 + k)), none] [] M 0 = some (.inl (some (.int (bI (isW B N s (qx_txc k))))), M, 0)) ∧ ∀ d, Rs L xs (d + 1) 195 0 [some (.ref 400), some (.ref (500 + (20 + k))), none] [] W 0 = some (.inl (some (.int (bI (isW B N s (qx_txc k))))), W, 0) := by
  obtain ⟨a1, a2⟩ := qx_w k h2 h1
  refine ⟨fun d => m31 hN (by omega) a1 h.2.2.2.2.2.2.1 h.1, fun d => ?_⟩
  have g := m195 (L := L) (xs := xs) (d := d) (x := 0) (k := 20 + k) hN (by omega) (by rw [a2]; exact a1) h.2.2.2.2.2.2.1 h.2.2.1 h.2.1
  rw [a2] at g
  exact g
theorem line {d e n r q s : Nat} {f mt : Nat → Nat} {M W : qxM} (hN : N ≤ 500) (h : lk M W B N s n r q f mt) (hk : tkK B N s = 3) :
    ∃ W1, Rs L xs (e + 10) 192 0 [some (.ref 400)] [] W 0 = some (.inl none, W1, 0) ∧ lot M W B N (s + 1) n r (Rs L xs (d + 9) 23 0 [some (.ref 20), none, none, none, none, none, none] [] M 0) (Rs L xs (e + 10) 205 0 [some (.ref 400)] [] W1 0) := by
  have k1 := qx_m400.1
  have k0 := qx_m20.1
  obtain ⟨h1, h2, h3, h4, h5, h6, h7, h8⟩ := id h
  obtain ⟨M1, W1, s1, a1, a2, l1, q1, q2, s1a, s1b⟩ := nxtk (L := L) (xs := xs) (d := d + 5) (e := e + 7) hN (lk_lt h)
  have hs1 := s1b (by rw [hk]; decide)
  have hlk : lk M1 W1 B N s1 n r q f mt := lk_of l1 (qPu_20 h4 q1.2) (nPu_q4 h5 q2) h6 h8
  refine ⟨W1, a2, ?_⟩
  refine lot_tr (cF_q20 q1) (wF_q4 q2) (show s + 1 ≤ s1 by omega) ?_
  have e8 : M1.1 20 8 = nI s1 := hlk.1.2.2.1
  obtain ⟨c2, w2⟩ := wrd (L := L) (xs := xs) hN hlk (k := 2) (by decide) (by decide)
  obtain ⟨c3, w3⟩ := wrd (L := L) (xs := xs) hN hlk (k := 3) (by decide) (by decide)
  obtain ⟨c4, w4⟩ := wrd (L := L) (xs := xs) hN hlk (k := 4) (by decide) (by decide)
  obtain ⟨c5, w5⟩ := wrd (L := L) (xs := xs) hN hlk (k := 5) (by decide) (by decide)
  have hc24 := c2 (d + 6)
  -- the second token, with the class's set empty
  have e12 : (qx_up M1 20 12 (nI 0)).1 20 12 = nI 0 := qx_up_eq _ _ _ _
  have e20 : ∀ j, j < 10 → (qx_up M1 20 12 (nI 0)).1 20 j = M1.1 20 j := fun j hj => by rw [qx_up_at, if_neg (by omega)]
  have F12 : qf (fun a => a = 20) M1 (qx_up M1 20 12 (nI 0)) := qf_up _ _ _ _ rfl
  have F12' : qf (fun a => a = 20 ∨ 22 ≤ a ∧ a ≤ 24) M1 (qx_up M1 20 12 (nI 0)) := qf_mono F12 (fun a e => Or.inl e)
  have l2 := lt_20 l1 e20 F12'
  obtain ⟨M2, W2, s2, b1, b2, l3, q3, q4', s2a, s2b⟩ := nxtk (L := L) (xs := xs) (d := d + 5) (e := e + 5) hN l2
  have hlk2 : lk M2 W2 B N s2 n r q f mt := lk_of l3 (qPu_20 (qPu_20 hlk.2.2.2.1 F12) q3.2) (nPu_q4 hlk.2.2.2.2.1 q4') h6 h8
  have m12 : M2.1 20 12 = nI 0 := by rw [q3.1 12 (by unfold qtF; omega), e12]
  have FC : cF M1 M2 := cF_trans (cF_10 e20 F12') (cF_q20 q3)
  have FW := wF_q4 q4'
  cases y2 : isW B N s1 (qx_txc 2)
  · simp only [y2] at c2 w2
    cases y3 : isW B N s1 (qx_txc 3)
    · simp only [y3] at c3 w3
      cases y4 : isW B N s1 (qx_txc 4)
      · simp only [y4] at c4 w4
        cases y5 : isW B N s1 (qx_txc 5)
        · simp only [y5] at c5 w5
          have h24 : Rs L xs (d + 8) 24 0 [some (.ref 20)] [] M1 0 = some (.inl (some (.int (-1))), M1, 0) := by
            simp only [s24_0, s24_1, s24_3, s24_6, s24_9, s24_10, s24_11, s24_12, s24_14, s24_17, s24_20, s24_21, s24_22, s24_23, s24_25, s24_28, s24_31, s24_32, s24_33, s24_34, s24_36, s24_39, s24_42, s24_43, s24_46, s24_47, k0, c2, c3, c4, c5, qbf, List.length_cons, List.length_nil, Nat.zero_le, Nat.reduceAdd, Nat.reduceLeDiff, Option.bind_some, qx_kn_v, qx_kn_n, Nat.add_zero, Bool.false_eq_true, ↓reduceIte]
          have hE := wE_ft (W := W1) (c := 1) (s := s1) (by decide) hlk.2.2.2.2.1 h6
          refine lot_bad hlk (c := 1) ?_ ?_ hE.1 hE.2
          · simp only [s23_0, s23_1, s23_4, s23_5, s23_8i, s23_8r, s23_8n, s23_9, s23_10, s23_11, s23_14, s23_15, k0, a1, h24, eq_self, List.length_cons, List.length_nil, Nat.zero_le, Nat.reduceAdd, Nat.reduceLeDiff, Option.bind_some, qx_kn_v, qx_kn_n, Nat.add_zero, Bool.false_eq_true, ↓reduceIte]
          · have g193 := fun d => m193 (L := L) (xs := xs) (d := d) (x := 0) (c := 1) hlk.2.2.1 hlk.2.1.2.2.1
            simp only [s205_0, s205_1, s205_3, s205_6, s205_9, s205_10, s205_13, s205_16, s205_17, s205_19, s205_22, s205_25, s205_26, s205_29, s205_32, s205_33, s205_35, s205_38, s205_41, s205_42, s205_45, s205_48, s205_49, s205_51, s205_54, s205_57, s205_58, s205_61, s205_64, s205_65, s205_66, s205_69, k1, w2, w3, w4, w5, qbf, g193, List.length_cons, List.length_nil, Nat.zero_le, Nat.reduceAdd, Nat.reduceLeDiff, Option.bind_some, qx_kn_v, qx_kn_n, Nat.add_zero, Bool.false_eq_true, ↓reduceIte]
        · simp only [y5] at c5 w5
          have h24 : Rs L xs (d + 8) 24 0 [some (.ref 20)] [] M1 0 = some (.inl (some (.int (nI 3))), M1, 0) := by
            simp only [s24_0, s24_1, s24_3, s24_6, s24_9, s24_10, s24_11, s24_12, s24_14, s24_17, s24_20, s24_21, s24_22, s24_23, s24_25, s24_28, s24_31, s24_32, s24_33, s24_34, s24_36, s24_39, s24_42, s24_43, s24_46, s24_47, k0, c2, c3, c4, c5, qbf, qbt, List.length_cons, List.length_nil, Nat.zero_le, Nat.reduceAdd, Nat.reduceLeDiff, Option.bind_some, qx_kn_v, qx_kn_n, Nat.add_zero, Bool.false_eq_true, ↓reduceIte]
          have g := p0 (L := L) (xs := xs) (d := d) (e := e) (e6 := none) hN hlk2
          have hc : Rs L xs (d + 9) 23 0 [some (.ref 20), none, none, none, none, none, none] [] M 0 = Rs L xs (d + 9) 23 63 [some (.ref 20), some (.int (nI 3)), some (.int (nI 2)), some (.int (nI 2)), some (.int (nI 0)), some (.int (nI 0)), none] [] M2 0 := by
            simp only [s23_0, s23_1, s23_4, s23_5, s23_8i, s23_8r, s23_8n, s23_9, s23_10, s23_11, s23_14, s23_15, s23_16, s23_17, s23_20, s23_21, s23_24, s23_25, s23_26, s23_29, s23_30, s23_33, s23_34i, s23_34r, s23_34n, s23_35, s23_36, s23_37, s23_40, s23_41, s23_44, s23_47i, s23_47r, s23_47n, s23_48, s23_49i, s23_49r, s23_49n, s23_51, s23_52, s23_53, s23_56, s23_57, s23_60, s23_61i, s23_61r, s23_61n, k0, a1, h24, qi_n1 (show 3 < 2 ^ 31 by decide), z30, z32, b1, List.length_cons, List.length_nil, Nat.zero_le, Nat.reduceAdd, Nat.reduceLeDiff, Option.bind_some, qx_kn_v, qx_kn_n, Nat.add_zero, Bool.false_eq_true, ↓reduceIte]
          have h0 : Rs L xs (e + 9) 204 0 [some (.ref 400), none, none] [] W1 0 = Rs L xs (e + 9) 204 4 [some (.ref 400), none, none] [] W2 0 := by
            simp only [s204_0, s204_1, k1, b2, List.length_cons, List.length_nil, Nat.zero_le, Nat.reduceAdd, Nat.reduceLeDiff, Option.bind_some, qx_kn_v, qx_kn_n, Nat.add_zero, Bool.false_eq_true, ↓reduceIte]
          rw [hc]
          refine lot_tr FC FW s2a (lot_w (fun W' hw => ?_) g)
          rw [← h0] at hw
          simp only [s205_0, s205_1, s205_3, s205_6, s205_9, s205_10, s205_13, s205_16, s205_17, s205_19, s205_22, s205_25, s205_26, s205_29, s205_32, s205_33, s205_35, s205_38, s205_41, s205_42, s205_45, s205_48, s205_49, s205_51, s205_54, s205_57, s205_58, s205_61, s205_64, s205_65, s205_66, s205_69, k1, w2, w3, w4, w5, qbf, qbt, hw, List.length_cons, List.length_nil, Nat.zero_le, Nat.reduceAdd, Nat.reduceLeDiff, Option.bind_some, qx_kn_v, qx_kn_n, Nat.add_zero, Bool.false_eq_true, ↓reduceIte]
      · simp only [y4] at c4 w4
        have h24 : Rs L xs (d + 8) 24 0 [some (.ref 20)] [] M1 0 = some (.inl (some (.int (nI 2))), M1, 0) := by
          simp only [s24_0, s24_1, s24_3, s24_6, s24_9, s24_10, s24_11, s24_12, s24_14, s24_17, s24_20, s24_21, s24_22, s24_23, s24_25, s24_28, s24_31, s24_32, s24_33, s24_34, s24_36, s24_39, s24_42, s24_43, s24_46, s24_47, k0, c2, c3, c4, qbf, qbt, List.length_cons, List.length_nil, Nat.zero_le, Nat.reduceAdd, Nat.reduceLeDiff, Option.bind_some, qx_kn_v, qx_kn_n, Nat.add_zero, Bool.false_eq_true, ↓reduceIte]
        have g := r0 (L := L) (xs := xs) (d := d) (e := e) (e6 := none) hN m12 hlk2
        have hc : Rs L xs (d + 9) 23 0 [some (.ref 20), none, none, none, none, none, none] [] M 0 = Rs L xs (d + 9) 23 63 [some (.ref 20), some (.int (nI 2)), some (.int (nI 3)), some (.int (nI 500)), some (.int (nI 0)), some (.int (nI 0)), none] [] M2 0 := by
          simp only [s23_0, s23_1, s23_4, s23_5, s23_8i, s23_8r, s23_8n, s23_9, s23_10, s23_11, s23_14, s23_15, s23_16, s23_17, s23_20, s23_21, s23_24, s23_25, s23_26, s23_29, s23_30, s23_33, s23_34i, s23_34r, s23_34n, s23_35, s23_36, s23_37, s23_40, s23_41, s23_44, s23_47i, s23_47r, s23_47n, s23_48, s23_49i, s23_49r, s23_49n, s23_51, s23_52, s23_53, s23_56, s23_57, s23_60, s23_61i, s23_61r, s23_61n, k0, a1, h24, qi_n1 (show 2 < 2 ^ 31 by decide), z20, z23, b1, List.length_cons, List.length_nil, Nat.zero_le, Nat.reduceAdd, Nat.reduceLeDiff, Option.bind_some, qx_kn_v, qx_kn_n, Nat.add_zero, Bool.false_eq_true, ↓reduceIte]
        have h0 : Rs L xs (e + 9) 203 0 [some (.ref 400), none, none, none, none, none] [] W1 0 = Rs L xs (e + 9) 203 4 [some (.ref 400), none, none, none, none, none] [] W2 0 := by
          simp only [s203_0, s203_1, k1, b2, List.length_cons, List.length_nil, Nat.zero_le, Nat.reduceAdd, Nat.reduceLeDiff, Option.bind_some, qx_kn_v, qx_kn_n, Nat.add_zero, Bool.false_eq_true, ↓reduceIte]
        rw [hc]
        refine lot_tr FC FW s2a (lot_w (fun W' hw => ?_) g)
        rw [← h0] at hw
        simp only [s205_0, s205_1, s205_3, s205_6, s205_9, s205_10, s205_13, s205_16, s205_17, s205_19, s205_22, s205_25, s205_26, s205_29, s205_32, s205_33, s205_35, s205_38, s205_41, s205_42, s205_45, s205_48, s205_49, s205_51, s205_54, s205_57, s205_58, s205_61, s205_64, s205_65, s205_66, s205_69, k1, w2, w3, w4, qbf, qbt, hw, List.length_cons, List.length_nil, Nat.zero_le, Nat.reduceAdd, Nat.reduceLeDiff, Option.bind_some, qx_kn_v, qx_kn_n, Nat.add_zero, Bool.false_eq_true, ↓reduceIte]
    · simp only [y3] at c3 w3
      have h24 : Rs L xs (d + 8) 24 0 [some (.ref 20)] [] M1 0 = some (.inl (some (.int (nI 1))), M1, 0) := by
        simp only [s24_0, s24_1, s24_3, s24_6, s24_9, s24_10, s24_11, s24_12, s24_14, s24_17, s24_20, s24_21, s24_22, s24_23, s24_25, s24_28, s24_31, s24_32, s24_33, s24_34, s24_36, s24_39, s24_42, s24_43, s24_46, s24_47, k0, c2, c3, qbf, qbt, List.length_cons, List.length_nil, Nat.zero_le, Nat.reduceAdd, Nat.reduceLeDiff, Option.bind_some, qx_kn_v, qx_kn_n, Nat.add_zero, Bool.false_eq_true, ↓reduceIte]
      have g := f0 (L := L) (xs := xs) (d := d) (e := e) (e6 := none) hN hlk2
      have hc : Rs L xs (d + 9) 23 0 [some (.ref 20), none, none, none, none, none, none] [] M 0 = Rs L xs (d + 9) 23 63 [some (.ref 20), some (.int (nI 1)), some (.int (nI 2)), some (.int (nI 500)), some (.int (nI 0)), some (.int (nI 0)), none] [] M2 0 := by
        simp only [s23_0, s23_1, s23_4, s23_5, s23_8i, s23_8r, s23_8n, s23_9, s23_10, s23_11, s23_14, s23_15, s23_16, s23_17, s23_20, s23_21, s23_24, s23_25, s23_26, s23_29, s23_30, s23_33, s23_34i, s23_34r, s23_34n, s23_35, s23_36, s23_37, s23_40, s23_41, s23_44, s23_47i, s23_47r, s23_47n, s23_48, s23_49i, s23_49r, s23_49n, s23_51, s23_52, s23_53, s23_56, s23_57, s23_60, s23_61i, s23_61r, s23_61n, k0, a1, h24, qi_n1 (show 1 < 2 ^ 31 by decide), z10, z12, z13, b1, List.length_cons, List.length_nil, Nat.zero_le, Nat.reduceAdd, Nat.reduceLeDiff, Option.bind_some, qx_kn_v, qx_kn_n, Nat.add_zero, Bool.false_eq_true, ↓reduceIte]
      have h0 : Rs L xs (e + 9) 202 0 [some (.ref 400), none] [] W1 0 = Rs L xs (e + 9) 202 4 [some (.ref 400), none] [] W2 0 := by
        simp only [s202_0, s202_1, k1, b2, List.length_cons, List.length_nil, Nat.zero_le, Nat.reduceAdd, Nat.reduceLeDiff, Option.bind_some, qx_kn_v, qx_kn_n, Nat.add_zero, Bool.false_eq_true, ↓reduceIte]
      rw [hc]
      refine lot_tr FC FW s2a (lot_w (fun W' hw => ?_) g)
      rw [← h0] at hw
      simp only [s205_0, s205_1, s205_3, s205_6, s205_9, s205_10, s205_13, s205_16, s205_17, s205_19, s205_22, s205_25, s205_26, s205_29, s205_32, s205_33, s205_35, s205_38, s205_41, s205_42, s205_45, s205_48, s205_49, s205_51, s205_54, s205_57, s205_58, s205_61, s205_64, s205_65, s205_66, s205_69, k1, w2, w3, qbf, qbt, hw, List.length_cons, List.length_nil, Nat.zero_le, Nat.reduceAdd, Nat.reduceLeDiff, Option.bind_some, qx_kn_v, qx_kn_n, Nat.add_zero, Bool.false_eq_true, ↓reduceIte]
  · simp only [y2] at c2 w2
    have h24 : Rs L xs (d + 8) 24 0 [some (.ref 20)] [] M1 0 = some (.inl (some (.int (nI 0))), M1, 0) := by
      simp only [s24_0, s24_1, s24_3, s24_6, s24_9, s24_10, s24_11, s24_12, s24_14, s24_17, s24_20, s24_21, s24_22, s24_23, s24_25, s24_28, s24_31, s24_32, s24_33, s24_34, s24_36, s24_39, s24_42, s24_43, s24_46, s24_47, k0, c2, qbt, List.length_cons, List.length_nil, Nat.zero_le, Nat.reduceAdd, Nat.reduceLeDiff, Option.bind_some, qx_kn_v, qx_kn_n, Nat.add_zero, Bool.false_eq_true, ↓reduceIte]
    have g := kl (L := L) (xs := xs) (d := d) (e := e) hN (N + 1) 0 s2 q M2 W2 none (by omega) (by omega) hlk2
    rw [if_pos rfl] at g
    have hc : Rs L xs (d + 9) 23 0 [some (.ref 20), none, none, none, none, none, none] [] M 0 = Rs L xs (d + 9) 23 63 [some (.ref 20), some (.int (nI 0)), some (.int (nI 1)), some (.int (nI 500)), some (.int (nI 0)), some (.int (nI 0)), none] [] M2 0 := by
      simp only [s23_0, s23_1, s23_4, s23_5, s23_8i, s23_8r, s23_8n, s23_9, s23_10, s23_11, s23_14, s23_15, s23_16, s23_17, s23_20, s23_21, s23_24, s23_25, s23_26, s23_29, s23_30, s23_33, s23_34i, s23_34r, s23_34n, s23_35, s23_36, s23_37, s23_40, s23_41, s23_44, s23_47i, s23_47r, s23_47n, s23_48, s23_49i, s23_49r, s23_49n, s23_51, s23_52, s23_53, s23_56, s23_57, s23_60, s23_61i, s23_61r, s23_61n, k0, a1, h24, qi_n1 (show 0 < 2 ^ 31 by decide), qi_z0, z03, b1, List.length_cons, List.length_nil, Nat.zero_le, Nat.reduceAdd, Nat.reduceLeDiff, Option.bind_some, qx_kn_v, qx_kn_n, Nat.add_zero, Bool.false_eq_true, ↓reduceIte]
    have h0 : Rs L xs (e + 9) 200 0 [some (.ref 400)] [] W1 0 = Rs L xs (e + 9) 200 4 [some (.ref 400)] [] W2 0 := by
      simp only [s200_0, s200_1, k1, b2, List.length_cons, List.length_nil, Nat.zero_le, Nat.reduceAdd, Nat.reduceLeDiff, Option.bind_some, qx_kn_v, qx_kn_n, Nat.add_zero, Bool.false_eq_true, ↓reduceIte]
    rw [hc]
    refine lot_tr FC FW s2a (lot_w (fun W' hw => ?_) g)
    rw [← h0] at hw
    simp only [s205_0, s205_1, s205_3, s205_6, s205_9, s205_10, s205_13, s205_16, s205_17, s205_19, s205_22, s205_25, s205_26, s205_29, s205_32, s205_33, s205_35, s205_38, s205_41, s205_42, s205_45, s205_48, s205_49, s205_51, s205_54, s205_57, s205_58, s205_61, s205_64, s205_65, s205_66, s205_69, k1, w2, qbt, hw, List.length_cons, List.length_nil, Nat.zero_le, Nat.reduceAdd, Nat.reduceLeDiff, Option.bind_some, qx_kn_v, qx_kn_n, Nat.add_zero, Bool.false_eq_true, ↓reduceIte]
end QL
