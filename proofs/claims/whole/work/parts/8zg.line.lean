/-! A line of kinds, a line of friends. -/
theorem nPu_k {W : qxM} {n r q q1 : Nat} {f mt : Nat → Nat} (h : nPu W n r q f mt) : nPu (qx_up W 401 2 (nI q1)) n r q1 f mt := by
  obtain ⟨u0, u1, u2, u3, u4⟩ := h
  refine ⟨?_, ?_, qx_up_eq _ _ _ _, fun p hp => ?_, fun p hp => ?_⟩
  · rw [qx_up_at, if_neg (by omega), u0]
  · rw [qx_up_at, if_neg (by omega), u1]
  · rw [qx_up_at, if_neg (by omega), u3 p hp]
  · rw [qx_up_at, if_neg (by omega), u4 p hp]
theorem qp_k {n r q q1 : Nat} {f mt : Nat → Nat} (h : qp_ok n r q f mt) (h1 : q1 < 16384) : qp_ok n r q1 f mt := ⟨h.1, h.2.1, h1, h.2.2.2.1, h.2.2.2.2.1, h.2.2.2.2.2⟩
theorem qk_lt {q p : Nat} (h : q < 16384) (hp : p < 14) : q ||| 2 ^ p < 16384 := Nat.or_lt_two_pow (n := 14) h (Nat.pow_lt_pow_right (by decide) hp)
theorem wE_k {W : qxM} {c s n r q q1 : Nat} {f mt : Nat → Nat} (h : wE W c s n r q f mt) (h1 : q1 < 16384) : wE (qx_up W 401 2 (nI q1)) c s n r q1 f mt := by
  obtain ⟨a1, a2, a3, a4, a5⟩ := h
  exact ⟨a1, by rw [qx_up_ne _ _ _ (by decide), a2], by rw [qx_up_ne _ _ _ (by decide), a3], nPu_k a4, qp_k a5 h1⟩
theorem qft_10 (W : qxM) (c s : Nat) : (qft W c s).1 400 10 = nI c := by unfold qft; rw [qx_up_at, if_neg (by omega), qx_up_eq]
section QL
variable {L : Nat} {xs : Nat → Int32} {B : Nat → Int32} {N : Nat}
theorem is3 {s n r q : Nat} {f mt : Nat → Nat} {M W : qxM} (h : lk M W B N s n r q f mt) (d : Nat) : Rs L xs d 194 0 [some (.ref 400), some (.int (nI 3))] [] W 0 = some (.inl (some (.int (bI (decide (tkK B N s = 2))))), W, 0) := by
  have hK := tkK_le B N s
  have hm := mkd_le (tkK B N s)
  have g := m194 (L := L) (xs := xs) (d := d) (x := 0) (j := 3) h.2.2.1 h.2.1.2.1 (by omega) (by decide)
  simp only [mkd_3 _ hK] at g
  exact g
theorem is3t {s n r q : Nat} {f mt : Nat → Nat} {M W : qxM} (h : lk M W B N s n r q f mt) (hk : tkK B N s = 2) (d : Nat) : Rs L xs d 194 0 [some (.ref 400), some (.int (nI 3))] [] W 0 = some (.inl (some (.int (bI true))), W, 0) := by
  have g := is3 (L := L) (xs := xs) h d
  rw [decide_eq_true hk] at g
  exact g
theorem is3f {s n r q : Nat} {f mt : Nat → Nat} {M W : qxM} (h : lk M W B N s n r q f mt) (hk : tkK B N s ≠ 2) (d : Nat) : Rs L xs d 194 0 [some (.ref 400), some (.int (nI 3))] [] W 0 = some (.inl (some (.int (bI false))), W, 0) := by
  have g := is3 (L := L) (xs := xs) h d
  rw [decide_eq_false hk] at g
  exact g
theorem kl {d e n r : Nat} {f mt : Nat → Nat} (hN : N ≤ 500) : ∀ (k i s q : Nat) (M W : qxM) (e6 : Option Value), N < s + k → i ≤ s → lk M W B N s n r q f mt →
    lot M W B N s n r (Rs L xs (d + 9) 23 63 [some (.ref 20), some (.int (nI 0)), some (.int (nI 1)), some (.int (nI 500)), some (.int (nI i)), some (.int (nI i)), e6] [] M 0) (Rs L xs (e + 9) 200 (if i = 0 then 4 else 19) [some (.ref 400)] [] W 0) := by
  obtain ⟨k1, k2, k3⟩ := qx_m400
  intro k
  induction k with
  | zero =>
    intro i s q M W e6 hk hi h
    have := h.2.2.2.2.2.2.1
    omega
  | succ k ih =>
    intro i s q M W e6 hk hi h
    obtain ⟨h1, h2, h3, h4, h5, h6, h7, h8⟩ := id h
    have hn14 := h6.1
    have bad : ∀ c, 0 < c ∧ c < 9 → (∀ d x : Nat, Rs L xs (d + 2) 198 0 [some (.ref (400))] [] (W) x = some (.inl (some (.int (nI 0))), qft W c s, x)) → (0 < i → tkK B N s = 2) → Rs L xs (e + 9) 200 (if i = 0 then 4 else 19) [some (.ref 400)] [] W 0 = some (.inl none, qx_up (qft W c s) 401 2 (nI (q ||| 2 ^ 0)), 0) ∧ wE (qx_up (qft W c s) 401 2 (nI (q ||| 2 ^ 0))) c s n r (q ||| 2 ^ 0) f mt ∧ wF W (qx_up (qft W c s) 401 2 (nI (q ||| 2 ^ 0))) := by
      intro c hc g hh
      have hE := wE_ft (W := W) (s := s) hc h5 h6
      refine ⟨?_, wE_k hE.1 (qk_lt h6.2.2.1 (by decide)), wF_trans hE.2 (wF_mf (R := fun j => j = 2) (mf_up _ _ _ rfl) (by intro j hj; omega))⟩
      rw [g200 (p := 0) (by decide) h5.2.2.1 (m199b (d := e + 4) hc g) (fun w d => is3t h (hh w) d)]
      have e10 : (qx_up (qft W c s) 401 2 (nI (q ||| 2 ^ 0))).1 400 10 = nI c := by rw [qx_up_ne _ _ _ (by decide), qft_10]
      have g194 := fun d => m194e (L := L) (xs := xs) (d := d) (x := 0) (j := 3) hc.1 hc.2 e10
      simp only [s200_19, s200_20, s200_21, s200_24, s200_45, k1, g194, qbf, List.length_cons, List.length_nil, Nat.zero_le, Nat.reduceAdd, Nat.reduceLeDiff, Option.bind_some, qx_kn_v, qx_kn_n, Nat.add_zero, Bool.false_eq_true, ↓reduceIte]
    by_cases hk2 : tkK B N s = 2
    · have hsN : s < N := Decidable.by_contra fun w => by
        rw [tkK_N (by omega)] at hk2
        omega
      have hi5 : i < 500 := by omega
      rcases pup (L := L) (xs := xs) h with ⟨c, c0, c3, ce, g1, g2⟩ | ⟨p, p1, p2, p3, g1, g2⟩
      · obtain ⟨b1, b2, b3⟩ := bad c ⟨c0, by omega⟩ g2 (fun _ => hk2)
        exact lot_bad h (c23e h1 hk2 hi5 (by decide) h4.1 c0 (by omega) g1) b1 b2 b3
      · obtain ⟨M1, g26, u1, e1, f1⟩ := m26_0 (L := L) (xs := xs) (d := d + 6) (x := 0) (i := i) h4 p3 (show p < 14 by omega)
        have l1 := lt_20 (lk_lt h) e1 f1
        obtain ⟨M2, W1, s1, a1, a2, l2, q1, q2, s1a, s1b⟩ := nxtk (L := L) (xs := xs) (d := d + 5) (e := e + 4) hN l1
        have hs1 := s1b (by rw [hk2]; decide)
        have h199 := m199 (d := e + 4) g2 a2
        have h200 := g200 (d := e) (i := i) (show p < 14 by omega) h5.2.2.1 h199 (fun _ d => is3t h hk2 d)
        rw [c23g h1 hk2 hi5 (by decide) h4.1 g1 m25_0 g26 a1, h200]
        have hw : mf (fun j => j = 2) W1 (qx_up W1 401 2 (nI (q ||| 2 ^ p))) := mf_up _ _ _ rfl
        have hlk : lk M2 (qx_up W1 401 2 (nI (q ||| 2 ^ p))) B N s1 n r (q ||| 2 ^ p) f mt := lk_of (lt_mf l2 hw) (qPu_20 u1 q1.2) (nPu_k (nPu_q4 h5 q2)) (qp_k h6 (qk_lt h6.2.2.1 (by omega))) h8
        have g := ih (i + 1) s1 (q ||| 2 ^ p) M2 _ (some (.int (nI 0))) (by omega) (by omega) hlk
        rw [if_neg (by omega)] at g
        exact lot_tr (cF_trans (cF_10 e1 f1) (cF_q20 q1)) (wF_trans (wF_q4 q2) (wF_mf hw (by intro j hj; omega))) (by omega) g
    · have hcls := c23x (L := L) (xs := xs) (d := d) (i := i) (so := 0) (nd := 1) (lm := 500) (e6 := e6) h1 (Or.inr hk2) (by omega) (by decide) (by decide)
      rcases Nat.eq_zero_or_pos i with hi0 | hi0
      · rcases pup (L := L) (xs := xs) h with ⟨c, c0, c3, ce, g1, g2⟩ | ⟨p, p1, p2, p3, g1, g2⟩
        · have hc1 := ce hk2
          subst hc1
          obtain ⟨b1, b2, b3⟩ := bad 1 ⟨c0, by omega⟩ g2 (fun w => by omega)
          exact lot_bad h (by rw [hcls, if_pos (by omega)]) b1 b2 b3
        · exact absurd p2 hk2
      · have g194 := fun d => is3f (L := L) (xs := xs) h hk2 d
        refine Or.inr ⟨s, M, W, q, f, mt, ?_, ?_, h, Nat.le_refl _, cF_refl _, wF_refl _⟩
        · rw [hcls, if_neg (by omega)]
          simp only [s23_143, s23_144, s23_145, s23_148, s23_149, s23_152, s23_153, s23_156, s23_157, s23_160, s23_161, s23_164, s23_165, z02, List.length_cons, List.length_nil, Nat.zero_le, Nat.reduceAdd, Nat.reduceLeDiff, Option.bind_some, qx_kn_v, qx_kn_n, Nat.add_zero, Bool.false_eq_true, ↓reduceIte]
        · rw [if_neg (by omega)]
          simp only [s200_19, s200_20, s200_21, s200_24, s200_45, k1, g194, qbf, List.length_cons, List.length_nil, Nat.zero_le, Nat.reduceAdd, Nat.reduceLeDiff, Option.bind_some, qx_kn_v, qx_kn_n, Nat.add_zero, Bool.false_eq_true, ↓reduceIte]
/-- a friend -/
theorem m201f {d c s a : Nat} {W : qxM} (hc : 0 < c ∧ c < 9) (h : ∀ d x : Nat, Rs L xs (d + 2) 198 0 [some (.ref (400))] [] (W) x = some (.inl (some (.int (nI 0))), qft W c s, x)) : Rs L xs (d + 8) 201 0 [some (.ref 400), some (.int (nI a)), none] [] W 0 = some (.inl none, qft W c s, 0) := by
  have g := fun d => h d 0
  have e10 := qft_10 W c s
  have t : (nI c ≤ 0) = False := zil hc.1 (by omega)
  simp only [s201_0, s201_1, s201_4i, s201_4r, s201_4n, s201_5, s201_6, s201_9, s201_12, s201_13, s201_14, s201_17, s201_18, s201_19, s201_22, s201_23, s201_26, s201_29, s201_30, s201_31, s201_32, s201_33, s201_34, s201_37, s201_38, s201_41, qx_m400.1, g, e10, zi0 hc.1 (show c < 2 ^ 31 by omega), t, List.length_cons, List.length_nil, Nat.zero_le, Nat.reduceAdd, Nat.reduceLeDiff, Option.bind_some, qx_kn_v, qx_kn_n, Nat.add_zero, Bool.false_eq_true, ↓reduceIte]
theorem m201e {d c s a n r q : Nat} {f mt : Nat → Nat} {W : qxM} (h : wE W c s n r q f mt) : Rs L xs (d + 8) 201 0 [some (.ref 400), some (.int (nI a)), none] [] W 0 = some (.inl none, W, 0) := by
  have g := fun d => m198e (L := L) (xs := xs) (d := d) (x := 0) h
  have t : (nI c ≤ 0) = False := zil h.1.1 (by have := h.1.2; omega)
  simp only [s201_0, s201_1, s201_4i, s201_4r, s201_4n, s201_5, s201_6, s201_9, s201_12, s201_13, s201_14, s201_17, s201_18, s201_19, s201_22, s201_23, s201_26, s201_29, s201_30, s201_31, s201_32, s201_33, s201_34, s201_37, s201_38, s201_41, qx_m400.1, g, h.2.1, zi0 h.1.1 (show c < 2 ^ 31 by have := h.1.2; omega), t, List.length_cons, List.length_nil, Nat.zero_le, Nat.reduceAdd, Nat.reduceLeDiff, Option.bind_some, qx_kn_v, qx_kn_n, Nat.add_zero, Bool.false_eq_true, ↓reduceIte]
theorem m201s {d s a n r q : Nat} {f mt : Nat → Nat} {M W : qxM} (h : lk M W B N s n r q f mt) (g : ∀ d x : Nat, Rs L xs (d + 2) 198 0 [some (.ref (400))] [] (W) x = some (.inl (some (.int (nI a))), W, x)) : Rs L xs (d + 8) 201 0 [some (.ref 400), some (.int (nI a)), none] [] W 0 = some (.inl none, qft W 3 s, 0) := by
  have g' := fun d => g d 0
  have g193 := fun d => m193 (L := L) (xs := xs) (d := d) (x := 0) (c := 3) h.2.2.1 h.2.1.2.2.1
  have e10 := qft_10 W 3 s
  have t : (nI 3 ≤ 0) = False := by decide
  simp only [s201_0, s201_1, s201_4i, s201_4r, s201_4n, s201_5, s201_6, s201_9, s201_12, s201_13, s201_14, s201_17, s201_18, s201_19, s201_22, s201_23, s201_26, s201_29, s201_30, s201_31, s201_32, s201_33, s201_34, s201_37, s201_38, s201_41, qx_m400.1, g', h.2.2.1, qi_z0, g193, e10, t, List.length_cons, List.length_nil, Nat.zero_le, Nat.reduceAdd, Nat.reduceLeDiff, Option.bind_some, qx_kn_v, qx_kn_n, Nat.add_zero, Bool.false_eq_true, ↓reduceIte]
theorem m201g {d s a p n r q : Nat} {f mt : Nat → Nat} {M W W1 W2 : qxM} (h : lk M W B N s n r q f mt) (ha : a < 14) (hp : p < 14) (hpa : p ≠ a) (g : ∀ d x : Nat, Rs L xs (d + 2) 198 0 [some (.ref (400))] [] (W) x = some (.inl (some (.int (nI p))), W, x)) (h217 : Rs L xs (d + 7) 217 0 [some (.ref 400), some (.int (nI a)), some (.int (nI p)), some (.int (nI 1))] [] W 0 = some (.inl none, W1, 0)) (h192 : Rs L xs (d + 7) 192 0 [some (.ref 400)] [] W1 0 = some (.inl none, W2, 0)) : Rs L xs (d + 8) 201 0 [some (.ref 400), some (.int (nI a)), none] [] W 0 = some (.inl none, W2, 0) := by
  have g' := fun d => g d 0
  have e : (nI p = nI a) = False := by rw [qi_eq (by omega) (by omega)]; exact eq_false hpa
  simp only [s201_0, s201_1, s201_4i, s201_4r, s201_4n, s201_5, s201_6, s201_9, s201_12, s201_13, s201_14, s201_17, s201_18, s201_19, s201_22, s201_23, s201_26, s201_29, s201_30, s201_31, s201_32, s201_33, s201_34, s201_37, s201_38, s201_41, qx_m400.1, g', h.2.2.1, qi_z0, e, z00, h217, h192, List.length_cons, List.length_nil, Nat.zero_le, Nat.reduceAdd, Nat.reduceLeDiff, Option.bind_some, qx_kn_v, qx_kn_n, Nat.add_zero, Bool.false_eq_true, ↓reduceIte]
theorem g202 {d i a : Nat} {W W1 : qxM} (h : Rs L xs (d + 8) 201 0 [some (.ref 400), some (.int (nI a)), none] [] W 0 = some (.inl none, W1, 0)) (h194 : i ≠ 1 → ∀ d, Rs L xs d 194 0 [some (.ref 400), some (.int (nI 3))] [] W 0 = some (.inl (some (.int (bI true))), W, 0)) :
    Rs L xs (d + 9) 202 (if i = 1 then 9 else 14) [some (.ref 400), some (.int (nI a))] [] W 0 = Rs L xs (d + 9) 202 14 [some (.ref 400), some (.int (nI a))] [] W1 0 := by
  have k1 := qx_m400.1
  by_cases z : i = 1
  · rw [if_pos z]
    simp only [s202_9, s202_10, s202_11, k1, h, List.length_cons, List.length_nil, Nat.zero_le, Nat.reduceAdd, Nat.reduceLeDiff, Option.bind_some, qx_kn_v, qx_kn_n, Nat.add_zero, Bool.false_eq_true, ↓reduceIte]
  · rw [if_neg z]
    have h' := fun d => h194 z d
    rw [s202_14]
    simp only [s202_15, s202_16, s202_19, s202_22, s202_23, s202_24, k1, h, h', qbt, List.length_cons, List.length_nil, Nat.zero_le, Nat.reduceAdd, Nat.reduceLeDiff, Option.bind_some, qx_kn_v, qx_kn_n, Nat.add_zero, Bool.false_eq_true, ↓reduceIte]
    rw [s202_27]
theorem fl {d e n r q a : Nat} {mt : Nat → Nat} (hN : N ≤ 500) (ha : a < n) : ∀ (k i s : Nat) (f : Nat → Nat) (M W : qxM) (e6 : Option Value), N < s + k → 1 ≤ i → i ≤ s → M.1 20 10 = nI a → lk M W B N s n r q f mt →
    lot M W B N s n r (Rs L xs (d + 9) 23 63 [some (.ref 20), some (.int (nI 1)), some (.int (nI 2)), some (.int (nI 500)), some (.int (nI i)), some (.int (nI i)), e6] [] M 0) (Rs L xs (e + 9) 202 (if i = 1 then 9 else 14) [some (.ref 400), some (.int (nI a))] [] W 0) := by
  obtain ⟨k1, k2, k3⟩ := qx_m400
  intro k
  induction k with
  | zero =>
    intro i s f M W e6 hk h1i hi h10 h
    have := h.2.2.2.2.2.2.1
    omega
  | succ k ih =>
    intro i s f M W e6 hk h1i hi h10 h
    obtain ⟨h1, h2, h3, h4, h5, h6, h7, h8⟩ := id h
    have hn14 := h6.1
    have end_ : ∀ c W1, 0 < c ∧ c < 9 → W1.1 400 10 = nI c → Rs L xs (e + 9) 202 14 [some (.ref 400), some (.int (nI a))] [] W1 0 = some (.inl none, W1, 0) := by
      intro c W1 hc e10
      have g194 := fun d => m194e (L := L) (xs := xs) (d := d) (x := 0) (j := 3) hc.1 hc.2 e10
      simp only [s202_14, s202_15, s202_16, s202_19, s202_30, k1, g194, qbf, List.length_cons, List.length_nil, Nat.zero_le, Nat.reduceAdd, Nat.reduceLeDiff, Option.bind_some, qx_kn_v, qx_kn_n, Nat.add_zero, Bool.false_eq_true, ↓reduceIte]
    have bad : ∀ c, 0 < c ∧ c < 9 → (∀ d x : Nat, Rs L xs (d + 2) 198 0 [some (.ref (400))] [] (W) x = some (.inl (some (.int (nI 0))), qft W c s, x)) → (i ≠ 1 → tkK B N s = 2) → Rs L xs (e + 9) 202 (if i = 1 then 9 else 14) [some (.ref 400), some (.int (nI a))] [] W 0 = some (.inl none, qft W c s, 0) := by
      intro c hc g hh
      rw [g202 (m201f hc g) (fun w d => is3t h (hh w) d)]
      exact end_ c _ hc (qft_10 _ _ _)
    by_cases hk2 : tkK B N s = 2
    · have hsN : s < N := Decidable.by_contra fun w => by
        rw [tkK_N (by omega)] at hk2
        omega
      have hi5 : i < 500 := by omega
      rcases pup (L := L) (xs := xs) h with ⟨c, c0, c3, ce, g1, g2⟩ | ⟨p, p1, p2, p3, g1, g2⟩
      · have hE := wE_ft (W := W) (s := s) ⟨c0, (show c < 9 by omega)⟩ h5 h6
        exact lot_bad h (c23e h1 hk2 hi5 (by decide) h4.1 c0 (by omega) g1) (bad c ⟨c0, by omega⟩ g2 (fun _ => hk2)) hE.1 hE.2
      · by_cases hpa : p = a
        · subst hpa
          have hE := wE_ft (W := W) (c := 3) (s := s) (by decide) h5 h6
          refine lot_bad h (c23b (c := 3) h1 hk2 hi5 (by decide) h4.1 (by decide) (by decide) g1 (m25_1c (by omega) (by omega) p3 h10)) ?_ hE.1 hE.2
          rw [g202 (m201s h g2) (fun _ d => is3t h hk2 d)]
          exact end_ 3 _ (by decide) (qft_10 _ _ _)
        · obtain ⟨M1, g26, u1, e1, e10, f1⟩ := m26_1 (L := L) (xs := xs) (d := d + 6) (x := 0) (i := i) (by omega) (by omega) h4 p3 h10 (show p < 14 by omega) (show a < 14 by omega) (fun w => hpa w.symm)
          obtain ⟨W1, g217', w1, v1⟩ := g217 (L := L) (xs := xs) (d := e + 7) (x := 0) h5 (show a < 14 by omega) (show p < 14 by omega) (fun w => hpa w.symm) true
          have l1 := lt_mf (lt_20 (lk_lt h) e1 f1) v1
          obtain ⟨M2, W2, s1, a1, a2, l2, q1, q2, s1a, s1b⟩ := nxtk (L := L) (xs := xs) (d := d + 5) (e := e + 4) hN l1
          have hs1 := s1b (by rw [hk2]; decide)
          have h201 := m201g (d := e) h (show a < 14 by omega) (show p < 14 by omega) hpa g2 g217' a2
          rw [c23g h1 hk2 hi5 (by decide) h4.1 g1 (m25_1b (by omega) (by omega) p3 h10 (by omega) (by omega) hpa) g26 a1, g202 h201 (fun _ d => is3t h hk2 d)]
          have hlk : lk M2 W2 B N s1 n r q (qp_be f a p true) mt := lk_of l2 (qPu_20 u1 q1.2) (nPu_q4 w1 q2) (qp_be_ok h6 ha p1 (fun w => hpa w.symm) true) h8
          have g := ih (i + 1) s1 (qp_be f a p true) M2 W2 (some (.int (nI 0))) (by omega) (by omega) (by omega) (by rw [q1.1 10 (by unfold qtF; omega), e10]) hlk
          rw [if_neg (by omega)] at g
          exact lot_tr (cF_trans (cF_10 e1 f1) (cF_q20 q1)) (wF_trans (wF_mf v1 (by intro j hj; omega)) (wF_q4 q2)) (by omega) g
    · have hcls := c23x (L := L) (xs := xs) (d := d) (i := i) (so := 1) (nd := 2) (lm := 500) (e6 := e6) h1 (Or.inr hk2) (by omega) (by decide) (by decide)
      by_cases hi1 : i = 1
      · rcases pup (L := L) (xs := xs) h with ⟨c, c0, c3, ce, g1, g2⟩ | ⟨p, p1, p2, p3, g1, g2⟩
        · have hc1 := ce hk2
          subst hc1
          have hE := wE_ft (W := W) (c := 1) (s := s) (by decide) h5 h6
          exact lot_bad h (by rw [hcls, if_pos (by omega)]) (bad 1 (by decide) g2 (fun w => absurd hi1 w)) hE.1 hE.2
        · exact absurd p2 hk2
      · have g194 := fun d => is3f (L := L) (xs := xs) h hk2 d
        refine Or.inr ⟨s, M, W, q, f, mt, ?_, ?_, h, Nat.le_refl _, cF_refl _, wF_refl _⟩
        · rw [hcls, if_neg (by omega)]
          simp only [s23_143, s23_144, s23_145, s23_148, s23_149, s23_152, s23_153, s23_156, s23_157, s23_160, s23_161, s23_164, s23_165, z12, List.length_cons, List.length_nil, Nat.zero_le, Nat.reduceAdd, Nat.reduceLeDiff, Option.bind_some, qx_kn_v, qx_kn_n, Nat.add_zero, Bool.false_eq_true, ↓reduceIte]
        · rw [if_neg hi1]
          simp only [s202_14, s202_15, s202_16, s202_19, s202_30, k1, g194, qbf, List.length_cons, List.length_nil, Nat.zero_le, Nat.reduceAdd, Nat.reduceLeDiff, Option.bind_some, qx_kn_v, qx_kn_n, Nat.add_zero, Bool.false_eq_true, ↓reduceIte]
end QL
