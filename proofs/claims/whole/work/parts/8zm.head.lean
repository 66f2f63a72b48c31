/-! The head of a text, by both. -/
theorem zrange {z : Int32} {l k : Nat} (hl : l ≤ 14) (hk : k < 900) (h1 : ¬ z < nI l) (h2 : ¬ nI k < z) : ∃ n, l ≤ n ∧ n ≤ k ∧ z = nI n := by
  have el : (nI l).toInt = (l : Int) := nI_toInt (by omega)
  have ek : (nI k).toInt = (k : Int) := nI_toInt (by omega)
  have ek1 : (nI (k + 1)).toInt = ((k + 1 : Nat) : Int) := nI_toInt (by omega)
  have e0 : (0 : Int32).toInt = 0 := by decide
  rw [Int32.lt_iff_toInt_lt, el] at h1
  rw [Int32.lt_iff_toInt_lt, ek] at h2
  rcases pk_ix z (show k + 1 < 2 ^ 31 by omega) with q | q | ⟨p, p1, p2⟩
  · rw [Int32.lt_iff_toInt_lt, e0] at q
    omega
  · rw [Int32.le_iff_toInt_le, ek1] at q
    omega
  · refine ⟨p, ?_, by omega, p2⟩
    rw [p2, nI_toInt (by omega)] at h1
    omega
theorem qp_0 {n r : Nat} (hn : n ≤ 14) (hr : r ≤ 2) : qp_ok n r 0 (fun _ => 0) (fun _ => 14) :=
  ⟨hn, hr, by decide, fun p _ => ⟨Nat.two_pow_pos n, Nat.zero_testBit p⟩, fun a b _ _ => by rw [Nat.zero_testBit, Nat.zero_testBit], fun p _ h => absurd h (Nat.lt_irrefl 14)⟩
def hot (L : Nat) (xs : Nat → Int32) (M W : qxM) (B : Nat → Int32) (N d e : Nat) : Prop :=
  (∃ c s1 M1 W1 n r, ∃ iv : Int32, (0 < c ∧ c < 9) ∧ s1 ≤ 500 ∧ Rs L xs (d + 9) 22 0 [some (.ref 20), none] [] M 0 = some (.inl (some (.int (nI c))), M1, 0) ∧ Rs L xs (e + 11) 206 0 [some (.ref 400), none] [] W 0 = Rs L xs (e + 11) 206 71 [some (.ref 400), some (.int iv)] [] W1 0 ∧ M1.1 20 8 = nI s1 ∧ s51 L xs M1 ∧ wE W1 c s1 n r 0 (fun _ => 0) (fun _ => 14) ∧ qf (fun a => a = 20 ∨ 22 ≤ a ∧ a ≤ 24) M M1 ∧ wF W W1) ∨
  (∃ s1 M1 W1 n r, ∃ iv : Int32, Rs L xs (d + 9) 22 0 [some (.ref 20), none] [] M 0 = some (.inl (some (.int (nI 0))), M1, 0) ∧ Rs L xs (e + 11) 206 0 [some (.ref 400), none] [] W 0 = Rs L xs (e + 11) 206 71 [some (.ref 400), some (.int iv)] [] W1 0 ∧ lk M1 W1 B N s1 n r 0 (fun _ => 0) (fun _ => 14) ∧ qf (fun a => a = 20 ∨ 22 ≤ a ∧ a ≤ 24) M M1 ∧ wF W W1)
section QL
variable {L : Nat} {xs : Nat → Int32} {B : Nat → Int32} {N : Nat}
theorem g206m {d : Nat} : ∀ (k i : Nat) (W : qxM), i + k = 14 → ∃ W1, Rs L xs (d + 11) 206 49 [some (.ref 400), some (.int (nI i))] [] W 0 = Rs L xs (d + 11) 206 71 [some (.ref 400), some (.int (nI 14))] [] W1 0 ∧ (∀ p, i ≤ p → p < 14 → W1.1 401 (21 + p) = -1) ∧ mf (fun j => 21 + i ≤ j ∧ j < 35) W W1 := by
  obtain ⟨k1, k2, k3⟩ := qx_m400
  intro k
  induction k with
  | zero =>
    intro i W hi
    have h14 : i = 14 := by omega
    subst h14
    refine ⟨W, ?_, fun p _ _ => by omega, mf_refl _ _⟩
    have t : (nI 14 ≤ nI 14) = True := by decide
    simp only [s206_49, s206_50, s206_52, t, List.length_cons, List.length_nil, Nat.zero_le, Nat.reduceAdd, Nat.reduceLeDiff, Option.bind_some, qx_kn_v, qx_kn_n, Nat.add_zero, Bool.false_eq_true, ↓reduceIte]
  | succ k ih =>
    intro i W hi
    have t : (nI 14 ≤ nI i) = False := by rw [qi_le (by decide) (by omega)]; exact eq_false (by omega)
    have f1 : mf (fun j => 21 + i ≤ j ∧ j < 35) W (qx_up W 401 (21 + i) (-1)) := mf_up _ _ _ (by omega)
    obtain ⟨W1, g1, c1, f2⟩ := ih (i + 1) (qx_up W 401 (21 + i) (-1)) (by omega)
    refine ⟨W1, ?_, fun p p1 p2 => ?_, ⟨qf_trans f1.1 f2.1, fun j hj => by rw [f2.2 j (by omega), f1.2 j hj]⟩⟩
    · rw [s206_49]
      simp only [s206_50, s206_52, s206_55, s206_56, s206_59, s206_61, s206_62, s206_63, s206_64, s206_65i, s206_65r, s206_65n, k1, k2, k3, t, nI_add, (qn_c (21 + i) (by omega)).1, (qn_c (21 + i) (by omega)).2, List.length_cons, List.length_nil, Nat.zero_le, Nat.reduceAdd, Nat.reduceLeDiff, Option.bind_some, qx_kn_v, qx_kn_n, Nat.add_zero, Bool.false_eq_true, ↓reduceIte]
      rw [s206_68, g1]
    · by_cases z : p = i
      · rw [z, f2.2 (21 + i) (by omega), qx_up_eq]
      · exact c1 p (by omega) p2
theorem g206n {d n r : Nat} {W : qxM} (h0 : W.1 401 0 = nI n) (h1 : W.1 401 1 = nI r) (h2 : ∀ k, 2 ≤ k → k < 35 → W.1 401 k = nI 0) : ∃ W1, Rs L xs (d + 11) 206 49 [some (.ref 400), some (.int (nI 0))] [] W 0 = Rs L xs (d + 11) 206 71 [some (.ref 400), some (.int (nI 14))] [] W1 0 ∧ nPu W1 n r 0 (fun _ => 0) (fun _ => 14) ∧ mf (fun j => 21 ≤ j ∧ j < 35) W W1 := by
  obtain ⟨W1, g1, c1, f1⟩ := g206m (L := L) (xs := xs) (d := d) 14 0 W (by decide)
  refine ⟨W1, g1, ⟨?_, ?_, ?_, fun p hp => ?_, fun p hp => ?_⟩, ⟨f1.1, fun j hj => f1.2 j (by omega)⟩⟩
  · rw [f1.2 0 (by omega), h0]
  · rw [f1.2 1 (by omega), h1]
  · rw [f1.2 2 (by omega), h2 2 (by decide) (by decide)]
  · rw [f1.2 (7 + p) (by omega), h2 _ (by omega) (by omega)]
  · rw [c1 p (by omega) hp]
    rfl
theorem m197 {d : Nat} {lo hi v : Int32} {W W1 W2 : qxM} (g : ∀ d x : Nat, Rs L xs (d + 1) 196 0 [some (.ref (400)), some (.int (lo)), some (.int (hi))] [] (W) x = some (.inl (some (.int (v))), W1, x)) (h : Rs L xs (d + 3) 192 0 [some (.ref 400)] [] W1 0 = some (.inl none, W2, 0)) : Rs L xs (d + 4) 197 0 [some (.ref 400), some (.int lo), some (.int hi), none] [] W 0 = some (.inl (some (.int v)), W2, 0) := by
  have g' := fun d => g d 0
  simp only [s197_0, s197_1, s197_2, s197_3, s197_6i, s197_6r, s197_6n, s197_7, s197_8, s197_11, s197_12, qx_m400.1, g', h, List.length_cons, List.length_nil, Nat.zero_le, Nat.reduceAdd, Nat.reduceLeDiff, Option.bind_some, qx_kn_v, qx_kn_n, Nat.add_zero, Bool.false_eq_true, ↓reduceIte]
theorem m197e {d c : Nat} {lo hi : Int32} {W : qxM} (hc : 0 < c ∧ c < 9) (h : W.1 400 10 = nI c) : Rs L xs (d + 4) 197 0 [some (.ref 400), some (.int lo), some (.int hi), none] [] W 0 = some (.inl (some (.int lo)), W, 0) :=
  m197 (fun d x => m196e hc.1 hc.2 h) (m192e hc.1 hc.2 h)
theorem g206a {d : Nat} {v1 v2 : Int32} {W Wa Wb : qxM} (h1 : Rs L xs (d + 10) 197 0 [some (.ref 400), some (.int (nI 1)), some (.int (nI 14)), none] [] W 0 = some (.inl (some (.int v1)), Wa, 0)) (h2 : Rs L xs (d + 10) 197 0 [some (.ref 400), some (.int (nI 0)), some (.int (nI 2)), none] [] (qx_up Wa 401 0 v1) 0 = some (.inl (some (.int v2)), Wb, 0)) : Rs L xs (d + 11) 206 22 [some (.ref 400), none] [] W 0 = Rs L xs (d + 11) 206 49 [some (.ref 400), some (.int (nI 0))] [] (qx_up Wb 401 1 v2) 0 := by
  obtain ⟨k1, k2, k3⟩ := qx_m400
  simp only [s206_22, s206_23, s206_26, s206_27, s206_28, s206_29, s206_31, s206_34, s206_35, s206_36, s206_39, s206_40, s206_41, s206_42, s206_43, s206_46, s206_47, s206_48i, s206_48r, s206_48n, k1, k2, k3, h1, h2, (qn_c (0) (by omega)).1, (qn_c (0) (by omega)).2, (qn_c (1) (by omega)).1, (qn_c (1) (by omega)).2, List.length_cons, List.length_nil, Nat.zero_le, Nat.reduceAdd, Nat.reduceLeDiff, Option.bind_some, qx_kn_v, qx_kn_n, Nat.add_zero, Bool.false_eq_true, ↓reduceIte]
/-- behind a fault in the head -/
theorem g206x {d c s n r : Nat} {W : qxM} (hc : 0 < c ∧ c < 9) (hn : n ≤ 14) (hr : r ≤ 2) (h10 : W.1 400 10 = nI c) (h11 : W.1 400 11 = nI s) (h0 : W.1 401 0 = nI n) (h1 : W.1 401 1 = nI r) (h2 : ∀ k, 2 ≤ k → k < 35 → W.1 401 k = nI 0) : ∃ W1, Rs L xs (d + 11) 206 49 [some (.ref 400), some (.int (nI 0))] [] W 0 = Rs L xs (d + 11) 206 71 [some (.ref 400), some (.int (nI 14))] [] W1 0 ∧ wE W1 c s n r 0 (fun _ => 0) (fun _ => 14) ∧ wF W W1 := by
  obtain ⟨W1, g1, u1, f1⟩ := g206n (L := L) (xs := xs) (d := d) h0 h1 h2
  exact ⟨W1, g1, ⟨hc, by rw [f1.1.1 400 (by decide), h10], by rw [f1.1.1 400 (by decide), h11], u1, qp_0 hn hr⟩, wF_mf f1 (by intro j hj; omega)⟩
theorem wF_ft {W : qxM} {c s : Nat} (hc : 0 < c ∧ c < 9) : wF W (qft W c s) ∧ (∀ k, (qft W c s).1 401 k = W.1 401 k) ∧ (qft W c s).1 400 11 = nI s := by
  have e : ∀ k, (qft W c s).1 401 k = W.1 401 k := fun k => by unfold qft; rw [qx_up_ne _ _ _ (by decide), qx_up_ne _ _ _ (by decide)]
  refine ⟨⟨fun j hj => ?_, fun k _ => e k, ?_, fun w => ?_⟩, e, by unfold qft; rw [qx_up_eq]⟩
  · unfold qft
    rw [qx_up_at, if_neg (by omega), qx_up_at, if_neg (by omega)]
  · exact qf_trans (qf_up _ _ _ _ (Or.inl rfl)) (qf_up _ _ _ _ (Or.inl rfl))
  · exfalso
    rw [qft_10, qi_eq (by omega) (by decide)] at w
    omega
theorem wF_up {W : qxM} {k : Nat} {v : Int32} (hk : k < 3) : wF W (qx_up W 401 k v) := wF_mf (R := fun j => j = k) (mf_up _ _ _ rfl) (by intro j hj; omega)
theorem head {d e : Nat} {M W : qxM} (hN : N ≤ 500) (hM : cPo M B N 0) (hu : qPu 22 M 0 0 0 (fun _ => 0) (fun _ => 14)) (hW : nPo W B N 0) (h10 : W.1 400 10 = nI 0) (hz : ∀ k, k < 35 → W.1 401 k = nI 0) : hot L xs M W B N d e := by
  have k1 := qx_m400.1
  have k0 := qx_m20.1
  have kP := qx_P22.1
  obtain ⟨w1a, w1b⟩ := qx_w 1 (by decide) (by decide)
  obtain ⟨M1, a1, c1, q1⟩ := m28 (L := L) (xs := xs) (d := d + 5) (x := 0) hN (Nat.zero_le _) hM
  obtain ⟨W1, a2, c2, q2⟩ := m192 (L := L) (xs := xs) (d := e + 7) (x := 0) hN (Nat.zero_le _) h10 hW
  have hs1 := (tkS_le (B := B) (Nat.zero_le N)).2
  generalize tkS B N 0 = s1 at c1 c2 hs1
  have h10' : W1.1 400 10 = nI 0 := by rw [q2.1 10 (by unfold qnF; omega), h10]
  have l1 : lt M1 W1 B N s1 := ⟨c1, c2, h10', hs1⟩
  have u1 := qPu_20 hu q1.2
  have z1 : ∀ k, k < 35 → W1.1 401 k = nI 0 := fun k hk => by rw [q2.2.1 401 (by decide), hz k hk]
  have F1 : qf (fun a => a = 20 ∨ 22 ≤ a ∧ a ≤ 24) M M1 := qf_mono q1.2 (fun a e => Or.inl e)
  have G1 := wF_q4 q2
  have x1 := m31 (L := L) (xs := xs) (d := d + 7) (x := 0) (k := 1) hN (by omega) w1a hs1 c1
  have x2 := m195 (L := L) (xs := xs) (d := e + 9) (x := 0) (k := 20 + 1) hN (by omega) (by rw [w1b]; exact w1a) hs1 h10' c2
  rw [w1b] at x2
  have free : ∀ (n : Nat) (M2 : qxM), n ≤ 14 → M2.1 22 0 = nI n → M2.1 24 = M.1 24 → s51 L xs M2 := fun n M2 hn h0 h24 => s51_free hn h0 (fun p hp => by rw [h24]; exact hu.2.2.2.2 p hp)
  cases yw : isW B N s1 (qx_txc 1)
  · rw [yw] at x1 x2
    have hft := wF_ft (W := W1) (c := 1) (s := s1) (by decide)
    have g193 := m193 (L := L) (xs := xs) (d := e + 10) (x := 0) (c := 1) h10' c2.2.2.1
    have b0 : (qft W1 1 s1).1 400 10 = nI 1 := qft_10 _ _ _
    have hgo : Rs L xs (e + 11) 206 0 [some (.ref 400), none] [] W 0 = Rs L xs (e + 11) 206 22 [some (.ref 400), none] [] (qft W1 1 s1) 0 := by
      have g192 := fun d => m192e (L := L) (xs := xs) (d := d) (x := 0) (c := 1) (by decide) (by decide) b0
      simp only [s206_0, s206_1, s206_4, s206_5, s206_7, s206_10, s206_13, s206_14, s206_15, s206_18, s206_19, k1, a2, x2, qbf, g193, g192, List.length_cons, List.length_nil, Nat.zero_le, Nat.reduceAdd, Nat.reduceLeDiff, Option.bind_some, qx_kn_v, qx_kn_n, Nat.add_zero, Bool.false_eq_true, ↓reduceIte]
    have h22 : Rs L xs (d + 9) 22 0 [some (.ref 20), none] [] M 0 = some (.inl (some (.int (nI 1))), M1, 0) := by
      simp only [s22_0, s22_1, s22_4, s22_5, s22_7, s22_10, s22_13, s22_14, k0, a1, x1, qbf, List.length_cons, List.length_nil, Nat.zero_le, Nat.reduceAdd, Nat.reduceLeDiff, Option.bind_some, qx_kn_v, qx_kn_n, Nat.add_zero, Bool.false_eq_true, ↓reduceIte]
    generalize qft W1 1 s1 = We at hft b0 hgo
    have hb0 : ∀ v, (qx_up We 401 0 v).1 400 10 = nI 1 := fun v => by rw [qx_up_ne _ _ _ (by decide), b0]
    have ga := g206a (d := e) (m197e (L := L) (xs := xs) (d := e + 6) (lo := nI 1) (hi := nI 14) (c := 1) (by decide) b0) (m197e (L := L) (xs := xs) (d := e + 6) (lo := nI 0) (hi := nI 2) (c := 1) (by decide) (hb0 _))
    obtain ⟨W3, g3, E3, G3⟩ := g206x (L := L) (xs := xs) (d := e) (c := 1) (s := s1) (n := 1) (r := 0) (W := qx_up (qx_up We 401 0 (nI 1)) 401 1 (nI 0)) (by decide) (by decide) (by decide) (by rw [qx_up_ne _ _ _ (by decide), hb0]) (by rw [qx_up_ne _ _ _ (by decide), qx_up_ne _ _ _ (by decide), hft.2.2]) (by rw [qx_up_at, if_neg (by omega), qx_up_eq]) (qx_up_eq _ _ _ _) (fun k h2 hk => by rw [qx_up_at, if_neg (by omega), qx_up_at, if_neg (by omega), hft.2.1, z1 k hk])
    refine Or.inl ⟨1, s1, M1, W3, 1, 0, nI 14, by decide, by omega, h22, ?_, c1.2.2.1, free 0 M1 (by decide) u1.1 (q1.2.1 24 (by decide)), E3, F1, wF_trans G1 (wF_trans hft.1 (wF_trans (wF_up (by decide)) (wF_trans (wF_up (by decide)) G3)))⟩
    rw [hgo, ga, g3]
  · rw [yw] at x1 x2
    obtain ⟨M2, W2, s2, b1, b2, l2, q3, q4', s2a, s2b⟩ := nxtk (L := L) (xs := xs) (d := d + 5) (e := e + 7) hN l1
    have u2 := qPu_20 u1 q3.2
    have z2 : ∀ k, k < 35 → W2.1 401 k = nI 0 := fun k hk => by rw [q4'.2.1 401 (by decide), z1 k hk]
    have F2 : qf (fun a => a = 20 ∨ 22 ≤ a ∧ a ≤ 24) M M2 := qf_trans F1 (qf_mono q3.2 (fun a e => Or.inl e))
    have G2 := wF_trans G1 (wF_q4 q4')
    have hgo : Rs L xs (e + 11) 206 0 [some (.ref 400), none] [] W 0 = Rs L xs (e + 11) 206 22 [some (.ref 400), none] [] W2 0 := by
      simp only [s206_0, s206_1, s206_4, s206_5, s206_7, s206_10, s206_13, s206_14, s206_15, s206_18, s206_19, k1, a2, x2, qbt, b2, List.length_cons, List.length_nil, Nat.zero_le, Nat.reduceAdd, Nat.reduceLeDiff, Option.bind_some, qx_kn_v, qx_kn_n, Nat.add_zero, Bool.false_eq_true, ↓reduceIte]
    have e24 : M2.1 24 = M.1 24 := by rw [q3.2.1 24 (by decide), q1.2.1 24 (by decide)]
    rcases num (L := L) (xs := xs) (lo := nI 1) (hi := nI 14) l2.1 l2.2.1 l2.2.2.1 with ⟨c, n0, n3, ne, g1, g2⟩ | ⟨z, zz1, zz2, zz3, zz4, g1, g2⟩
    · have hft := wF_ft (W := W2) (c := c) (s := s2) ⟨n0, by omega⟩
      have b0 : (qft W2 c s2).1 400 10 = nI c := qft_10 _ _ _
      have tc := zi0 n0 (show c < 2 ^ 31 by omega)
      have g1' := fun d => g1 d 0
      have h22 : Rs L xs (d + 9) 22 0 [some (.ref 20), none] [] M 0 = some (.inl (some (.int (nI c))), M2, 0) := by
        simp only [s22_0, s22_1, s22_4, s22_5, s22_7, s22_10, s22_13, s22_14, s22_15, s22_16, s22_19, s22_20, s22_21, s22_23, s22_26i, s22_26r, s22_26n, s22_27, s22_28, s22_31, s22_32, k0, a1, x1, qbt, b1, g1', tc, List.length_cons, List.length_nil, Nat.zero_le, Nat.reduceAdd, Nat.reduceLeDiff, Option.bind_some, qx_kn_v, qx_kn_n, Nat.add_zero, Bool.false_eq_true, ↓reduceIte]
      have h197 := m197 (L := L) (xs := xs) (d := e + 6) g2 (m192e (L := L) (xs := xs) (x := 0) n0 (show c < 9 by omega) b0)
      generalize qft W2 c s2 = We at hft b0 h197
      have hb0 : ∀ v, (qx_up We 401 0 v).1 400 10 = nI c := fun v => by rw [qx_up_ne _ _ _ (by decide), b0]
      have ga := g206a (d := e) h197 (m197e (L := L) (xs := xs) (d := e + 6) (lo := nI 0) (hi := nI 2) (c := c) ⟨n0, by omega⟩ (hb0 _))
      obtain ⟨W3, g3, E3, G3⟩ := g206x (L := L) (xs := xs) (d := e) (c := c) (s := s2) (n := 1) (r := 0) (W := qx_up (qx_up We 401 0 (nI 1)) 401 1 (nI 0)) ⟨n0, by omega⟩ (by decide) (by decide) (by rw [qx_up_ne _ _ _ (by decide), hb0]) (by rw [qx_up_ne _ _ _ (by decide), qx_up_ne _ _ _ (by decide), hft.2.2]) (by rw [qx_up_at, if_neg (by omega), qx_up_eq]) (qx_up_eq _ _ _ _) (fun k h2 hk => by rw [qx_up_at, if_neg (by omega), qx_up_at, if_neg (by omega), hft.2.1, z2 k hk])
      refine Or.inl ⟨c, s2, M2, W3, 1, 0, nI 14, ⟨n0, by omega⟩, by have := l2.2.2.2; omega, h22, ?_, l2.1.2.2.1, free 0 M2 (by decide) u2.1 e24, E3, F2, wF_trans G2 (wF_trans hft.1 (wF_trans (wF_up (by decide)) (wF_trans (wF_up (by decide)) G3)))⟩
      rw [hgo, ga, g3]
    · obtain ⟨n, hn1, hn14, hzn⟩ := zrange (l := 1) (k := 14) (by decide) (by decide) zz1 zz2
      subst hzn
      have Fz : qf (fun a => a = 22) M2 (qx_up M2 22 0 (nI n)) := qf_up _ _ _ _ rfl
      have Fz' : qf (fun a => a = 20 ∨ 22 ≤ a ∧ a ≤ 24) M2 (qx_up M2 22 0 (nI n)) := qf_mono Fz (fun a e => by omega)
      have l2' : lt (qx_up M2 22 0 (nI n)) W2 B N s2 := lt_20 l2 (fun j _ => by rw [Fz.1 20 (by decide)]) Fz'
      obtain ⟨M3, W3, s3, d1, d2, l3, q5, q6, s3a, s3b⟩ := nxtk (L := L) (xs := xs) (d := d + 5) (e := e + 6) hN l2'
      have h197 := m197 (L := L) (xs := xs) (d := e + 6) g2 d2
      have v1 : mf (fun j => j = 0) W3 (qx_up W3 401 0 (nI n)) := mf_up _ _ _ rfl
      have l4 := lt_mf l3 v1
      have g1' := fun d => g1 d 0
      have F3 : qf (fun a => a = 20 ∨ 22 ≤ a ∧ a ≤ 24) M M3 := qf_trans F2 (qf_trans Fz' (qf_mono q5.2 (fun a e => Or.inl e)))
      have G3 := wF_trans G2 (wF_trans (wF_q4 q6) (wF_mf v1 (by intro j hj; omega)))
      have e22 : M3.1 22 0 = nI n := by rw [q5.2.1 22 (by decide), qx_up_eq]
      have e24' : M3.1 24 = M.1 24 := by rw [q5.2.1 24 (by decide), Fz.1 24 (by decide), e24]
      have z3 : ∀ k, 1 ≤ k → k < 35 → (qx_up W3 401 0 (nI n)).1 401 k = nI 0 := fun k h1 hk => by rw [qx_up_at, if_neg (by omega), q6.2.1 401 (by decide), z2 k hk]
      have zn : (qx_up W3 401 0 (nI n)).1 401 0 = nI n := qx_up_eq _ _ _ _
      rcases num (L := L) (xs := xs) (lo := nI 0) (hi := nI 2) l4.1 l4.2.1 l4.2.2.1 with ⟨c, n0, n3, ne, j1, j2⟩ | ⟨z, y1, y2, y3, y4, j1, j2⟩
      · have hft := wF_ft (W := qx_up W3 401 0 (nI n)) (c := c) (s := s3) ⟨n0, by omega⟩
        have b0 : (qft (qx_up W3 401 0 (nI n)) c s3).1 400 10 = nI c := qft_10 _ _ _
        have tc := zi0 n0 (show c < 2 ^ 31 by omega)
        have j1' := fun d => j1 d 0
        have Fy : qf (fun a => a = 22) M3 (qx_up M3 22 1 (M3.1 20 9)) := qf_up _ _ _ _ rfl
        have h22 : Rs L xs (d + 9) 22 0 [some (.ref 20), none] [] M 0 = some (.inl (some (.int (nI c))), qx_up M3 22 1 (M3.1 20 9), 0) := by
          simp only [s22_0, s22_1, s22_4, s22_5, s22_7, s22_10, s22_13, s22_14, s22_15, s22_16, s22_19, s22_20, s22_21, s22_23, s22_26i, s22_26r, s22_26n, s22_27, s22_28, s22_31, s22_32, s22_33, s22_34, s22_37, s22_38, s22_41, s22_44, s22_45, s22_48, s22_49, s22_50, s22_51, s22_54i, s22_54r, s22_54n, s22_55, s22_56, s22_59, s22_60, s22_63, s22_66, s22_67, s22_70, s22_71, s22_74, s22_75, k0, kP, a1, x1, qbt, b1, g1', qi_z0, zz4, d1, j1', tc, List.length_cons, List.length_nil, Nat.zero_le, Nat.reduceAdd, Nat.reduceLeDiff, Option.bind_some, qx_kn_v, qx_kn_n, Nat.add_zero, Bool.false_eq_true, ↓reduceIte]
        have h197b := m197 (L := L) (xs := xs) (d := e + 6) j2 (m192e (L := L) (xs := xs) (x := 0) n0 (show c < 9 by omega) b0)
        have ga := g206a (d := e) h197 h197b
        obtain ⟨W6, g6, E6, G6⟩ := g206x (L := L) (xs := xs) (d := e) (c := c) (s := s3) (n := n) (r := 0) (W := qx_up (qft (qx_up W3 401 0 (nI n)) c s3) 401 1 (nI 0)) ⟨n0, by omega⟩ hn14 (by decide) (by rw [qx_up_ne _ _ _ (by decide), b0]) (by rw [qx_up_ne _ _ _ (by decide), hft.2.2]) (by rw [qx_up_at, if_neg (by omega), hft.2.1, zn]) (qx_up_eq _ _ _ _) (fun k h2 hk => by rw [qx_up_at, if_neg (by omega), hft.2.1, z3 k (by omega) hk])
        refine Or.inl ⟨c, s3, _, W6, n, 0, nI 14, ⟨n0, by omega⟩, by have := l3.2.2.2; omega, h22, ?_, ?_, free n _ hn14 ?_ ?_, E6, qf_trans F3 (qf_mono Fy (fun a e => by omega)), wF_trans G3 (wF_trans hft.1 (wF_trans (wF_up (by decide)) G6))⟩
        · rw [hgo, ga, g6]
        · rw [Fy.1 20 (by decide), l3.1.2.2.1]
        · rw [qx_up_at, if_neg (by omega), e22]
        · rw [Fy.1 24 (by decide), e24']
      · obtain ⟨r, hr0, hr2, hzr⟩ := zrange (l := 0) (k := 2) (by decide) (by decide) y1 y2
        subst hzr
        have Fy : qf (fun a => a = 22) M3 (qx_up M3 22 1 (nI r)) := qf_up _ _ _ _ rfl
        have Fy' : qf (fun a => a = 20 ∨ 22 ≤ a ∧ a ≤ 24) M3 (qx_up M3 22 1 (nI r)) := qf_mono Fy (fun a e => by omega)
        have l5 : lt (qx_up M3 22 1 (nI r)) (qx_up W3 401 0 (nI n)) B N s3 := lt_20 l4 (fun j _ => by rw [Fy.1 20 (by decide)]) Fy'
        obtain ⟨M6, W6, s4, f1, f2, l6, q7, q8, s4a, s4b⟩ := nxtk (L := L) (xs := xs) (d := d + 5) (e := e + 6) hN l5
        have j1' := fun d => j1 d 0
        have h22 : Rs L xs (d + 9) 22 0 [some (.ref 20), none] [] M 0 = some (.inl (some (.int (nI 0))), M6, 0) := by
          simp only [s22_0, s22_1, s22_4, s22_5, s22_7, s22_10, s22_13, s22_14, s22_15, s22_16, s22_19, s22_20, s22_21, s22_23, s22_26i, s22_26r, s22_26n, s22_27, s22_28, s22_31, s22_32, s22_33, s22_34, s22_37, s22_38, s22_41, s22_44, s22_45, s22_48, s22_49, s22_50, s22_51, s22_54i, s22_54r, s22_54n, s22_55, s22_56, s22_59, s22_60, s22_63, s22_66, s22_67, s22_70, s22_71, s22_74, s22_75, k0, kP, a1, x1, qbt, b1, g1', qi_z0, zz4, y4, d1, j1', f1, List.length_cons, List.length_nil, Nat.zero_le, Nat.reduceAdd, Nat.reduceLeDiff, Option.bind_some, qx_kn_v, qx_kn_n, Nat.add_zero, Bool.false_eq_true, ↓reduceIte]
        have h197b := m197 (L := L) (xs := xs) (d := e + 6) j2 f2
        have ga := g206a (d := e) h197 h197b
        have e6 : ∀ k, W6.1 401 k = (qx_up W3 401 0 (nI n)).1 401 k := fun k => by rw [q8.2.1 401 (by decide)]
        have v7 : mf (fun j => j = 1) W6 (qx_up W6 401 1 (nI r)) := mf_up _ _ _ rfl
        obtain ⟨W8, g8, u8, f8⟩ := g206n (L := L) (xs := xs) (d := e) (n := n) (r := r) (W := qx_up W6 401 1 (nI r)) (by rw [qx_up_at, if_neg (by omega), e6, zn]) (qx_up_eq _ _ _ _) (fun k h2 hk => by rw [qx_up_at, if_neg (by omega), e6, z3 k (by omega) hk])
        have hu6 : qPu 22 M6 n r 0 (fun _ => 0) (fun _ => 14) := by
          refine qPu_20 (M := qx_up M3 22 1 (nI r)) ⟨?_, qx_up_eq _ _ _ _, ?_, fun p hp => ?_, fun p hp => ?_⟩ q7.2
          · rw [qx_up_at, if_neg (by omega), e22]
          · rw [qx_up_at, if_neg (by omega), q5.2.1 22 (by decide), qx_up_at, if_neg (by omega), u2.2.2.1]
          · rw [Fy.1 (22 + 1) (by decide), q5.2.1 (22 + 1) (by decide), Fz.1 (22 + 1) (by decide), u2.2.2.2.1 p hp]
          · rw [Fy.1 (22 + 2) (by decide), q5.2.1 (22 + 2) (by decide), Fz.1 (22 + 2) (by decide), u2.2.2.2.2 p hp]
        have hlk : lk M6 W8 B N s4 n r 0 (fun _ => 0) (fun _ => 14) := lk_of (lt_mf (lt_mf l6 v7) f8) hu6 u8 (qp_0 hn14 hr2) hn1
        refine Or.inr ⟨s4, M6, W8, n, r, nI 14, h22, ?_, hlk, qf_trans F3 (qf_trans Fy' (qf_mono q7.2 (fun a e => Or.inl e))), wF_trans G3 (wF_trans (wF_q4 q8) (wF_trans (wF_up (by decide)) (wF_mf f8 (by intro j hj; omega))))⟩
        rw [hgo, ga, g8]
end QL
