/-! oddSet, odds, isProof, smallestProof. -/
theorem qSet {n : Nat} (hn : n ≤ 14) (z : Int32) : (z &&& (nI (2 ^ n - 1) ^^^ (-1)) = 0) ↔ ∃ s, s < 2 ^ n ∧ z = nI s := by
  constructor
  · intro h
    have hz : z = nI z.toBitVec.toNat := by
      apply b_ext
      intro i hi
      rw [qb_bt _ hi]
      rfl
    refine ⟨z.toBitVec.toNat, Nat.lt_pow_two_of_testBit _ (fun i hi => ?_), hz⟩
    rcases Nat.lt_or_ge i 32 with q | q
    · have h1 : bt (z &&& (nI (2 ^ n - 1) ^^^ (-1))) i = false := by
        rw [h]
        exact b_0 i
      rw [b_and, b_xor, b_m1 i q, qb_bt _ q, Nat.testBit_two_pow_sub_one, decide_eq_false (by omega)] at h1
      simp only [Bool.false_xor, Bool.and_true] at h1
      exact h1
    · exact Nat.testBit_lt_two_pow (Nat.lt_of_lt_of_le z.toBitVec.isLt (Nat.pow_le_pow_right (by decide) q))
  · rintro ⟨s, h1, h2⟩
    have e : qb_dif s (2 ^ n - 1) = 0 := qs_eq (fun j => ⟨fun y => by
      have y2 := qm_in.mp y
      rw [Nat.testBit_two_pow_sub_one, decide_eq_true (qj_n h1 y2.1)] at y2
      exact absurd rfl y2.2, fun y => absurd y zb⟩)
    rw [h2, qb_andn, e]
    rfl
section QL
variable {L : Nat} {xs : Nat → Int32} {d x : Nat}
theorem m163 {n : Nat} {z : Int32} {M : qxM} (hn : M.1 101 0 = nI n) (hn14 : n ≤ 14) (h : ∃ s, s < 2 ^ n ∧ z = nI s) : Rs L xs (d + 2) 163 0 [some (.ref (10)), some (.int (z))] [] (M) x = some (.inl (none), M, x) := by
  have hP : qx_P 101 := qx_T100.2.1
  have h36 := m36 (L := L) (xs := xs) (d := d) (x := 0) (M := M) hP hn hn14
  have e := (qSet hn14 z).mpr h
  simp only [s163_0, s163_1, s163_2, s163_5, s163_8, s163_11, s163_12, s163_13, s163_14, s163_17, s163_20r, s163_20i, s163_28, qx_m10, qx_T100.1, hP.1, h36, e, List.length_cons, List.length_nil, Nat.zero_le, Nat.reduceAdd, Nat.reduceLeDiff, Option.bind_some, qx_kn_v, qx_kn_n, Nat.add_zero, Bool.false_eq_true, ↓reduceIte]
theorem m163t {n : Nat} {z : Int32} {M : qxM} (hn : M.1 101 0 = nI n) (hn14 : n ≤ 14) (h : ¬ ∃ s, s < 2 ^ n ∧ z = nI s) : Rs L xs (d + 2) 163 0 [some (.ref 10), some (.int z)] [] M x = some (.inr (qx_ex 1), M, x + 1) := by
  have hP : qx_P 101 := qx_T100.2.1
  have h36 := m36 (L := L) (xs := xs) (d := d) (x := 0) (M := M) hP hn hn14
  have e : ¬ (z &&& (nI (2 ^ n - 1) ^^^ (-1)) = 0) := fun y => h ((qSet hn14 z).mp y)
  simp only [s163_0, s163_1, s163_2, s163_5, s163_8, s163_11, s163_12, s163_13, s163_14, s163_17, s163_20r, s163_20i, s163_28, qx_m10, qx_T100.1, hP.1, h36, e, List.length_cons, List.length_nil, Nat.zero_le, Nat.reduceAdd, Nat.reduceLeDiff, Option.bind_some, qx_kn_v, qx_kn_n, Nat.add_zero, Bool.false_eq_true, ↓reduceIte]
theorem m289 {n : Nat} {z : Int32} {M : qxM} (hn : M.1 401 0 = nI n) (hn14 : n ≤ 14) (w : Bool) (h : w = true ↔ ∃ s, s < 2 ^ n ∧ z = nI s) : Rs L xs (d + 1) 289 0 [some (.ref (400)), some (.int (z))] [] (M) x = some (.inl (some (.int (bI w))), M, x) := by
  obtain ⟨k1, k2, k3⟩ := qx_m400
  cases w with
  | true =>
    have e := (qSet hn14 z).mpr (h.mp rfl)
    simp only [s289_0, s289_1, s289_2, s289_5, s289_6, s289_7, s289_8, s289_11, s289_12, s289_15, s289_16, k1, m212 hn hn14, e, qx_z1, List.length_cons, List.length_nil, Nat.zero_le, Nat.reduceAdd, Nat.reduceLeDiff, Option.bind_some, qx_kn_v, qx_kn_n, Nat.add_zero, Bool.false_eq_true, ↓reduceIte]
    rfl
  | false =>
    have e : ¬ (z &&& (nI (2 ^ n - 1) ^^^ (-1)) = 0) := fun y => absurd (h.mpr ((qSet hn14 z).mp y)) (by decide)
    simp only [s289_0, s289_1, s289_2, s289_5, s289_6, s289_7, s289_8, s289_11, s289_12, s289_15, s289_16, k1, m212 hn hn14, e, qx_z0, List.length_cons, List.length_nil, Nat.zero_le, Nat.reduceAdd, Nat.reduceLeDiff, Option.bind_some, qx_kn_v, qx_kn_n, Nat.add_zero, Bool.false_eq_true, ↓reduceIte]
    rfl
theorem a123l {al : Nat → Nat} {z : Int32} {M : qxM} (ha : qAl al) (hT : ∀ p, p < 14 → M.1 41 p = nI (al p)) : ∀ (k i x l : Nat) (a5 : Option Value), i + k = 14 → l < 16384 →
    Rs L xs (d + 3) 123 17 [some (.ref 10), some (.int z), some (.ref 40), some (.int (nI l)), some (.int (nI i)), a5] [] M x = some (.inl (some (.int (oa al k l i z))), M, x) := by
  intro k
  induction k with
  | zero =>
    intro i x l a5 hi hl
    have e : i = 14 := by omega
    subst e
    have h1 : (nI 14 ≤ nI 14) = True := eq_true (Int32.le_refl _)
    simp only [s123_17, s123_19, s123_21, s123_57, s123_58, h1, ↓reduceIte]
    rfl
  | succ k ih =>
    intro i x l a5 hi hl
    have h1 : ¬ nI 14 ≤ nI i := nI_ge (by omega) (by decide)
    unfold oa
    by_cases h0 : l = 0
    · subst h0
      rw [if_pos rfl]
      simp only [s123_17, s123_19, s123_21, s123_24, s123_25, s123_57, s123_58, h1, qi_z0, ↓reduceIte]
    · rw [if_neg h0]
      have z0 : ¬ nI l = 0 := nI_ne0 (by omega) (by omega)
      have h18 := m18 (L := L) (xs := xs) (d := d) (x := 0) (M := M) ha hl h0 hT
      by_cases hz : nI i = z
      · rw [if_pos hz]
        subst hz
        simp only [s123_17, s123_19, s123_21, s123_24, s123_25, s123_28, s123_29, s123_30, s123_33i, s123_33r, s123_33n, s123_35, s123_37, s123_38, s123_41, s123_43, qx_m40, h1, z0, h18, eq_self, List.length_cons, List.length_nil, Nat.zero_le, Nat.reduceAdd, Nat.reduceLeDiff, Option.bind_some, qx_kn_v, qx_kn_n, Nat.add_zero, Bool.false_eq_true, ↓reduceIte]
      · rw [if_neg hz]
        have g := ih (i + 1) x (qb_dif l (co al l (qb_lo l))) (some (.int (nI (co al l (qb_lo l))))) (by omega) (dif_14 hl)
        simp only [s123_17, s123_19, s123_21, s123_24, s123_25, s123_28, s123_29, s123_30, s123_33i, s123_33r, s123_33n, s123_35, s123_37, s123_38, s123_41, s123_43, s123_44, s123_45, s123_47, s123_48, s123_49, s123_50i, s123_50r, s123_50n, s123_51i, s123_51r, s123_51n, qx_m40, h1, z0, h18, hz, qb_andn, nI_add, List.length_cons, List.length_nil, Nat.zero_le, Nat.reduceAdd, Nat.reduceLeDiff, Option.bind_some, qx_kn_v, qx_kn_n, Nat.add_zero, Bool.false_eq_true, ↓reduceIte]
        rw [s123_54, g]
theorem oa_neg {al : Nat → Nat} {z : Int32} (hz : z < 0) : ∀ (k l i : Nat), i + k < 1000 → oa al k l i z = -1
  | 0, _, _, _ => rfl
  | k + 1, l, i, hi => by
    unfold oa
    by_cases h0 : l = 0
    · rw [if_pos h0]
    · rw [if_neg h0, if_neg (fun (e : nI i = z) => nI_pos (show i < 2 ^ 31 by omega) (by rw [e]; exact hz)), oa_neg hz k _ _ (by omega)]
theorem qLo_n {al : Nat → Nat} {n : Nat} : qLo al (2 ^ n - 1) < 2 ^ n := by
  have h : qLo al (2 ^ n - 1) ≤ 2 ^ n - 1 := pc_le_of (fun j hj => by
    unfold qLo at hj
    rw [qb_of_bit, Bool.and_eq_true, Bool.and_eq_true] at hj
    exact hj.2.1)
  have := Nat.two_pow_pos n
  omega
theorem j123 {M : qxM} {B : Nat} (hR : qREL M) (hT0 : qTab B M) (hB : B < 90000) (z : Int32) : qPairG Value.int B L xs (d + 40) 123 [some (.ref 10), some (.int z), none, none, none, none] 285 [some (.ref 400), some (.int z)] ke0 M := by
  obtain ⟨k1, k2, k3⟩ := qx_m400
  rcases qREL_cmp hR with ⟨b1, b2, b3, b4⟩ | ⟨b1, b2, n, r, q, f, mt, s1, s2, s3, s4, st, rt, sp, bm, ou, inn, qb, e, as, qa, bs, lk, nr, fr, wy, hp, hn1, hT, hou, hinn, he14, hst4, hu, ⟨a1, a2, a3, a4⟩, hS, hm, ⟨v1, v2, v3, v4⟩, h35, hN⟩
  · refine qPairG_of hT0 hR 1 0 (by decide) ?_ ?_
    · rw [if_neg (by decide)]
      simp only [s123_0, s123_1, qx_m10, a159t b1, List.length_cons, List.length_nil, Nat.zero_le, Nat.reduceAdd, Nat.reduceLeDiff, Option.bind_some, qx_kn_v, qx_kn_n, Nat.add_zero, Bool.false_eq_true, ↓reduceIte]
      exact qx_kn_t rfl rfl rfl
    · intro o
      refine ⟨nI 0, ?_, fun h => absurd h (by decide)⟩
      have h1 := fun (d : Nat) => b263a (L := L) (xs := xs) (d := d) (x := 0) (M := (M.1, o)) b2
      simp only [s285_0, s285_1, s285_4, s285_7, s285_8, k1, h1, qbt, qbf, qi_z0, true_or, List.length_cons, List.length_nil, Nat.zero_le, Nat.reduceAdd, Nat.reduceLeDiff, Option.bind_some, qx_kn_v, qx_kn_n, Nat.add_zero, Bool.false_eq_true, ↓reduceIte]
  · have hn14 : n ≤ 14 := hp.1
    have hn0 : M.1 101 0 = nI n := hu.1
    have hneed := fun (d x : Nat) => a159 (L := L) (xs := xs) (d := d) (x := x) b1
    have hmay := fun (o : (Nat → Int64) × (Nat → UInt64)) (d : Nat) => b263c (L := L) (xs := xs) (d := d) (x := 0) (M := (M.1, o)) b2
    have hZ : qx_Z 104 := qx_T100.2.2
    have hP : qx_P 101 := qx_T100.2.1
    have hst0 : M.1 104 0 = nI st := hS.1.1
    have hst9 : ∀ {st : Nat}, st ≤ B + 1 → st < 100000 := fun h => by omega
    have hall : 2 ^ n - 1 < 16384 := by have := n14 hn14; have := Nat.two_pow_pos n; omega
    have ha := qal_ok hp hp.2.1
    obtain ⟨M1, st1, g1, s1, t1, f1⟩ := a168 (L := L) (xs := xs) (d := d + 36) (x := 0) hp hu hT0 hB
    obtain ⟨M2, g2, t2, f2⟩ := m10 (L := L) (xs := xs) (d := d + 20) (x := 0) ha (hst9 s1) hall t1
    have F := qf_trans f1 (qF_m f2)
    have hl := a123l (L := L) (xs := xs) (d := d + 37) (z := z) (M := M2) ha t2.1.1 14 0 0 (qLo (qal r q f) (2 ^ n - 1)) none (by omega) qLo_lt
    refine qPairG_mem hR (oa (qal r q f) 14 (qLo (qal r q f) (2 ^ n - 1)) 0 z) ?_ F (qTab_s ha s1 t2) (fun o => ?_)
    · simp only [s123_0, s123_1, s123_4, s123_5, s123_8i, s123_8r, s123_8n, s123_9, s123_10, s123_13i, s123_13r, s123_13n, s123_14, s123_15i, s123_15r, s123_15n, qx_m10, hneed, g1, g2, List.length_cons, List.length_nil, Nat.zero_le, Nat.reduceAdd, Nat.reduceLeDiff, Option.bind_some, qx_kn_v, qx_kn_n, Nat.add_zero, Bool.false_eq_true, ↓reduceIte]
      exact hl
    · have hu2 := nPu_F hm F o (nI 0)
      have h263 := fun d => mo263 (L := L) (xs := xs) b2 F o d
      by_cases hz : z < 0
      · rw [oa_neg hz 14 _ 0 (by omega)]
        refine ⟨qx_up (M2.1, o) 400 0 (nI 0), ?_, qf_refl _ _⟩
        have hz2 : (0 ≤ z) = False := eq_false (fun y => by
          rw [← i_nlt] at y
          exact y hz)
        simp only [s285_0, s285_1, s285_4, s285_7, s285_8, s285_9, s285_10, s285_13, s285_14, s285_17, s285_18, s285_19, s285_20, s285_23, s285_26, k1, h263, qbt, hz2, List.length_cons, List.length_nil, Nat.zero_le, Nat.reduceAdd, Nat.reduceLeDiff, Option.bind_some, qx_kn_v, qx_kn_n, Nat.add_zero, Bool.false_eq_true, ↓reduceIte]
      · obtain ⟨M3, g3, l3, f3⟩ := m273 (L := L) (xs := xs) (d := d + 34) (x := 0) hp (al := qal r q f) (fun p _ => rfl) ha hu2
        have hn3 : M3.1 401 0 = nI n := by rw [f3.1 401 (by unfold qTb; omega)]; exact hu2.1
        have h276 := m276 (L := L) (xs := xs) (d := d + 37) (x := 0) (z := z) (M := M3) ha hn14 (qLo_n (al := qal r q f) (n := n)) hn3 l3.1
        have hz2 : (0 ≤ z) = True := eq_true (by
          rw [← i_nlt]
          exact hz)
        refine ⟨M3, ?_, f3⟩
        simp only [s285_0, s285_1, s285_4, s285_7, s285_8, s285_9, s285_10, s285_13, s285_14, s285_17, s285_18, s285_19, s285_20, s285_23, s285_26, k1, h263, qbt, hz2, g3, h276, List.length_cons, List.length_nil, Nat.zero_le, Nat.reduceAdd, Nat.reduceLeDiff, Option.bind_some, qx_kn_v, qx_kn_n, Nat.add_zero, Bool.false_eq_true, ↓reduceIte]
theorem jset (z : Int32) (m : Nat) : ∃ w : Bool, w = true ↔ ∃ s, s < 2 ^ m ∧ z = nI s := by
  by_cases h : ∃ s, s < 2 ^ m ∧ z = nI s
  · exact ⟨true, fun _ => h, fun _ => rfl⟩
  · exact ⟨false, fun w => absurd w (by decide), fun w => absurd w h⟩
theorem j125 {M : qxM} {B : Nat} (hR : qREL M) (hT0 : qTab B M) (hB : B < 90000) (z : Int32) : qPairG Value.int B L xs (d + 40) 125 [some (.ref 10), some (.int z)] 290 [some (.ref 400), some (.int z), none] ke01 M := by
  obtain ⟨k1, k2, k3⟩ := qx_m400
  rcases qREL_cmp hR with ⟨b1, b2, b3, b4⟩ | ⟨b1, b2, n, r, q, f, mt, s1, s2, s3, s4, st, rt, sp, bm, ou, inn, qb, e, as, qa, bs, lk, nr, fr, wy, hp, hn1, hT, hou, hinn, he14, hst4, hu, ⟨a1, a2, a3, a4⟩, hS, hm, ⟨v1, v2, v3, v4⟩, h35, hN⟩
  · refine qPairG_of hT0 hR 1 0 (by decide) ?_ (fun o => ⟨nI 0, ?_, fun h => absurd h (by decide)⟩)
    · rw [if_neg (by decide)]
      simp only [s125_0, s125_1, qx_m10, a159t b1, List.length_cons, List.length_nil, Nat.zero_le, Nat.reduceAdd, Nat.reduceLeDiff, Option.bind_some, qx_kn_v, qx_kn_n, Nat.add_zero, Bool.false_eq_true, ↓reduceIte]
      exact qx_kn_t rfl rfl rfl
    · obtain ⟨w, hw⟩ := jset z 0
      have h289 := fun d => m289 (L := L) (xs := xs) (d := d) (x := 0) (M := (M.1, o)) (n := 0) b3 (by decide) w hw
      have h181 := fun d => c181a (L := L) (xs := xs) (d := d) (x := 0) (M := (M.1, o)) w
      simp only [s290_0, s290_1, s290_2, s290_5, s290_6, s290_7, s290_10, s290_13, s290_16, s290_17, k1, b2, h289, h181, qbf, qi_z0, true_or, List.length_cons, List.length_nil, Nat.zero_le, Nat.reduceAdd, Nat.reduceLeDiff, Option.bind_some, qx_kn_v, qx_kn_n, Nat.add_zero, Bool.false_eq_true, ↓reduceIte]
  · have hn14 : n ≤ 14 := hp.1
    have hn0 : M.1 101 0 = nI n := hu.1
    have hneed := fun (d x : Nat) => a159 (L := L) (xs := xs) (d := d) (x := x) b1
    by_cases hz : ∃ s, s < 2 ^ n ∧ z = nI s
    · have h163 := fun d => m163 (L := L) (xs := xs) (d := d) (x := 0) hn0 hn14 hz
      obtain ⟨s, hs, e⟩ := hz
      subst e
      have hs16 : s < 16384 := Nat.lt_of_lt_of_le hs (n14 hn14)
      have hst9 : ∀ {st : Nat}, st ≤ B + 1 → st < 100000 := fun h => by omega
      have hall : 2 ^ n - 1 < 16384 := by have := n14 hn14; have := Nat.two_pow_pos n; omega
      have ha := qal_ok hp hp.2.1
      obtain ⟨M1, st1, g1, s1, t1, f1⟩ := a168 (L := L) (xs := xs) (d := d + 36) (x := 0) hp hu hT0 hB
      have h14 := m14 (L := L) (xs := xs) (d := d + 35) (x := 0) (s := s) ha hall t1
      refine qPairG_mem hR (nI (od (qal r q f) 14 (qb_dif (2 ^ n - 1) s))) ?_ f1 (qTab_s ha s1 t1) (fun o => ?_)
      · simp only [s125_0, s125_1, s125_4, s125_5, s125_6, s125_9, s125_10, s125_13, s125_14, s125_17, qx_m10, hneed, h163, g1, h14, List.length_cons, List.length_nil, Nat.zero_le, Nat.reduceAdd, Nat.reduceLeDiff, Option.bind_some, qx_kn_v, qx_kn_n, Nat.add_zero, Bool.false_eq_true, ↓reduceIte]
      · have hu2 := nPu_F hm f1 o (nI 0)
        obtain ⟨M3, g3, l3, f3⟩ := m271 (L := L) (xs := xs) (d := d + 35) (x := 0) hp (al := qal r q f) (fun p _ => rfl) ha hu2
        have hn3 : M3.1 401 0 = nI n := by rw [f3.1 401 (by unfold qTb; omega)]; exact hu2.1
        have h289 := fun d => m289 (L := L) (xs := xs) (d := d) (x := 0) (M := (M1.1, o)) (n := n) (z := nI s) (by show M1.1 401 0 = _; rw [f1.1 401 (by unfold qFm; omega)]; exact hm.1) hn14 true ⟨fun _ => ⟨s, hs, rfl⟩, fun _ => rfl⟩
        have h181 := fun d => c181c (L := L) (xs := xs) (d := d) (x := 0) (M := (M1.1, o))
        have hb2 : M1.1 400 6 = bI true := by rw [f1.1 400 (by unfold qFm; omega), b2]
        have h212 := fun d => m212 (L := L) (xs := xs) (d := d) (x := 0) hn3 hn14
        have hle : qb_dif (2 ^ n - 1) s ≤ 2 ^ n - 1 := pc_le_of (fun j hj => (qm_in.mp hj).1)
        have h287 := m287 (L := L) (xs := xs) (d := d + 37) (x := 0) (s := qb_dif (2 ^ n - 1) s) (M := M3) ha hn14 (by have := Nat.two_pow_pos n; omega) hn3 l3.1
        refine ⟨M3, ?_, f3⟩
        simp only [s290_0, s290_1, s290_2, s290_5, s290_6, s290_7, s290_10, s290_13, s290_16, s290_17, s290_18, s290_19, s290_22i, s290_22r, s290_22n, s290_23, s290_24, s290_25, s290_28, s290_29, s290_30, s290_31, s290_32, s290_35, k1, hb2, h289, h181, qbt, g3, h212, qb_andn, h287, List.length_cons, List.length_nil, Nat.zero_le, Nat.reduceAdd, Nat.reduceLeDiff, Option.bind_some, qx_kn_v, qx_kn_n, Nat.add_zero, Bool.false_eq_true, ↓reduceIte]
    · refine qPairG_of hT0 hR 2 0 (by decide) ?_ (fun o => ⟨nI 0, ?_, fun h => absurd h (by decide)⟩)
      · have h163 := fun d x => m163t (L := L) (xs := xs) (d := d) (x := x) hn0 hn14 hz
        rw [if_neg (by decide)]
        simp only [s125_0, s125_1, s125_4, s125_5, s125_6, qx_m10, hneed, h163, List.length_cons, List.length_nil, Nat.zero_le, Nat.reduceAdd, Nat.reduceLeDiff, Option.bind_some, qx_kn_v, qx_kn_n, Nat.add_zero, Bool.false_eq_true, ↓reduceIte]
        exact qx_kn_t rfl rfl rfl
      · have h289 := fun d => m289 (L := L) (xs := xs) (d := d) (x := 0) (M := (M.1, o)) (n := n) (z := z) hm.1 hn14 false ⟨fun h => absurd h (by decide), fun h => absurd h hz⟩
        have h181 := fun d => c181b (L := L) (xs := xs) (d := d) (x := 0) (M := (M.1, o))
        simp only [s290_0, s290_1, s290_2, s290_5, s290_6, s290_7, s290_10, s290_13, s290_16, s290_17, k1, b2, h289, h181, qbf, qi_z0, true_or, List.length_cons, List.length_nil, Nat.zero_le, Nat.reduceAdd, Nat.reduceLeDiff, Option.bind_some, qx_kn_v, qx_kn_n, Nat.add_zero, Bool.false_eq_true, ↓reduceIte]
theorem j126 {M : qxM} {B : Nat} (hR : qREL M) (hT0 : qTab B M) (hB : B < 90000) (z : Int32) : qPairG Value.int B L xs (d + 40) 126 [some (.ref 10), some (.int z), none] 291 [some (.ref 400), some (.int z), none] ke01 M := by
  obtain ⟨k1, k2, k3⟩ := qx_m400
  rcases qREL_cmp hR with ⟨b1, b2, b3, b4⟩ | ⟨b1, b2, n, r, q, f, mt, s1, s2, s3, s4, st, rt, sp, bm, ou, inn, qb, e, as, qa, bs, lk, nr, fr, wy, hp, hn1, hT, hou, hinn, he14, hst4, hu, ⟨a1, a2, a3, a4⟩, hS, hm, ⟨v1, v2, v3, v4⟩, h35, hN⟩
  · refine qPairG_of hT0 hR 1 0 (by decide) ?_ (fun o => ⟨nI 0, ?_, fun h => absurd h (by decide)⟩)
    · rw [if_neg (by decide)]
      simp only [s126_0, s126_1, qx_m10, a159t b1, List.length_cons, List.length_nil, Nat.zero_le, Nat.reduceAdd, Nat.reduceLeDiff, Option.bind_some, qx_kn_v, qx_kn_n, Nat.add_zero, Bool.false_eq_true, ↓reduceIte]
      exact qx_kn_t rfl rfl rfl
    · obtain ⟨w, hw⟩ := jset z 0
      have h289 := fun d => m289 (L := L) (xs := xs) (d := d) (x := 0) (M := (M.1, o)) (n := 0) b3 (by decide) w hw
      have h181 := fun d => c181a (L := L) (xs := xs) (d := d) (x := 0) (M := (M.1, o)) w
      simp only [s291_0, s291_1, s291_2, s291_5, s291_6, s291_7, s291_10, s291_13, s291_16, s291_17, k1, b2, h289, h181, qbf, qx_z0, List.length_cons, List.length_nil, Nat.zero_le, Nat.reduceAdd, Nat.reduceLeDiff, Option.bind_some, qx_kn_v, qx_kn_n, Nat.add_zero, Bool.false_eq_true, ↓reduceIte]
  · have hn14 : n ≤ 14 := hp.1
    have hn0 : M.1 101 0 = nI n := hu.1
    have hneed := fun (d x : Nat) => a159 (L := L) (xs := xs) (d := d) (x := x) b1
    by_cases hz : ∃ s, s < 2 ^ n ∧ z = nI s
    · have h163 := fun d => m163 (L := L) (xs := xs) (d := d) (x := 0) hn0 hn14 hz
      obtain ⟨s, hs, e⟩ := hz
      subst e
      have hs16 : s < 16384 := Nat.lt_of_lt_of_le hs (n14 hn14)
      have hst9 : ∀ {st : Nat}, st ≤ B + 1 → st < 100000 := fun h => by omega
      have hall : 2 ^ n - 1 < 16384 := by have := n14 hn14; have := Nat.two_pow_pos n; omega
      have ha := qal_ok hp hp.2.1
      obtain ⟨M1, st1, g1, s1, t1, f1⟩ := a168 (L := L) (xs := xs) (d := d + 36) (x := 0) hp hu hT0 hB
      obtain ⟨M2, g2, t2, f2⟩ := m2 (L := L) (xs := xs) (d := d + 20) (x := 0) ha (hst9 s1) hall t1
      rw [qb_pc_all n (by omega)] at g2
      have F := qf_trans f1 (qF_m f2)
      have hF := F_half (al := qal r q f) hall
      rw [qb_pc_all n (by omega)] at hF
      have h15 := m15 (L := L) (xs := xs) (d := d + 34) (x := 0) (s := s) (k := n - 2 * mF (qal r q f) (2 ^ n - 1)) ha hall hs16 (by omega) t2
      have e : decide (od (qal r q f) 14 (qb_dif (2 ^ n - 1) s) = qb_pc s + (n - 2 * mF (qal r q f) (2 ^ n - 1))) = prf (qal r q f) n s := decide_eq_decide.mpr (by omega)
      rw [e] at h15
      refine qPairG_mem hR (bI (prf (qal r q f) n s)) ?_ F (qTab_s ha s1 t2) (fun o => ?_)
      · simp only [s126_0, s126_1, s126_4, s126_5, s126_6, s126_9, s126_10, s126_13i, s126_13r, s126_13n, s126_14, s126_15, s126_16, s126_17, s126_20, s126_23, qx_m10, hneed, h163, g1, g2, h15, bI_z, List.length_cons, List.length_nil, Nat.zero_le, Nat.reduceAdd, Nat.reduceLeDiff, Option.bind_some, qx_kn_v, qx_kn_n, Nat.add_zero, Bool.false_eq_true, ↓reduceIte]
      · have hu2 := nPu_F hm F o (nI 0)
        obtain ⟨M3, g3, l3, f3⟩ := m271 (L := L) (xs := xs) (d := d + 35) (x := 0) hp (al := qal r q f) (fun p _ => rfl) ha hu2
        have hn3 : M3.1 401 0 = nI n := by rw [f3.1 401 (by unfold qTb; omega)]; exact hu2.1
        have h289 := fun d => m289 (L := L) (xs := xs) (d := d) (x := 0) (M := (M2.1, o)) (n := n) (z := nI s) (by show M2.1 401 0 = _; rw [F.1 401 (by unfold qFm; omega)]; exact hm.1) hn14 true ⟨fun _ => ⟨s, hs, rfl⟩, fun _ => rfl⟩
        have h181 := fun d => c181c (L := L) (xs := xs) (d := d) (x := 0) (M := (M2.1, o))
        have hb2 : M2.1 400 6 = bI true := by rw [F.1 400 (by unfold qFm; omega), b2]
        have h288 := m288 (L := L) (xs := xs) (d := d + 36) (x := 0) (s := s) (M := M3) ha hn14 hs16 hn3 l3
        refine ⟨M3, ?_, f3⟩
        simp only [s291_0, s291_1, s291_2, s291_5, s291_6, s291_7, s291_10, s291_13, s291_16, s291_17, s291_18, s291_19, s291_22i, s291_22r, s291_22n, s291_23, s291_24, s291_25, s291_28, k1, hb2, h289, h181, qbt, g3, h288, bI_z, List.length_cons, List.length_nil, Nat.zero_le, Nat.reduceAdd, Nat.reduceLeDiff, Option.bind_some, qx_kn_v, qx_kn_n, Nat.add_zero, Bool.false_eq_true, ↓reduceIte]
    · refine qPairG_of hT0 hR 2 0 (by decide) ?_ (fun o => ⟨nI 0, ?_, fun h => absurd h (by decide)⟩)
      · have h163 := fun d x => m163t (L := L) (xs := xs) (d := d) (x := x) hn0 hn14 hz
        rw [if_neg (by decide)]
        simp only [s126_0, s126_1, s126_4, s126_5, s126_6, qx_m10, hneed, h163, List.length_cons, List.length_nil, Nat.zero_le, Nat.reduceAdd, Nat.reduceLeDiff, Option.bind_some, qx_kn_v, qx_kn_n, Nat.add_zero, Bool.false_eq_true, ↓reduceIte]
        exact qx_kn_t rfl rfl rfl
      · have h289 := fun d => m289 (L := L) (xs := xs) (d := d) (x := 0) (M := (M.1, o)) (n := n) (z := z) hm.1 hn14 false ⟨fun h => absurd h (by decide), fun h => absurd h hz⟩
        have h181 := fun d => c181b (L := L) (xs := xs) (d := d) (x := 0) (M := (M.1, o))
        simp only [s291_0, s291_1, s291_2, s291_5, s291_6, s291_7, s291_10, s291_13, s291_16, s291_17, k1, b2, h289, h181, qbf, qx_z0, List.length_cons, List.length_nil, Nat.zero_le, Nat.reduceAdd, Nat.reduceLeDiff, Option.bind_some, qx_kn_v, qx_kn_n, Nat.add_zero, Bool.false_eq_true, ↓reduceIte]
end QL
