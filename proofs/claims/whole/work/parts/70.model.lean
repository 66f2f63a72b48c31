/-! The Model's search: leaving, finding, growing. -/
theorem qi_sub {a b : Nat} (h : b ≤ a) : nI a - nI b = nI (a - b) := pk_sub h
/-- a number of the search itself is set -/
theorem nS_t {M : qxM} {st rt sp bm ou inn qb e as st' rt' sp' bm' as' ql' qb' : Nat} {qa bs lk nr fr : Nat → Nat} {wy : Nat → List Nat} {R : Nat → Prop} {M' : qxM} (h : nS M st rt sp bm ou inn qb e as qa bs lk nr fr wy)
    (hf : mf R M M') (hR : ∀ j, R j → j < 41) (h1 : nS1 M' st' rt' sp' bm' as' (e - qb)) : nS M' st' rt' sp' bm' ou inn qb e as' qa bs lk nr fr wy := by
  obtain ⟨s1, s2, s3, s4, s5, s6, s7, s8⟩ := h
  refine ⟨h1, ?_, ?_, nB_fr s4 hf ?_, nLk_fr s5 hf ?_, nNr_fr s6 hf ?_, nFr_fr s7 hf ?_, nW_fr s8 hf ?_⟩
  · intro j h1 h2
    rw [hf.2 _ (fun q => by have := hR _ q; omega)]
    exact s2 j h1 h2
  · intro p hp
    rw [hf.2 _ (fun q => by have := hR _ q; omega)]
    exact s3 p hp
  all_goals
    intro j hj
    have := hR j hj
    omega
section QL
variable {L : Nat} {xs : Nat → Int32} {d x : Nat} {rt : Nat}
theorem g241l {m : Nat} (hm : m ≤ 13) : ∀ (k i : Nat) (M : qxM), i + k = m → M.1 401 40 = nI m →
    Rs L xs d 241 13 [some (.ref 400), some (.int (nI i))] [] M x = Rs L xs d 241 50 [some (.ref 400), some (.int (nI m))] [] (qx_ur M 401 (fun j => if 41 + i ≤ j ∧ j < 41 + m then M.1 401 (j + 1) else M.1 401 j)) x := by
  obtain ⟨k1, k2, k3⟩ := qx_m400
  intro k
  induction k with
  | zero =>
    intro i M hi h40
    rw [show i = m by omega]
    have h1 : (nI m ≤ nI m) = True := eq_true (Int32.le_refl _)
    have e : (fun j => if 41 + m ≤ j ∧ j < 41 + m then M.1 401 (j + 1) else M.1 401 j) = M.1 401 := funext fun j => if_neg (by omega)
    rw [e, qx_ur_self]
    simp only [s241_13, s241_14, s241_15, s241_18, s241_20, s241_21, k1, k2, k3, h40, h1, (qn_c (40) (by omega)).1, (qn_c (40) (by omega)).2, ↓reduceIte]
  | succ k ih =>
    intro i M hi h40
    have h1 : ¬ nI m ≤ nI i := nI_ge (by omega) (by omega)
    have h2 := ih (i + 1) (qx_up M 401 (41 + i) (M.1 401 (41 + i + 1))) (by omega) (by rw [qx_up_at, if_neg (by omega), h40])
    have e : (fun j => if 41 + (i + 1) ≤ j ∧ j < 41 + m then (qx_up M 401 (41 + i) (M.1 401 (41 + i + 1))).1 401 (j + 1) else (qx_up M 401 (41 + i) (M.1 401 (41 + i + 1))).1 401 j) = (fun j => if 41 + i ≤ j ∧ j < 41 + m then M.1 401 (j + 1) else M.1 401 j) := by
      funext j
      rw [qx_up_at, qx_up_at]
      by_cases z : j = 41 + i
      · rw [if_neg (by omega), if_pos ⟨rfl, z⟩, if_pos (by omega), z]
      · by_cases y : 41 + (i + 1) ≤ j ∧ j < 41 + m
        · rw [if_pos y, if_neg (by omega), if_pos (by omega)]
        · rw [if_neg y, if_neg (by omega), if_neg (by omega)]
    rw [e, qx_up_ur, qx_ur_ur] at h2
    simp only [s241_13, s241_14, s241_15, s241_18, s241_20, s241_21, s241_24, s241_25, s241_28, s241_30, s241_31, s241_32, s241_33, s241_36, s241_38, s241_39, s241_40, s241_41, s241_42, s241_43, s241_44i, s241_44r, s241_44n, k1, k2, k3, h40, h1, nI_add, (qn_c (40) (by omega)).1, (qn_c (40) (by omega)).2, (qn_c (41 + i) (by omega)).1, (qn_c (41 + i) (by omega)).2, (qn_c (41 + i + 1) (by omega)).1, (qn_c (41 + i + 1) (by omega)).2, List.length_cons, List.length_nil, Nat.zero_le, Nat.reduceAdd, Nat.reduceLeDiff, Option.bind_some, qx_kn_v, qx_kn_n, Nat.add_zero, ↓reduceIte]
    rw [s241_47, qx_up_ur, h2]
theorem g241a {st sp bm ou inn qb e as : Nat} {qa bs lk nr fr : Nat → Nat} {wy : Nat → List Nat} (hq : qb < e) (he2 : e ≤ 14) {M : qxM} (h : nS M st rt sp bm ou inn qb e as qa bs lk nr fr wy) :
    ∃ M', Rs L xs d 241 0 [some (.ref 400), none] [] M x = Rs L xs d 241 58 [some (.ref 400), some (.int (nI (e - (qb + 1))))] [] M' x ∧ nS M' st rt sp bm ou inn (qb + 1) e 0 qa bs lk nr fr wy ∧ mf (fun j => 39 ≤ j ∧ j < 55) M M' := by
  obtain ⟨k1, k2, k3⟩ := qx_m400
  obtain ⟨⟨t0, t1, t2, t3, t4, t5⟩, s2, s3, s4, s5, s6, s7, s8⟩ := h
  have h2 := g241l (L := L) (xs := xs) (d := d) (x := x) (m := e - (qb + 1)) (by omega) (e - (qb + 1)) 0 (qx_up M 401 40 (nI (e - (qb + 1)))) (by omega) (by rw [qx_up_at, if_pos ⟨rfl, rfl⟩])
  generalize hM1 : qx_ur (qx_up M 401 40 (nI (e - (qb + 1)))) 401 (fun j => if 41 + 0 ≤ j ∧ j < 41 + (e - (qb + 1)) then (qx_up M 401 40 (nI (e - (qb + 1)))).1 401 (j + 1) else (qx_up M 401 40 (nI (e - (qb + 1)))).1 401 j) = M1 at h2
  have f1 : mf (fun j => 40 ≤ j ∧ j < 55) M M1 := by
    refine ⟨?_, ?_⟩
    · rw [← hM1]
      exact qf_trans (qf_up _ _ _ _ rfl) (qf_ur _ _ _ rfl)
    · intro j hj
      rw [← hM1, qx_ur_eq, if_neg (by omega), qx_up_at, if_neg (by omega)]
  have h40 : M1.1 401 40 = nI (e - (qb + 1)) := by
    rw [← hM1, qx_ur_eq, if_neg (by omega), qx_up_at, if_pos ⟨rfl, rfl⟩]
  have hsh : ∀ j, 41 ≤ j → j < 41 + (e - (qb + 1)) → M1.1 401 j = M.1 401 (j + 1) := by
    intro j h1 h2
    rw [← hM1, qx_ur_eq, if_pos (by omega), qx_up_at, if_neg (by omega)]
  have f2 : mf (fun j => 39 ≤ j ∧ j < 55) M (qx_up M1 401 39 (nI 0)) := mf_trans (mf_mono f1 (fun j hj => by omega)) (mf_up _ _ _ (by omega))
  refine ⟨_, ?_, ⟨⟨?_, ?_, ?_, ?_, ?_, ?_⟩, ?_, ?_, nB_fr s4 f2 (by omega), nLk_fr s5 f2 (by omega), nNr_fr s6 f2 (by omega), nFr_fr s7 f2 (by omega), nW_fr s8 f2 (by omega)⟩, f2⟩
  · have hsub : nI (e - qb) - nI 1 = nI (e - (qb + 1)) := by
      rw [qi_sub (by omega)]
      congr 1
    simp only [s241_0, s241_1, s241_4, s241_6, s241_7, s241_8, s241_9, s241_10, s241_11, s241_12i, s241_12r, s241_12n, k1, k2, k3, t5, hsub, (qn_c (40) (by omega)).1, (qn_c (40) (by omega)).2]
    rw [h2]
    simp only [s241_50, s241_51, s241_54, s241_56, s241_57, k1, k2, k3, (qn_c (39) (by omega)).1, (qn_c (39) (by omega)).2]
  · rw [f2.2 _ (by omega), t0]
  · rw [f2.2 _ (by omega), t1]
  · rw [f2.2 _ (by omega), t2]
  · rw [f2.2 _ (by omega), t3]
  · rw [qx_up_at, if_pos ⟨rfl, rfl⟩]
  · rw [qx_up_at, if_neg (by omega), h40]
  · intro j h1 h2
    rw [qx_up_at, if_neg (by omega), hsh _ (by omega) (by omega), show 41 + (j - (qb + 1)) + 1 = 41 + (j - qb) by omega]
    exact s2 j (by omega) h2
  · intro p hp
    rw [f2.2 _ (by omega)]
    exact s3 p hp
theorem g241b {st sp bm ou inn qb e as : Nat} {qa bs lk nr fr : Nat → Nat} {wy : Nat → List Nat} (hq : qb + 1 < e) (he2 : e ≤ 14) {M : qxM} (h : nS M st rt sp bm ou inn qb e as qa bs lk nr fr wy) :
    ∃ M', Rs L xs (d) 241 0 [some (.ref (400)), none] [] (M) x = some (.inl (some (.int (nI 5))), M', x) ∧ nS M' st rt sp bm ou inn (qb + 1) e 0 qa bs lk nr fr wy ∧ mf (fun j => 39 ≤ j ∧ j < 55) M M' := by
  obtain ⟨k1, k2, k3⟩ := qx_m400
  obtain ⟨M1, g1, s1, f1⟩ := g241a (L := L) (xs := xs) (d := d) (x := x) (by omega) he2 h
  refine ⟨M1, ?_, s1, f1⟩
  have t5 := s1.1.2.2.2.2.2
  have hc : ¬ nI (e - (qb + 1)) ≤ 0 := nI_nle (by omega) (by omega)
  rw [g1]
  simp only [s241_58, s241_59, s241_62, s241_64, s241_65, s241_68, s241_69, k1, k2, k3, t5, hc, (qn_c (40) (by omega)).1, (qn_c (40) (by omega)).2, ↓reduceIte]
theorem g241c {st sp bm ou inn qb e as : Nat} {qa bs lk nr fr : Nat → Nat} {wy : Nat → List Nat} (hq : qb + 1 = e) (he2 : e ≤ 14) {M : qxM} (h : nS M st rt sp bm ou inn qb e as qa bs lk nr fr wy) :
    ∃ M', Rs L xs (d) 241 0 [some (.ref (400)), none] [] (M) x = some (.inl (some (.int (nI 4))), M', x) ∧ nS M' 3 rt sp bm ou inn (qb + 1) e 0 qa bs lk nr fr wy ∧ mf (fun j => j = 4 ∨ 35 ≤ j) M M' ∧ M'.1 401 4 = M.1 401 4 + nI 1 := by
  obtain ⟨k1, k2, k3⟩ := qx_m400
  obtain ⟨M1, g1, s1, f1⟩ := g241a (L := L) (xs := xs) (d := d) (x := x) (by omega) he2 h
  obtain ⟨t0, t1, t2, t3, t4, t5⟩ := s1.1
  have hc : (nI (e - (qb + 1)) ≤ 0) = True := by
    rw [show e - (qb + 1) = 0 by omega]
    decide
  have f2 : mf (fun j => j = 4 ∨ j = 35) M1 (qx_up (qx_up M1 401 35 (nI 3)) 401 4 (M1.1 401 4 + nI 1)) := mf_trans (mf_up _ _ _ (Or.inr rfl)) (mf_up _ _ _ (Or.inl rfl))
  have e4 : (qx_up M1 401 35 (nI 3)).1 401 4 = M1.1 401 4 := by rw [qx_up_at, if_neg (by omega)]
  refine ⟨_, ?_, nS_t (ql' := 0) (qb' := 0) s1 f2 (by omega) ⟨?_, ?_, ?_, ?_, ?_, ?_⟩, mf_trans (mf_mono f1 (fun j hj => by omega)) (mf_mono f2 (fun j hj => by omega)), ?_⟩
  · rw [g1]
    simp only [s241_58, s241_59, s241_62, s241_64, s241_65, s241_70, s241_71, s241_74, s241_76, s241_77, s241_78, s241_79, s241_82, s241_83, s241_84, s241_85, s241_86, s241_87, s241_88, s241_89, k1, k2, k3, t5, hc, e4, (qn_c (40) (by omega)).1, (qn_c (40) (by omega)).2, (qn_c (35) (by omega)).1, (qn_c (35) (by omega)).2, (qn_c (4) (by omega)).1, (qn_c (4) (by omega)).2, ↓reduceIte]
  · rw [qx_up_at, if_neg (by omega), qx_up_at, if_pos ⟨rfl, rfl⟩]
  · rw [f2.2 _ (by omega), t1]
  · rw [f2.2 _ (by omega), t2]
  · rw [f2.2 _ (by omega), t3]
  · rw [f2.2 _ (by omega), t4]
  · rw [f2.2 _ (by omega), t5]
  · rw [qx_up_at, if_pos ⟨rfl, rfl⟩, f1.2 4 (by omega)]
theorem nMt_up2 {M : qxM} {mt : Nat → Nat} (h : nMt M mt) {a b : Nat} (ha : a < 14) (hb : b < 14) : nMt (qx_up (qx_up M 401 (21 + a) (nI b)) 401 (21 + b) (nI a)) (qu (qu mt a b) b a) := by
  intro p hp
  rw [qx_up_at]
  by_cases e : p = b
  · rw [if_pos ⟨rfl, by omega⟩, e, qu_eq, qz_lt ha]
  · rw [if_neg (by omega), qu_ne _ _ e, qx_up_at]
    by_cases e2 : p = a
    · rw [if_pos ⟨rfl, by omega⟩, e2, qu_eq, qz_lt hb]
    · rw [if_neg (by omega), qu_ne _ _ e2, h p hp]
theorem g242l {v w : Nat} {wy : Nat → List Nat} (hv : v < 14) : ∀ (r : List Nat) (i : Nat) (M : qxM) (mt : Nat → Nat), (wy v).drop i = r → i ≤ (wy v).length → r.length % 2 = 0 → (∀ a, a ∈ r → a < 14) → nMt M mt → nW M wy →
    ∃ M' i', Rs L xs (d + 1) 242 8 [some (.ref 400), some (.int (nI v)), some (.int (nI w)), some (.int (nI i))] [] M x = Rs L xs (d + 1) 242 45 [some (.ref 400), some (.int (nI v)), some (.int (nI w)), some (.int (nI i'))] [] M' x ∧ nMt M' (qs_jn mt r) ∧ mf (fun j => 21 ≤ j ∧ j < 35) M M'
  | [], i, M, mt, hr, hi, _, _, hm, hW => by
    obtain ⟨k1, k2, k3⟩ := qx_m400
    have hw := hW v hv
    have hil : (wy v).length ≤ i := by
      have := congrArg List.length hr
      rw [List.length_drop, List.length_nil] at this
      omega
    have e1 : (nI (wy v).length ≤ nI i) = True := by
      rw [show i = (wy v).length by omega]
      exact eq_true (Int32.le_refl _)
    refine ⟨M, i, ?_, hm, mf_refl _ _⟩
    simp only [s242_8, s242_9, s242_10, s242_13, s242_15, s242_16, s242_17, s242_18, k1, k2, k3, nI_add, hw.2.1, e1, (qn_c (125 + v) (by omega)).1, (qn_c (125 + v) (by omega)).2, ↓reduceIte]
  | [_], _, _, _, _, _, h, _, _, _ => by simp at h
  | b :: c :: r, i, M, mt, hr, hi, hev, hel, hm, hW => by
    obtain ⟨k1, k2, k3⟩ := qx_m400
    have hw := hW v hv
    obtain ⟨d1, d2, d3⟩ := qs_drop _ _ _ _ hr
    obtain ⟨d4, d5, d6⟩ := qs_drop _ _ _ _ d3
    have hb := hel b List.mem_cons_self
    have hc := hel c (List.mem_cons_of_mem _ List.mem_cons_self)
    have e1 : ¬ nI (wy v).length ≤ nI i := nI_ge (by omega) (by omega)
    have f1 : mf (fun j => 21 ≤ j ∧ j < 35) M (qx_up (qx_up M 401 (21 + b) (nI c)) 401 (21 + c) (nI b)) := mf_trans (mf_up _ _ _ (by omega)) (mf_up _ _ _ (by omega))
    obtain ⟨M2, i', g2, m2, f2⟩ := g242l hv r (i + 2) _ _ d6 (by omega) (by simp only [List.length_cons] at hev; omega) (fun a ha => hel a (List.mem_cons_of_mem _ (List.mem_cons_of_mem _ ha))) (nMt_up2 hm hb hc) (nW_fr hW f1 (by omega))
    refine ⟨M2, i', ?_, ?_, mf_trans f1 f2⟩
    · simp only [s242_8, s242_9, s242_10, s242_13, s242_15, s242_16, s242_17, s242_18, s242_21, s242_22, s242_23, s242_24, s242_25, s242_28, s242_29, s242_30, s242_31, s242_32, s242_33, s242_36, s242_39i, k1, k2, k3, nI_add, hw.2.1, e1, (qn_c (125 + v) (by omega)).1, (qn_c (125 + v) (by omega)).2, g235 hv (show i < 14 by omega), g235 hv (show i + 1 < 14 by omega), hw.2.2 i d2, hw.2.2 (i + 1) d5, d1, d4, m214 hb hc, List.length_cons, List.length_nil, Nat.zero_le, Nat.reduceAdd, Nat.reduceLeDiff, Option.bind_some, qx_kn_v, qx_kn_n, Nat.add_zero, ↓reduceIte]
      rw [s242_42, g2]
    · rw [qs_jn]
      exact m2
theorem g242 {v w st sp bm ou inn qb e as : Nat} {mt qa bs lk nr fr : Nat → Nat} {wy : Nat → List Nat} {r : List Nat} {M : qxM} (hv : v < 14) (hw : w < 14) (h : nS M st rt sp bm ou inn qb e as qa bs lk nr fr wy) (hm : nMt M mt)
    (hr : wy v = v :: r) (hev : r.length % 2 = 0) (hel : ∀ a, a ∈ r → a < 14) :
    ∃ M', Rs L xs (d + 1) 242 0 [some (.ref (400)), some (.int (nI v)), some (.int (nI w)), none] [] (M) x = some (.inl (some (.int (nI 3))), M', x) ∧ nS M' 2 rt sp bm ou inn qb e as qa bs lk nr fr wy ∧ nMt M' (qs_jn (qu (qu mt v w) w v) r) ∧ mf (fun j => j = 3 ∨ 21 ≤ j ∧ j < 36) M M' ∧ M'.1 401 3 = M.1 401 3 + nI 1 := by
  obtain ⟨k1, k2, k3⟩ := qx_m400
  have hW := h.2.2.2.2.2.2.2
  have f0 : mf (fun j => 21 ≤ j ∧ j < 35) M (qx_up (qx_up M 401 (21 + v) (nI w)) 401 (21 + w) (nI v)) := mf_trans (mf_up _ _ _ (by omega)) (mf_up _ _ _ (by omega))
  obtain ⟨M1, i', g1, m1, f1⟩ := g242l (L := L) (xs := xs) (d := d) (x := x) (w := w) hv r 1 _ _ (by rw [hr]; rfl) (by rw [hr]; simp) hev hel (nMt_up2 hm hv hw) (nW_fr hW f0 (by omega))
  have f01 := mf_trans f0 f1
  obtain ⟨t0, t1, t2, t3, t4, t5⟩ := h.1
  have f2 : mf (fun j => j = 3 ∨ j = 35) M1 (qx_up (qx_up M1 401 35 (nI 2)) 401 3 (M1.1 401 3 + nI 1)) := mf_trans (mf_up _ _ _ (Or.inr rfl)) (mf_up _ _ _ (Or.inl rfl))
  have e4 : (qx_up M1 401 35 (nI 2)).1 401 3 = M1.1 401 3 := by rw [qx_up_at, if_neg (by omega)]
  have fA : mf (fun j => j = 3 ∨ 21 ≤ j ∧ j < 36) M (qx_up (qx_up M1 401 35 (nI 2)) 401 3 (M1.1 401 3 + nI 1)) := mf_trans (mf_mono f01 (fun j hj => by omega)) (mf_mono f2 (fun j hj => by omega))
  refine ⟨_, ?_, nS_t (ql' := 0) (qb' := 0) h fA (by omega) ⟨?_, ?_, ?_, ?_, ?_, ?_⟩, nMt_fr m1 f2 (by omega), fA, ?_⟩
  · simp only [s242_0, s242_1, s242_2, s242_3, s242_6, s242_7i, s242_7r, s242_7n, k1, m214 hv hw, List.length_cons, List.length_nil, Nat.zero_le, Nat.reduceAdd, Nat.reduceLeDiff, Option.bind_some, qx_kn_v, qx_kn_n, Nat.add_zero, ↓reduceIte]
    rw [g1]
    simp only [s242_45, s242_46, s242_49, s242_51, s242_52, s242_53, s242_54, s242_57, s242_58, s242_59, s242_60, s242_61, s242_62, s242_63, s242_64, k1, k2, k3, e4, (qn_c (35) (by omega)).1, (qn_c (35) (by omega)).2, (qn_c (3) (by omega)).1, (qn_c (3) (by omega)).2]
  · rw [qx_up_at, if_neg (by omega), qx_up_at, if_pos ⟨rfl, rfl⟩]
  · rw [fA.2 _ (by omega), t1]
  · rw [fA.2 _ (by omega), t2]
  · rw [fA.2 _ (by omega), t3]
  · rw [fA.2 _ (by omega), t4]
  · rw [fA.2 _ (by omega), t5]
  · rw [qx_up_at, if_pos ⟨rfl, rfl⟩, f01.2 3 (by omega)]
theorem g243 {v w y st sp bm ou inn qb e as : Nat} {mt qa bs lk nr fr : Nat → Nat} {wy : Nat → List Nat} {M : qxM} (h : nS M st rt sp bm ou inn qb e as qa bs lk nr fr wy) (hm : nMt M mt) (hy : mt w = y) (hv : v < 14) (hw : w < 14) (hy14 : y < 14) (hqe : qb ≤ e) (he : e < 14) (hyv : y ≠ v) (hwy2 : w ≠ y) (hwy : wy y = []) (hl : (wy v).length + 2 ≤ 14) (hwo : ou.testBit w = false) :
    ∃ M', Rs L xs (d + 2) 243 0 [some (.ref (400)), some (.int (nI v)), some (.int (nI w)), none, none, none] [] (M) x = some (.inl (some (.int (nI 1))), M', x) ∧ nS M' st rt sp bm (ou ||| 2 ^ y) (qb_dif (inn ||| 2 ^ w) (2 ^ y)) qb (e + 1) as (qu qa e y) bs (qu lk w v) nr fr (qu wy y (y :: w :: wy v)) ∧ mf (fun j => 35 ≤ j) M M' := by
  obtain ⟨k1, k2, k3⟩ := qx_m400
  obtain ⟨⟨t0, t1, t2, t3, t4, t5⟩, s2, s3, s4, s5, s6, s7, s8⟩ := h
  have hmw := hm w hw
  rw [hy, qz_lt hy14] at hmw
  have f1 : mf (fun j => 55 ≤ j ∧ j < 97) M (qx_up (qx_up (qx_up M 401 (83 + w) (nI v)) 401 (55 + w) (nI 2)) 401 (55 + y) (nI 1)) := mf_trans (mf_up _ _ _ (by omega)) (mf_trans (mf_up _ _ _ (by omega)) (mf_up _ _ _ (by omega)))
  obtain ⟨M1, g1, w1, f2⟩ := g236 (L := L) (xs := xs) (d := d + 1) (x := 0) (q := y) hy14 (nW_fr s8 f1 (by omega)) (by rw [hwy]; simp)
  rw [hwy, List.nil_append] at w1
  obtain ⟨M2, g2, w2, f3⟩ := g236 (L := L) (xs := xs) (d := d + 1) (x := 0) (q := w) hy14 w1 (by rw [qu_eq]; simp)
  rw [qu_eq, qu_twice] at w2
  obtain ⟨M3, g3, w3, f4⟩ := g237 (L := L) (xs := xs) (d := d) (x := 0) hy14 hv hyv w2 (by rw [qu_eq, qu_ne _ _ (Ne.symm hyv)]; simp; omega)
  rw [qu_eq, qu_twice, qu_ne _ _ (Ne.symm hyv)] at w3
  have fW := mf_trans f2 (mf_trans f3 f4)
  have fA := mf_trans (mf_mono f1 (fun j hj => (show 55 ≤ j by omega))) (mf_mono fW (fun j (hj : 125 ≤ j) => (show 55 ≤ j by omega)))
  have h40 : M3.1 401 40 = nI (e - qb) := by rw [fA.2 _ (by omega), t5]
  have f5 : mf (fun j => 40 ≤ j ∧ j < 55) M3 (qx_up (qx_up M3 401 (41 + (e - qb)) (nI y)) 401 40 (nI (e - qb + 1))) := mf_trans (mf_up _ _ _ (by omega)) (mf_up _ _ _ (by omega))
  refine ⟨_, ?_, ⟨⟨?_, ?_, ?_, ?_, ?_, ?_⟩, ?_, ?_, ?_, ?_, ?_, ?_, nW_fr w3 f5 (by omega)⟩, mf_trans (mf_mono fA (fun j hj => by omega)) (mf_mono f5 (fun j hj => by omega))⟩
  · simp only [s243_0, s243_1, s243_2, s243_5i, s243_5r, s243_5n, s243_6, s243_7, s243_10, s243_12, s243_13, s243_14, s243_15, s243_16, s243_17, s243_18, s243_19, s243_22i, s243_22r, s243_22n, s243_24, s243_25, s243_26, s243_27, s243_30i, s243_30r, s243_30n, s243_32, s243_33, s243_34, s243_35, s243_38, s243_39, s243_40, s243_41, s243_44, s243_45, s243_46, s243_47, s243_50, s243_51, s243_52, s243_55, s243_56, k1, k2, k3, nI_add, m213 hw, hmw, g233 hw, g233 hy14, g1, g2, g3, g234 h40 (show e - qb < 14 by omega), (qn_c (83 + w) (by omega)).1, (qn_c (83 + w) (by omega)).2, List.length_cons, List.length_nil, Nat.zero_le, Nat.reduceAdd, Nat.reduceLeDiff, Option.bind_some, qx_kn_v, qx_kn_n, Nat.add_zero, ↓reduceIte]
  · rw [f5.2 _ (by omega), fA.2 _ (by omega), t0]
  · rw [f5.2 _ (by omega), fA.2 _ (by omega), t1]
  · rw [f5.2 _ (by omega), fA.2 _ (by omega), t2]
  · rw [f5.2 _ (by omega), fA.2 _ (by omega), t3]
  · rw [f5.2 _ (by omega), fA.2 _ (by omega), t4]
  · rw [qx_up_at, if_pos ⟨rfl, rfl⟩]
    congr 1
    omega
  · intro j h1 h2
    by_cases z : j = e
    · rw [z, qu_eq, qx_up_at, if_neg (by omega), qx_up_at, if_pos ⟨rfl, rfl⟩]
    · rw [qu_ne _ _ z, qx_up_at, if_neg (by omega), qx_up_at, if_neg (by omega), fA.2 _ (by omega)]
      exact s2 j h1 (by omega)
  · intro p hp
    rw [f5.2 _ (by omega), fW.2 _ (by omega)]
    have hyb : (2 ^ y).testBit p = decide (y = p) := qb_two y p
    have hwb : (2 ^ w).testBit p = decide (w = p) := qb_two w p
    have h3 := s3 p hp
    unfold qs_lb at h3 ⊢
    simp only [Nat.testBit_or, qb_dif_bit, hyb, hwb]
    rw [qx_up_at]
    by_cases z : y = p
    · rw [if_pos ⟨rfl, by omega⟩]
      simp [z]
    · rw [if_neg (by omega), qx_up_at]
      by_cases z2 : w = p
      · rw [if_pos ⟨rfl, by omega⟩]
        rw [z2] at hwo
        simp [z, z2, hwo]
      · rw [if_neg (by omega), qx_up_at, if_neg (by omega), h3]
        simp [z, z2]
  · intro p hp
    rw [f5.2 _ (by omega), fW.2 _ (by omega), qx_up_at, if_neg (by omega), qx_up_at, if_neg (by omega), qx_up_at, if_neg (by omega)]
    exact s4 p hp
  · intro p hp
    rw [f5.2 _ (by omega), fW.2 _ (by omega), qx_up_at, if_neg (by omega), qx_up_at, if_neg (by omega), qx_up_at]
    by_cases z : p = w
    · rw [if_pos ⟨rfl, by omega⟩, z, qu_eq, qz_lt hv]
    · rw [if_neg (by omega), qu_ne _ _ z]
      exact s5 p hp
  · intro p hp
    rw [f5.2 _ (by omega), fW.2 _ (by omega), f1.2 _ (by omega)]
    exact s6 p hp
  · intro p hp
    rw [f5.2 _ (by omega), fW.2 _ (by omega), f1.2 _ (by omega)]
    exact s7 p hp
end QL
