/-! Calls that look: friends, why not, counts. -/
section QL
variable {L : Nat} {xs : Nat → Int32} {d x : Nat} {M : qxM}
theorem c181a (w : Bool) : Rs L xs (d + 1) 181 0 [some (.ref (400)), some (.int (bI false)), some (.int (bI w))] [] (M) x = some (.inl (some (.int (bI false))), qx_up M 400 0 (nI 1), x) := a181 false w
theorem c181b : Rs L xs (d + 1) 181 0 [some (.ref (400)), some (.int (bI true)), some (.int (bI false))] [] (M) x = some (.inl (some (.int (bI false))), qx_up M 400 0 (nI 2), x) := a181 true false
theorem c181c : Rs L xs (d + 1) 181 0 [some (.ref (400)), some (.int (bI true)), some (.int (bI true))] [] (M) x = some (.inl (some (.int (bI true))), qx_up M 400 0 (nI 0), x) := a181 true true
theorem c180a (w v : Bool) : Rs L xs (d) 180 0 [some (.ref (400)), some (.int (bI false)), some (.int (bI w)), some (.int (bI v))] [] (M) x = some (.inl (some (.int (bI false))), qx_up M 400 0 (nI 1), x) := a180 false w v
theorem c180b (v : Bool) : Rs L xs (d) 180 0 [some (.ref (400)), some (.int (bI true)), some (.int (bI false)), some (.int (bI v))] [] (M) x = some (.inl (some (.int (bI false))), qx_up M 400 0 (nI 2), x) := a180 true false v
theorem c180c : Rs L xs (d) 180 0 [some (.ref (400)), some (.int (bI true)), some (.int (bI true)), some (.int (bI false))] [] (M) x = some (.inl (some (.int (bI false))), qx_up M 400 0 (nI 3), x) := a180 true true false
theorem c180d : Rs L xs (d) 180 0 [some (.ref (400)), some (.int (bI true)), some (.int (bI true)), some (.int (bI true))] [] (M) x = some (.inl (some (.int (bI true))), qx_up M 400 0 (nI 0), x) := a180 true true true
theorem j99 {M : qxM} (hR : qREL M) (z : Int32) (y : Int32) : qPair L xs (d + 40) 99 [some (.ref 10), some (.int z), some (.int y)] 229 [some (.ref 400), some (.int z), some (.int y)] ke02 M := by
  obtain ⟨k1, k2, k3⟩ := qx_m400
  rcases qREL_cmp hR with ⟨b1, b2, b3, b4⟩ | ⟨b1, b2, n, r, q, f, mt, s1, s2, s3, s4, st, rt, sp, bm, ou, inn, qb, e, as, qa, bs, lk, nr, fr, wy, hp, hn1, hT, hou, hinn, he14, hst4, hu, ⟨a1, a2, a3, a4⟩, hS, hm, ⟨m1, m2, m3, m4⟩, h35, hN⟩
  · refine qPair_of hR 1 0 (by decide) ?_ ?_
    · rw [if_neg (by decide)]
      simp only [s99_0, s99_1, s99_2, s99_3, qx_m10, a161t b1, List.length_cons, List.length_nil, Nat.zero_le, Nat.reduceAdd, Nat.reduceLeDiff, Option.bind_some, qx_kn_v, qx_kn_n, Nat.add_zero, Bool.false_eq_true, ↓reduceIte]
      exact qx_kn_t rfl rfl rfl
    · intro o
      refine ⟨nI 0, ?_, fun h => absurd h (by decide)⟩
      have h1 := fun (d : Nat) => b227a (L := L) (xs := xs) (d := d) (x := 0) (M := (M.1, o)) b2 b3 (by decide) z y
      simp only [s229_0, s229_1, s229_2, s229_3, s229_6, s229_9, s229_10, s229_11, s229_12, s229_15, s229_18, s229_19, s229_22, s229_23, k1, h1, qbt, qbf, qi_z0, true_or, List.length_cons, List.length_nil, Nat.zero_le, Nat.reduceAdd, Nat.reduceLeDiff, Option.bind_some, qx_kn_v, qx_kn_n, Nat.add_zero, Bool.false_eq_true, ↓reduceIte]
  · have hn14 : n ≤ 14 := hp.1
    have hn0 : M.1 101 0 = nI n := hu.1
    by_cases hz : qOut n z ∨ qOut n y
    · refine qPair_of hR 2 0 (by decide) ?_ ?_
      · rw [if_neg (by decide)]
        simp only [s99_0, s99_1, s99_2, s99_3, qx_m10, a161o b1 hn0 hn14 hz, List.length_cons, List.length_nil, Nat.zero_le, Nat.reduceAdd, Nat.reduceLeDiff, Option.bind_some, qx_kn_v, qx_kn_n, Nat.add_zero, Bool.false_eq_true, ↓reduceIte]
        exact qx_kn_t rfl rfl rfl
      · intro o
        refine ⟨nI 0, ?_, fun h => absurd h (by decide)⟩
        have h1 := fun (d : Nat) => b227b (L := L) (xs := xs) (d := d) (x := 0) (M := (M.1, o)) b2 hm.1 hn14 hz
        simp only [s229_0, s229_1, s229_2, s229_3, s229_6, s229_9, s229_10, s229_11, s229_12, s229_15, s229_18, s229_19, s229_22, s229_23, k1, h1, qbt, qbf, qi_z0, true_or, List.length_cons, List.length_nil, Nat.zero_le, Nat.reduceAdd, Nat.reduceLeDiff, Option.bind_some, qx_kn_v, qx_kn_n, Nat.add_zero, Bool.false_eq_true, ↓reduceIte]
    obtain ⟨p, p1, p2⟩ := qOut_not (by omega) (fun w => hz (Or.inl w))
    obtain ⟨p0, p3, p4⟩ := qOut_not (by omega) (fun w => hz (Or.inr w))
    subst p2 p4
    have hp14 : p < 14 := by omega
    have hq14 : p0 < 14 := by omega
    have hneed := fun (d x : Nat) => a161 (L := L) (xs := xs) (d := d) (x := x) b1 hn0 hn14 p1 p3
    have hmay := fun (o : (Nat → Int64) × (Nat → UInt64)) (d : Nat) => b227c (L := L) (xs := xs) (d := d) (x := 0) (M := (M.1, o)) b2 hm.1 hn14 p1 p3
    have hZ : qx_Z 104 := qx_T100.2.2
    have hP : qx_P 101 := qx_T100.2.1
    have hst0 : M.1 104 0 = nI st := hS.1.1
    have hf14 := qp_f14 hp hp14
    have e1 : M.1 102 p = nI (f p) := hu.2.2.2.1 p hp14
    refine qPair_of hR 0 (bI ((f p).testBit p0)) (by decide) ?_ (fun o => ⟨bI ((f p).testBit p0), ?_, fun _ => rfl⟩)
    · simp only [s99_0, s99_1, s99_2, s99_3, s99_6, s99_7, s99_10, s99_13, s99_14, s99_17, s99_18, s99_21, qx_m10, qx_T100.1, hP.1, hneed, m39 hP hp14, e1, m170 (show f p < 2 ^ 31 by omega) (show p0 < 31 by omega), bI_z, List.length_cons, List.length_nil, Nat.zero_le, Nat.reduceAdd, Nat.reduceLeDiff, Option.bind_some, qx_kn_v, qx_kn_n, Nat.add_zero, Bool.false_eq_true, ↓reduceIte]
    · have h2 := fun d => m216 (L := L) (xs := xs) (d := d) (x := 0) (M := qx_up (M.1, o) 400 0 (nI 0)) hp14 hq14 (show _ = nI (f p) from hm.2.2.2.1 p hp14) hf14
      cases hb : (f p).testBit p0
      · rw [hb] at h2
        simp only [s229_0, s229_1, s229_2, s229_3, s229_6, s229_9, s229_10, s229_11, s229_12, s229_15, s229_18, s229_19, s229_22, s229_23, k1, hmay, qbt, h2, qbf, qx_z0, List.length_cons, List.length_nil, Nat.zero_le, Nat.reduceAdd, Nat.reduceLeDiff, Option.bind_some, qx_kn_v, qx_kn_n, Nat.add_zero, Bool.false_eq_true, ↓reduceIte]
        rfl
      · rw [hb] at h2
        simp only [s229_0, s229_1, s229_2, s229_3, s229_6, s229_9, s229_10, s229_11, s229_12, s229_15, s229_18, s229_19, s229_22, s229_23, k1, hmay, qbt, h2, qx_z1, List.length_cons, List.length_nil, Nat.zero_le, Nat.reduceAdd, Nat.reduceLeDiff, Option.bind_some, qx_kn_v, qx_kn_n, Nat.add_zero, Bool.false_eq_true, ↓reduceIte]
        rfl
/-- why two can't be paired -/
def qWhy (r q : Nat) (f mt : Nat → Nat) (a b : Nat) : Nat := if a = b then 1 else if (f a).testBit b = false then 2 else if qp_ra r q a b = false then 3 else if mt a < 14 then 4 else if mt b < 14 then 5 else 0
theorem a102 {n r q : Nat} {f mt : Nat → Nat} (hp : qp_ok n r q f mt) (hu : qPu 101 M n r q f mt) {a b : Nat} (ha : a < 14) (hb : b < 14) : Rs L xs (d + 3) 102 0 [some (.ref (10)), some (.int (nI a)), some (.int (nI b)), none] [] (M) x = some (.inl (some (.int (nI (qWhy r q f mt a b)))), M, x) := by
  have hP : qx_P 101 := qx_T100.2.1
  have hf14 := qp_f14 hp ha
  have e1 : M.1 102 a = nI (f a) := hu.2.2.2.1 a ha
  have h0 : (nI a = nI b) = (a = b) := qi_eq (by omega) (by omega)
  have ma : M.1 103 a = qz (mt a) := hu.2.2.2.2 a ha
  have mb : M.1 103 b = qz (mt b) := hu.2.2.2.2 b hb
  have fa := m47 (L := L) (xs := xs) (d := d + 1) (x := 0) (M := M) hP ha
  have fb := m47 (L := L) (xs := xs) (d := d + 1) (x := 0) (M := M) hP hb
  have da : decide (M.1 (101 + 2) a = -1) = !decide (mt a < 14) := by
    rw [show M.1 (101 + 2) a = qz (mt a) from ma, show decide (qz (mt a) = -1) = decide (¬ mt a < 14) from by congr 1; exact qz_n1 _]
    by_cases z : mt a < 14 <;> simp [z]
  have db : decide (M.1 (101 + 2) b = -1) = !decide (mt b < 14) := by
    rw [show M.1 (101 + 2) b = qz (mt b) from mb, show decide (qz (mt b) = -1) = decide (¬ mt b < 14) from by congr 1; exact qz_n1 _]
    by_cases z : mt b < 14 <;> simp [z]
  rw [da] at fa
  rw [db] at fb
  unfold qWhy
  by_cases c1 : a = b
  · rw [if_pos c1]
    simp only [s102_0, s102_1, s102_4, s102_7i, s102_7r, s102_7n, s102_8, s102_9, s102_10, s102_13, s102_14, s102_15, s102_16, s102_17, s102_20, s102_21, s102_24, s102_27, s102_28, s102_29, s102_30, s102_31, s102_32, s102_35, s102_38, s102_39, s102_40, s102_41, s102_42, s102_45, s102_48, s102_49, s102_50, s102_51, s102_52, s102_55, s102_58, s102_59, s102_62, s102_63, qx_m10, qx_T100.1, hP.1, h0, c1, eq_self, List.length_cons, List.length_nil, Nat.zero_le, Nat.reduceAdd, Nat.reduceLeDiff, Option.bind_some, qx_kn_v, qx_kn_n, Nat.add_zero, Bool.false_eq_true, ↓reduceIte]
  · rw [if_neg c1]
    cases c2 : (f a).testBit b
    · rw [if_pos rfl]
      simp only [s102_0, s102_1, s102_4, s102_7i, s102_7r, s102_7n, s102_8, s102_9, s102_10, s102_13, s102_14, s102_15, s102_16, s102_17, s102_20, s102_21, s102_24, s102_27, s102_28, s102_29, s102_30, s102_31, s102_32, s102_35, s102_38, s102_39, s102_40, s102_41, s102_42, s102_45, s102_48, s102_49, s102_50, s102_51, s102_52, s102_55, s102_58, s102_59, s102_62, s102_63, qx_m10, qx_T100.1, hP.1, h0, c1, m39 hP ha, e1, m170 (show f a < 2 ^ 31 by omega) (show b < 31 by omega), c2, qbf, List.length_cons, List.length_nil, Nat.zero_le, Nat.reduceAdd, Nat.reduceLeDiff, Option.bind_some, qx_kn_v, qx_kn_n, Nat.add_zero, Bool.false_eq_true, ↓reduceIte]
    · rw [if_neg (by decide)]
      have h41 := m41 (L := L) (xs := xs) (d := d) (x := 0) (M := M) hP ha hb hp.2.1 hu.2.1 hu.2.2.1 hp.2.2.1
      cases c3 : qp_ra r q a b
      · rw [if_pos rfl]
        rw [c3] at h41
        simp only [s102_0, s102_1, s102_4, s102_7i, s102_7r, s102_7n, s102_8, s102_9, s102_10, s102_13, s102_14, s102_15, s102_16, s102_17, s102_20, s102_21, s102_24, s102_27, s102_28, s102_29, s102_30, s102_31, s102_32, s102_35, s102_38, s102_39, s102_40, s102_41, s102_42, s102_45, s102_48, s102_49, s102_50, s102_51, s102_52, s102_55, s102_58, s102_59, s102_62, s102_63, qx_m10, qx_T100.1, hP.1, h0, c1, m39 hP ha, e1, m170 (show f a < 2 ^ 31 by omega) (show b < 31 by omega), c2, qbt, h41, qbf, List.length_cons, List.length_nil, Nat.zero_le, Nat.reduceAdd, Nat.reduceLeDiff, Option.bind_some, qx_kn_v, qx_kn_n, Nat.add_zero, Bool.false_eq_true, ↓reduceIte]
      · rw [if_neg (by decide)]
        rw [c3] at h41
        by_cases c4 : mt a < 14
        · rw [if_pos c4]
          rw [decide_eq_true c4] at fa
          simp only [s102_0, s102_1, s102_4, s102_7i, s102_7r, s102_7n, s102_8, s102_9, s102_10, s102_13, s102_14, s102_15, s102_16, s102_17, s102_20, s102_21, s102_24, s102_27, s102_28, s102_29, s102_30, s102_31, s102_32, s102_35, s102_38, s102_39, s102_40, s102_41, s102_42, s102_45, s102_48, s102_49, s102_50, s102_51, s102_52, s102_55, s102_58, s102_59, s102_62, s102_63, qx_m10, qx_T100.1, hP.1, h0, c1, m39 hP ha, e1, m170 (show f a < 2 ^ 31 by omega) (show b < 31 by omega), c2, qbt, h41, fa, Bool.not_true, qbf, List.length_cons, List.length_nil, Nat.zero_le, Nat.reduceAdd, Nat.reduceLeDiff, Option.bind_some, qx_kn_v, qx_kn_n, Nat.add_zero, Bool.false_eq_true, ↓reduceIte]
        · rw [if_neg c4]
          rw [decide_eq_false c4] at fa
          by_cases c5 : mt b < 14
          · rw [if_pos c5]
            rw [decide_eq_true c5] at fb
            simp only [s102_0, s102_1, s102_4, s102_7i, s102_7r, s102_7n, s102_8, s102_9, s102_10, s102_13, s102_14, s102_15, s102_16, s102_17, s102_20, s102_21, s102_24, s102_27, s102_28, s102_29, s102_30, s102_31, s102_32, s102_35, s102_38, s102_39, s102_40, s102_41, s102_42, s102_45, s102_48, s102_49, s102_50, s102_51, s102_52, s102_55, s102_58, s102_59, s102_62, s102_63, qx_m10, qx_T100.1, hP.1, h0, c1, m39 hP ha, e1, m170 (show f a < 2 ^ 31 by omega) (show b < 31 by omega), c2, qbt, h41, fa, fb, Bool.not_true, Bool.not_false, qbf, List.length_cons, List.length_nil, Nat.zero_le, Nat.reduceAdd, Nat.reduceLeDiff, Option.bind_some, qx_kn_v, qx_kn_n, Nat.add_zero, Bool.false_eq_true, ↓reduceIte]
          · rw [if_neg c5]
            rw [decide_eq_false c5] at fb
            simp only [s102_0, s102_1, s102_4, s102_7i, s102_7r, s102_7n, s102_8, s102_9, s102_10, s102_13, s102_14, s102_15, s102_16, s102_17, s102_20, s102_21, s102_24, s102_27, s102_28, s102_29, s102_30, s102_31, s102_32, s102_35, s102_38, s102_39, s102_40, s102_41, s102_42, s102_45, s102_48, s102_49, s102_50, s102_51, s102_52, s102_55, s102_58, s102_59, s102_62, s102_63, qx_m10, qx_T100.1, hP.1, h0, c1, m39 hP ha, e1, m170 (show f a < 2 ^ 31 by omega) (show b < 31 by omega), c2, qbt, h41, fa, fb, Bool.not_true, Bool.not_false, qbf, List.length_cons, List.length_nil, Nat.zero_le, Nat.reduceAdd, Nat.reduceLeDiff, Option.bind_some, qx_kn_v, qx_kn_n, Nat.add_zero, Bool.false_eq_true, ↓reduceIte]
theorem a231 {n r q : Nat} {f mt : Nat → Nat} (hp : qp_ok n r q f mt) (hu : nPu M n r q f mt) {a b : Nat} (ha : a < 14) (hb : b < 14) : Rs L xs (d + 3) 231 0 [some (.ref (400)), some (.int (nI a)), some (.int (nI b))] [] (M) x = some (.inl (some (.int (nI (qWhy r q f mt a b)))), M, x) := by
  obtain ⟨k1, k2, k3⟩ := qx_m400
  have hf14 := qp_f14 hp ha
  have h0 : (nI a = nI b) = (a = b) := qi_eq (by omega) (by omega)
  have h1 := m216 (L := L) (xs := xs) (d := d + 1) (x := 0) (M := M) ha hb (hu.2.2.2.1 a ha) hf14
  have h2 := m218 (L := L) (xs := xs) (d := d + 1) (x := 0) (M := M) ha hb hu.2.1 hp.2.1 hu.2.2.1 hp.2.2.1
  have ma : M.1 401 (21 + a) = qz (mt a) := hu.2.2.2.2 a ha
  have mb : M.1 401 (21 + b) = qz (mt b) := hu.2.2.2.2 b hb
  unfold qWhy
  by_cases c1 : a = b
  · rw [if_pos c1]
    simp only [s231_0, s231_1, s231_2, s231_5, s231_6, s231_7, s231_8, s231_9, s231_10, s231_13, s231_16, s231_17, s231_18, s231_19, s231_20, s231_21, s231_24, s231_27, s231_28, s231_29, s231_30, s231_31, s231_34, s231_35, s231_38, s231_39, s231_42, s231_43, s231_44, s231_47, s231_48, s231_51, s231_52, s231_55, s231_56, k1, h0, c1, eq_self, List.length_cons, List.length_nil, Nat.zero_le, Nat.reduceAdd, Nat.reduceLeDiff, Option.bind_some, qx_kn_v, qx_kn_n, Nat.add_zero, Bool.false_eq_true, ↓reduceIte]
  · rw [if_neg c1]
    cases c2 : (f a).testBit b
    · rw [if_pos rfl]
      rw [c2] at h1
      simp only [s231_0, s231_1, s231_2, s231_5, s231_6, s231_7, s231_8, s231_9, s231_10, s231_13, s231_16, s231_17, s231_18, s231_19, s231_20, s231_21, s231_24, s231_27, s231_28, s231_29, s231_30, s231_31, s231_34, s231_35, s231_38, s231_39, s231_42, s231_43, s231_44, s231_47, s231_48, s231_51, s231_52, s231_55, s231_56, k1, h0, c1, h1, qbf, List.length_cons, List.length_nil, Nat.zero_le, Nat.reduceAdd, Nat.reduceLeDiff, Option.bind_some, qx_kn_v, qx_kn_n, Nat.add_zero, Bool.false_eq_true, ↓reduceIte]
    · rw [if_neg (by decide)]
      rw [c2] at h1
      cases c3 : qp_ra r q a b
      · rw [if_pos rfl]
        rw [c3] at h2
        simp only [s231_0, s231_1, s231_2, s231_5, s231_6, s231_7, s231_8, s231_9, s231_10, s231_13, s231_16, s231_17, s231_18, s231_19, s231_20, s231_21, s231_24, s231_27, s231_28, s231_29, s231_30, s231_31, s231_34, s231_35, s231_38, s231_39, s231_42, s231_43, s231_44, s231_47, s231_48, s231_51, s231_52, s231_55, s231_56, k1, h0, c1, h1, qbt, h2, qbf, List.length_cons, List.length_nil, Nat.zero_le, Nat.reduceAdd, Nat.reduceLeDiff, Option.bind_some, qx_kn_v, qx_kn_n, Nat.add_zero, Bool.false_eq_true, ↓reduceIte]
      · rw [if_neg (by decide)]
        rw [c3] at h2
        by_cases c4 : mt a < 14
        · rw [if_pos c4]
          rw [qz_lt c4] at ma
          simp only [s231_0, s231_1, s231_2, s231_5, s231_6, s231_7, s231_8, s231_9, s231_10, s231_13, s231_16, s231_17, s231_18, s231_19, s231_20, s231_21, s231_24, s231_27, s231_28, s231_29, s231_30, s231_31, s231_34, s231_35, s231_38, s231_39, s231_42, s231_43, s231_44, s231_47, s231_48, s231_51, s231_52, s231_55, s231_56, k1, h0, c1, h1, qbt, h2, m213 ha, ma, qi_n1 (show mt a < 2 ^ 31 by omega), List.length_cons, List.length_nil, Nat.zero_le, Nat.reduceAdd, Nat.reduceLeDiff, Option.bind_some, qx_kn_v, qx_kn_n, Nat.add_zero, Bool.false_eq_true, ↓reduceIte]
        · rw [if_neg c4]
          rw [qz_ge c4] at ma
          by_cases c5 : mt b < 14
          · rw [if_pos c5]
            rw [qz_lt c5] at mb
            simp only [s231_0, s231_1, s231_2, s231_5, s231_6, s231_7, s231_8, s231_9, s231_10, s231_13, s231_16, s231_17, s231_18, s231_19, s231_20, s231_21, s231_24, s231_27, s231_28, s231_29, s231_30, s231_31, s231_34, s231_35, s231_38, s231_39, s231_42, s231_43, s231_44, s231_47, s231_48, s231_51, s231_52, s231_55, s231_56, k1, h0, c1, h1, qbt, h2, m213 ha, m213 hb, ma, mb, eq_self, qi_n1 (show mt b < 2 ^ 31 by omega), List.length_cons, List.length_nil, Nat.zero_le, Nat.reduceAdd, Nat.reduceLeDiff, Option.bind_some, qx_kn_v, qx_kn_n, Nat.add_zero, Bool.false_eq_true, ↓reduceIte]
          · rw [if_neg c5]
            rw [qz_ge c5] at mb
            simp only [s231_0, s231_1, s231_2, s231_5, s231_6, s231_7, s231_8, s231_9, s231_10, s231_13, s231_16, s231_17, s231_18, s231_19, s231_20, s231_21, s231_24, s231_27, s231_28, s231_29, s231_30, s231_31, s231_34, s231_35, s231_38, s231_39, s231_42, s231_43, s231_44, s231_47, s231_48, s231_51, s231_52, s231_55, s231_56, k1, h0, c1, h1, qbt, h2, m213 ha, m213 hb, ma, mb, eq_self, List.length_cons, List.length_nil, Nat.zero_le, Nat.reduceAdd, Nat.reduceLeDiff, Option.bind_some, qx_kn_v, qx_kn_n, Nat.add_zero, Bool.false_eq_true, ↓reduceIte]
theorem j101 {M : qxM} (hR : qREL M) (z : Int32) (y : Int32) : qPair L xs (d + 40) 101 [some (.ref 10), some (.int z), some (.int y)] 232 [some (.ref 400), some (.int z), some (.int y)] ke02 M := by
  obtain ⟨k1, k2, k3⟩ := qx_m400
  rcases qREL_cmp hR with ⟨b1, b2, b3, b4⟩ | ⟨b1, b2, n, r, q, f, mt, s1, s2, s3, s4, st, rt, sp, bm, ou, inn, qb, e, as, qa, bs, lk, nr, fr, wy, hp, hn1, hT, hou, hinn, he14, hst4, hu, ⟨a1, a2, a3, a4⟩, hS, hm, ⟨m1, m2, m3, m4⟩, h35, hN⟩
  · refine qPair_of hR 1 0 (by decide) ?_ ?_
    · rw [if_neg (by decide)]
      simp only [s101_0, s101_1, s101_2, s101_3, qx_m10, a161t b1, List.length_cons, List.length_nil, Nat.zero_le, Nat.reduceAdd, Nat.reduceLeDiff, Option.bind_some, qx_kn_v, qx_kn_n, Nat.add_zero, Bool.false_eq_true, ↓reduceIte]
      exact qx_kn_t rfl rfl rfl
    · intro o
      refine ⟨nI 0, ?_, fun h => absurd h (by decide)⟩
      have h1 := fun (d : Nat) => b227a (L := L) (xs := xs) (d := d) (x := 0) (M := (M.1, o)) b2 b3 (by decide) z y
      simp only [s232_0, s232_1, s232_2, s232_3, s232_6, s232_9, s232_10, s232_11, s232_12, s232_15, s232_18, s232_19, k1, h1, qbt, qbf, qi_z0, true_or, List.length_cons, List.length_nil, Nat.zero_le, Nat.reduceAdd, Nat.reduceLeDiff, Option.bind_some, qx_kn_v, qx_kn_n, Nat.add_zero, Bool.false_eq_true, ↓reduceIte]
  · have hn14 : n ≤ 14 := hp.1
    have hn0 : M.1 101 0 = nI n := hu.1
    by_cases hz : qOut n z ∨ qOut n y
    · refine qPair_of hR 2 0 (by decide) ?_ ?_
      · rw [if_neg (by decide)]
        simp only [s101_0, s101_1, s101_2, s101_3, qx_m10, a161o b1 hn0 hn14 hz, List.length_cons, List.length_nil, Nat.zero_le, Nat.reduceAdd, Nat.reduceLeDiff, Option.bind_some, qx_kn_v, qx_kn_n, Nat.add_zero, Bool.false_eq_true, ↓reduceIte]
        exact qx_kn_t rfl rfl rfl
      · intro o
        refine ⟨nI 0, ?_, fun h => absurd h (by decide)⟩
        have h1 := fun (d : Nat) => b227b (L := L) (xs := xs) (d := d) (x := 0) (M := (M.1, o)) b2 hm.1 hn14 hz
        simp only [s232_0, s232_1, s232_2, s232_3, s232_6, s232_9, s232_10, s232_11, s232_12, s232_15, s232_18, s232_19, k1, h1, qbt, qbf, qi_z0, true_or, List.length_cons, List.length_nil, Nat.zero_le, Nat.reduceAdd, Nat.reduceLeDiff, Option.bind_some, qx_kn_v, qx_kn_n, Nat.add_zero, Bool.false_eq_true, ↓reduceIte]
    obtain ⟨p, p1, p2⟩ := qOut_not (by omega) (fun w => hz (Or.inl w))
    obtain ⟨p0, p3, p4⟩ := qOut_not (by omega) (fun w => hz (Or.inr w))
    subst p2 p4
    have hp14 : p < 14 := by omega
    have hq14 : p0 < 14 := by omega
    have hneed := fun (d x : Nat) => a161 (L := L) (xs := xs) (d := d) (x := x) b1 hn0 hn14 p1 p3
    have hmay := fun (o : (Nat → Int64) × (Nat → UInt64)) (d : Nat) => b227c (L := L) (xs := xs) (d := d) (x := 0) (M := (M.1, o)) b2 hm.1 hn14 p1 p3
    have hZ : qx_Z 104 := qx_T100.2.2
    have hP : qx_P 101 := qx_T100.2.1
    have hst0 : M.1 104 0 = nI st := hS.1.1
    refine qPair_of hR 0 (nI (qWhy r q f mt p p0)) (by decide) ?_ (fun o => ⟨nI (qWhy r q f mt p p0), ?_, fun _ => rfl⟩)
    · simp only [s101_0, s101_1, s101_2, s101_3, s101_6, s101_7, s101_8, s101_9, s101_12, qx_m10, hneed, a102 hp hu hp14 hq14, List.length_cons, List.length_nil, Nat.zero_le, Nat.reduceAdd, Nat.reduceLeDiff, Option.bind_some, qx_kn_v, qx_kn_n, Nat.add_zero, Bool.false_eq_true, ↓reduceIte]
    · have h2 := fun d => a231 (L := L) (xs := xs) (d := d) (x := 0) (M := qx_up (M.1, o) 400 0 (nI 0)) (n := n) hp hm hp14 hq14
      simp only [s232_0, s232_1, s232_2, s232_3, s232_6, s232_9, s232_10, s232_11, s232_12, s232_15, s232_18, s232_19, k1, hmay, qbt, h2, List.length_cons, List.length_nil, Nat.zero_le, Nat.reduceAdd, Nat.reduceLeDiff, Option.bind_some, qx_kn_v, qx_kn_n, Nat.add_zero, Bool.false_eq_true, ↓reduceIte]
end QL
