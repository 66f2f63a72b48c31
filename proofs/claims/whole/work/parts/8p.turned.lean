/-! pairings, mostIf, mostBy, bestRule, helps, firstMate. -/
section QL
variable {L : Nat} {xs : Nat → Int32} {d x : Nat}
theorem j130 {M : qxM} {B : Nat} (hR : qREL M) (hT0 : qTab B M) (hB : B < 90000) : qPairG Value.long B L xs (d + 40) 130 [some (.ref 10)] 297 [some (.ref 400), none] ke0 M := by
  obtain ⟨k1, k2, k3⟩ := qx_m400
  rcases qREL_cmp hR with ⟨b1, b2, b3, b4⟩ | ⟨b1, b2, n, r, q, f, mt, s1, s2, s3, s4, st, rt, sp, bm, ou, inn, qb, e, as, qa, bs, lk, nr, fr, wy, hp, hn1, hT, hou, hinn, he14, hst4, hu, ⟨a1, a2, a3, a4⟩, hS, hm, ⟨v1, v2, v3, v4⟩, h35, hN⟩
  · refine qPairG_of hT0 hR 1 0 (by decide) ?_ ?_
    · rw [if_neg (by decide)]
      simp only [s130_0, s130_1, qx_m10, a159t b1, List.length_cons, List.length_nil, Nat.zero_le, Nat.reduceAdd, Nat.reduceLeDiff, Option.bind_some, qx_kn_v, qx_kn_n, Nat.add_zero, Bool.false_eq_true, ↓reduceIte]
      exact qx_kn_t rfl rfl rfl
    · intro o
      refine ⟨Int64.ofNat 0, ?_, fun h => absurd h (by decide)⟩
      have h1 := fun (d : Nat) => b263a (L := L) (xs := xs) (d := d) (x := 0) (M := (M.1, o)) b2
      simp only [s297_0, s297_1, s297_4, s297_7, s297_8, k1, h1, qbt, qbf, qi_z0, true_or, List.length_cons, List.length_nil, Nat.zero_le, Nat.reduceAdd, Nat.reduceLeDiff, Option.bind_some, qx_kn_v, qx_kn_n, Nat.add_zero, Bool.false_eq_true, ↓reduceIte]
  · have hn14 : n ≤ 14 := hp.1
    have hn0 : M.1 101 0 = nI n := hu.1
    have hneed := fun (d x : Nat) => a159 (L := L) (xs := xs) (d := d) (x := x) b1
    have hmay := fun (o : (Nat → Int64) × (Nat → UInt64)) (d : Nat) => b263c (L := L) (xs := xs) (d := d) (x := 0) (M := (M.1, o)) b2
    have hZ : qx_Z 104 := qx_T100.2.2
    have hP : qx_P 101 := qx_T100.2.1
    have hst0 : M.1 104 0 = nI st := hS.1.1
    have hst9 : ∀ {st : Nat}, st ≤ B + 1 → st < 100000 := fun h => by omega
    have hpos := Nat.two_pow_pos n
    have h16 := n14 hn14
    have hall : 2 ^ n - 1 < 16384 := by omega
    have ha := qal_ok hp hp.2.1
    obtain ⟨M1, st1, g1, s1, t1, f1⟩ := a168 (L := L) (xs := xs) (d := d + 36) (x := 0) hp hu hT0 hB
    have h36 := m36 (L := L) (xs := xs) (d := d + 38) (x := 0) (M := M1) hP (by rw [f1.1 101 (by unfold qFm; omega)]; exact hn0) hn14
    obtain ⟨M2, g2, t2, f2⟩ := m6 (L := L) (xs := xs) (d := d + 22) (x := 0) ha (hst9 s1) hall t1
    have F := qf_trans f1 (qF_m f2)
    refine qPairG_mem hR ((nI (mW (qal r q f) (2 ^ n - 1))).toInt64) ?_ F (qTab_s ha s1 t2) (fun o => ?_)
    · simp only [s130_0, s130_1, s130_4, s130_5, s130_8, s130_9, s130_12, s130_15, s130_18, s130_21, s130_22, qx_m10, qx_T100.1, hP.1, hneed, g1, h36, g2, List.length_cons, List.length_nil, Nat.zero_le, Nat.reduceAdd, Nat.reduceLeDiff, Option.bind_some, qx_kn_v, qx_kn_n, Nat.add_zero, Bool.false_eq_true, ↓reduceIte]
    · obtain ⟨k4, k5, k6, k7, k8, k9⟩ := qx_m407
      have hu2 := nPu_F hm F o (nI 0)
      obtain ⟨M3, g3, l3, f3⟩ := m271 (L := L) (xs := xs) (d := d + 35) (x := 0) hp (al := qal r q f) (fun p _ => rfl) ha hu2
      have hn3 : M3.1 401 0 = nI n := by rw [f3.1 401 (by unfold qTb; omega)]; exact hu2.1
      have h212 := fun d => m212 (L := L) (xs := xs) (d := d) (x := 0) hn3 hn14
      obtain ⟨c1, c2⟩ := qc_i hall
      have hw := (l3.2 (2 ^ n - 1) (by omega)).2
      have h263 := fun d => mo263 (L := L) (xs := xs) b2 F o d
      refine ⟨M3, ?_, f3⟩
      simp only [s297_0, s297_1, s297_4, s297_7, s297_8, s297_9, s297_10, s297_13i, s297_13r, s297_13n, s297_14, s297_15, s297_18, s297_19, s297_22, s297_23, s297_24, k1, k6, k7, h263, qbt, g3, h212, c1, c2, hw, List.length_cons, List.length_nil, Nat.zero_le, Nat.reduceAdd, Nat.reduceLeDiff, Option.bind_some, qx_kn_v, qx_kn_n, Nat.add_zero, Bool.false_eq_true, ↓reduceIte]
theorem j133 {M : qxM} {B : Nat} (hR : qREL M) (hT0 : qTab B M) (hB : B < 90000) (z : Int32) (y : Int32) : qPairG Value.int B L xs (d + 40) 133 [some (.ref 10), some (.int z), some (.int y), none, none] 301 [some (.ref 400), some (.int z), some (.int y)] ke02 M := by
  obtain ⟨k1, k2, k3⟩ := qx_m400
  rcases qREL_cmp hR with ⟨b1, b2, b3, b4⟩ | ⟨b1, b2, n, r, q, f, mt, s1, s2, s3, s4, st, rt, sp, bm, ou, inn, qb, e, as, qa, bs, lk, nr, fr, wy, hp, hn1, hT, hou, hinn, he14, hst4, hu, ⟨a1, a2, a3, a4⟩, hS, hm, ⟨v1, v2, v3, v4⟩, h35, hN⟩
  · refine qPairG_of hT0 hR 1 0 (by decide) ?_ ?_
    · rw [if_neg (by decide)]
      simp only [s133_0, s133_1, s133_2, s133_3, qx_m10, a161t b1, List.length_cons, List.length_nil, Nat.zero_le, Nat.reduceAdd, Nat.reduceLeDiff, Option.bind_some, qx_kn_v, qx_kn_n, Nat.add_zero, Bool.false_eq_true, ↓reduceIte]
      exact qx_kn_t rfl rfl rfl
    · intro o
      refine ⟨nI 0, ?_, fun h => absurd h (by decide)⟩
      have h1 := fun (d : Nat) => b227a (L := L) (xs := xs) (d := d) (x := 0) (M := (M.1, o)) b2 b3 (by decide) z y
      simp only [s301_0, s301_1, s301_2, s301_3, s301_6, s301_9, s301_10, s301_11, s301_12, s301_15, s301_18, s301_19, k1, h1, qbt, qbf, qi_z0, true_or, List.length_cons, List.length_nil, Nat.zero_le, Nat.reduceAdd, Nat.reduceLeDiff, Option.bind_some, qx_kn_v, qx_kn_n, Nat.add_zero, Bool.false_eq_true, ↓reduceIte]
  · have hn14 : n ≤ 14 := hp.1
    have hn0 : M.1 101 0 = nI n := hu.1
    by_cases hz : qOut n z ∨ qOut n y
    · refine qPairG_of hT0 hR 2 0 (by decide) ?_ ?_
      · rw [if_neg (by decide)]
        simp only [s133_0, s133_1, s133_2, s133_3, qx_m10, a161o b1 hn0 hn14 hz, List.length_cons, List.length_nil, Nat.zero_le, Nat.reduceAdd, Nat.reduceLeDiff, Option.bind_some, qx_kn_v, qx_kn_n, Nat.add_zero, Bool.false_eq_true, ↓reduceIte]
        exact qx_kn_t rfl rfl rfl
      · intro o
        refine ⟨nI 0, ?_, fun h => absurd h (by decide)⟩
        have h1 := fun (d : Nat) => b227b (L := L) (xs := xs) (d := d) (x := 0) (M := (M.1, o)) b2 hm.1 hn14 hz
        simp only [s301_0, s301_1, s301_2, s301_3, s301_6, s301_9, s301_10, s301_11, s301_12, s301_15, s301_18, s301_19, k1, h1, qbt, qbf, qi_z0, true_or, List.length_cons, List.length_nil, Nat.zero_le, Nat.reduceAdd, Nat.reduceLeDiff, Option.bind_some, qx_kn_v, qx_kn_n, Nat.add_zero, Bool.false_eq_true, ↓reduceIte]
    obtain ⟨p, p1, p2⟩ := qOut_not (by omega) (fun w => hz (Or.inl w))
    obtain ⟨p0, p3, p4⟩ := qOut_not (by omega) (fun w => hz (Or.inr w))
    subst p2 p4
    have hp14 : p < 14 := by omega
    have hq14 : p0 < 14 := by omega
    have hneed := fun (d x : Nat) => a161 (L := L) (xs := xs) (d := d) (x := x) b1 hn0 hn14 p1 p3
    have hmay := fun (o : (Nat → Int64) × (Nat → UInt64)) (d : Nat) => b227c (L := L) (xs := xs) (d := d) (x := 0) (M := (M.1, o)) b2 hm.1 hn14 p1 p3
    have hZ : qx_Z 104 := qx_T100.2.2
    have hP : qx_P 101 := qx_T100.2.1
    have hst0 : M.1 104 0 = nI st := hS.1.1
    have hst9 : ∀ {st : Nat}, st ≤ B + 1 → st < 100000 := fun h => by omega
    have hpos := Nat.two_pow_pos n
    have h16 := n14 hn14
    have hall : 2 ^ n - 1 < 16384 := by omega
    have ha := qal_ok hp hp.2.1
    have hF7 := F_7 (al := qal r q f) hall
    obtain ⟨M1, st1, g1, s1, t1, f1⟩ := a168 (L := L) (xs := xs) (d := d + 36) (x := 0) hp hu hT0 hB
    obtain ⟨M2, g2, t2, f2⟩ := m1 (L := L) (xs := xs) (d := d + 21) (x := 0) ha (hst9 s1) hall t1
    have F := qf_trans f1 (qF_m f2)
    by_cases hab : p = p0
    · subst hab
      refine qPairG_mem hR (nI (mF (qal r q f) (2 ^ n - 1))) ?_ F (qTab_s ha s1 t2) (fun o => ?_)
      · simp only [s133_0, s133_1, s133_2, s133_3, s133_6, s133_7, s133_10i, s133_10r, s133_10n, s133_11, s133_12, s133_15i, s133_15r, s133_15n, s133_17, s133_18, s133_19, s133_22, s133_23, s133_26, s133_29, s133_30, s133_31, s133_34, s133_37, s133_39, s133_40, s133_41, s133_44, s133_47, s133_48, s133_51, s133_52, s133_55, s133_58, s133_59, s133_60, s133_61, s133_64, s133_67, s133_69, s133_70, s133_71, s133_74, s133_76, s133_77, s133_79, s133_80, s133_81, s133_82, s133_85, s133_86, s133_87, s133_90, qx_m10, hneed, g1, g2, List.length_cons, List.length_nil, Nat.zero_le, Nat.reduceAdd, Nat.reduceLeDiff, Option.bind_some, qx_kn_v, qx_kn_n, Nat.add_zero, Bool.false_eq_true, ↓reduceIte]
      · have hu2 := nPu_F hm F o (nI 0)
        have h227 := fun d => mo227 (L := L) (xs := xs) b2 hm.1 hn14 p1 p3 F o d
        obtain ⟨M3, g3, f3⟩ := g295s (L := L) (xs := xs) (d := d + 34) (x := 0) hp hu2 p1
        refine ⟨M3, ?_, f3⟩
        simp only [s301_0, s301_1, s301_2, s301_3, s301_6, s301_9, s301_10, s301_11, s301_12, s301_15, s301_18, s301_19, k1, h227, qbt, g3, List.length_cons, List.length_nil, Nat.zero_le, Nat.reduceAdd, Nat.reduceLeDiff, Option.bind_some, qx_kn_v, qx_kn_n, Nat.add_zero, Bool.false_eq_true, ↓reduceIte]
    have hne : (nI p = nI p0) = False := by rw [qi_eq (by omega) (by omega)]; exact eq_false hab
    have e101 : M2.1 101 = M.1 101 := F.1 101 (by unfold qFm; omega)
    have e102 : M2.1 102 = M.1 102 := F.1 102 (by unfold qFm; omega)
    have h41 := m41 (L := L) (xs := xs) (d := d + 37) (x := 0) (M := M2) hP hp14 hq14 hp.2.1 (by rw [e101]; exact hu.2.1) (by rw [e101]; exact hu.2.2.1) hp.2.2.1
    cases hra : qp_ra r q p p0
    · rw [hra] at h41
      refine qPairG_mem hR (nI (mF (qal r q f) (2 ^ n - 1))) ?_ F (qTab_s ha s1 t2) (fun o => ?_)
      · simp only [s133_0, s133_1, s133_2, s133_3, s133_6, s133_7, s133_10i, s133_10r, s133_10n, s133_11, s133_12, s133_15i, s133_15r, s133_15n, s133_17, s133_18, s133_19, s133_22, s133_23, s133_26, s133_29, s133_30, s133_31, s133_34, s133_37, s133_39, s133_40, s133_41, s133_44, s133_47, s133_48, s133_51, s133_52, s133_55, s133_58, s133_59, s133_60, s133_61, s133_64, s133_67, s133_69, s133_70, s133_71, s133_74, s133_76, s133_77, s133_79, s133_80, s133_81, s133_82, s133_85, s133_86, s133_87, s133_90, qx_m10, qx_T100.1, hP.1, hneed, g1, g2, hne, h41, qbf, List.length_cons, List.length_nil, Nat.zero_le, Nat.reduceAdd, Nat.reduceLeDiff, Option.bind_some, qx_kn_v, qx_kn_n, Nat.add_zero, Bool.false_eq_true, ↓reduceIte]
      · have hu2 := nPu_F hm F o (nI 0)
        have h227 := fun d => mo227 (L := L) (xs := xs) b2 hm.1 hn14 p1 p3 F o d
        obtain ⟨M3, g3, f3⟩ := g295 (L := L) (xs := xs) (d := d + 34) (x := 0) hp hu2 p1 p3 hab
        rw [be_no hp hab hra _ _ hall] at g3
        refine ⟨M3, ?_, f3⟩
        simp only [s301_0, s301_1, s301_2, s301_3, s301_6, s301_9, s301_10, s301_11, s301_12, s301_15, s301_18, s301_19, k1, h227, qbt, g3, List.length_cons, List.length_nil, Nat.zero_le, Nat.reduceAdd, Nat.reduceLeDiff, Option.bind_some, qx_kn_v, qx_kn_n, Nat.add_zero, Bool.false_eq_true, ↓reduceIte]
    · rw [hra] at h41
      have h39 := m39 (L := L) (xs := xs) (d := d + 39) (x := 0) (M := M2) hP hp14
      rw [show M2.1 (101 + 1) p = nI (f p) by rw [e102]; exact hu.2.2.2.1 p hp14] at h39
      have h170 := m170 (L := L) (xs := xs) (d := d + 39) (x := 0) (M := M2) (show f p < 2 ^ 31 by have := qp_f14 hp hp14; omega) (show p0 < 31 by omega)
      cases hf : (f p).testBit p0
      · rw [hf] at h170
        obtain ⟨M3, g3, t3, f3⟩ := m3 (L := L) (xs := xs) (d := d + 21) (x := 0) (a := p) (b := p0) ha (hst9 s1) hall hp14 hq14 t2
        have F3 := qf_trans F (qF_m f3)
        have hB7 := F_7 (al := qal r q f) (qd_14 (v := p0) (qd_14 (v := p) hall))
        have hm1 : nI (mF (qal r q f) (qd (qd (2 ^ n - 1) p) p0)) + nI 1 = nI (mF (qal r q f) (qd (qd (2 ^ n - 1) p) p0) + 1) := nI_add _ _
        have e : (nI (mF (qal r q f) (2 ^ n - 1)) < nI (mF (qal r q f) (qd (qd (2 ^ n - 1) p) p0) + 1)) = (mF (qal r q f) (2 ^ n - 1) < mF (qal r q f) (qd (qd (2 ^ n - 1) p) p0) + 1) := qi_lt (by omega) (by omega)
        have ev : (if mF (qal r q f) (2 ^ n - 1) < mF (qal r q f) (qd (qd (2 ^ n - 1) p) p0) + 1 then nI (mF (qal r q f) (qd (qd (2 ^ n - 1) p) p0) + 1) else nI (mF (qal r q f) (2 ^ n - 1))) = nI (mF (qal r q (qp_be f p p0 true)) (2 ^ n - 1)) := by
          rw [be_on hp p1 p3 hab hra hf]
          by_cases y : mF (qal r q f) (2 ^ n - 1) < mF (qal r q f) (qd (qd (2 ^ n - 1) p) p0) + 1
          · rw [if_pos y, if_neg (by omega)]
          · rw [if_neg y]
            by_cases w : mF (qal r q f) (qd (qd (2 ^ n - 1) p) p0) + 1 < mF (qal r q f) (2 ^ n - 1)
            · rw [if_pos w]
            · rw [if_neg w]
              congr 1
              omega
        refine qPairG_mem hR (nI (mF (qal r q (qp_be f p p0 true)) (2 ^ n - 1))) ?_ F3 (qTab_s ha s1 t3) (fun o => ?_)
        · simp only [s133_0, s133_1, s133_2, s133_3, s133_6, s133_7, s133_10i, s133_10r, s133_10n, s133_11, s133_12, s133_15i, s133_15r, s133_15n, s133_17, s133_18, s133_19, s133_22, s133_23, s133_26, s133_29, s133_30, s133_31, s133_34, s133_37, s133_39, s133_40, s133_41, s133_44, s133_47, s133_48, s133_51, s133_52, s133_55, s133_58, s133_59, s133_60, s133_61, s133_64, s133_67, s133_69, s133_70, s133_71, s133_74, s133_76, s133_77, s133_79, s133_80, s133_81, s133_82, s133_85, s133_86, s133_87, s133_90, qx_m10, qx_T100.1, hP.1, hneed, g1, g2, hne, h41, qbt, h39, h170, hf, qbf, g3, hm1, e, ev, List.length_cons, List.length_nil, Nat.zero_le, Nat.reduceAdd, Nat.reduceLeDiff, Option.bind_some, qx_kn_v, qx_kn_n, Nat.add_zero, Bool.false_eq_true, ↓reduceIte]
        · have hu2 := nPu_F hm F3 o (nI 0)
          have h227 := fun d => mo227 (L := L) (xs := xs) b2 hm.1 hn14 p1 p3 F3 o d
          obtain ⟨M4, g4, f4⟩ := g295 (L := L) (xs := xs) (d := d + 34) (x := 0) hp hu2 p1 p3 hab
          rw [hf, Bool.not_false] at g4
          refine ⟨M4, ?_, f4⟩
          simp only [s301_0, s301_1, s301_2, s301_3, s301_6, s301_9, s301_10, s301_11, s301_12, s301_15, s301_18, s301_19, k1, h227, qbt, g4, List.length_cons, List.length_nil, Nat.zero_le, Nat.reduceAdd, Nat.reduceLeDiff, Option.bind_some, qx_kn_v, qx_kn_n, Nat.add_zero, Bool.false_eq_true, ↓reduceIte]
      · rw [hf] at h170
        obtain ⟨M3, g3, t3, f3⟩ := m13 (L := L) (xs := xs) (d := d + 19) (x := 0) ha (hst9 s1) hall hp14 hq14 t2
        have F3 := qf_trans F (qF_m f3)
        refine qPairG_mem hR (nI (mF (qal r q (qp_be f p p0 false)) (2 ^ n - 1))) ?_ F3 (qTab_s ha s1 t3) (fun o => ?_)
        · rw [be_off hp p1 p3 hab hra hf]
          cases y : qNd (qal r q f) (2 ^ n - 1) p p0
          · rw [y] at g3
            simp only [s133_0, s133_1, s133_2, s133_3, s133_6, s133_7, s133_10i, s133_10r, s133_10n, s133_11, s133_12, s133_15i, s133_15r, s133_15n, s133_17, s133_18, s133_19, s133_22, s133_23, s133_26, s133_29, s133_30, s133_31, s133_34, s133_37, s133_39, s133_40, s133_41, s133_44, s133_47, s133_48, s133_51, s133_52, s133_55, s133_58, s133_59, s133_60, s133_61, s133_64, s133_67, s133_69, s133_70, s133_71, s133_74, s133_76, s133_77, s133_79, s133_80, s133_81, s133_82, s133_85, s133_86, s133_87, s133_90, qx_m10, qx_T100.1, hP.1, hneed, g1, g2, hne, h41, qbt, h39, h170, hf, qbf, g3, List.length_cons, List.length_nil, Nat.zero_le, Nat.reduceAdd, Nat.reduceLeDiff, Option.bind_some, qx_kn_v, qx_kn_n, Nat.add_zero, Bool.false_eq_true, ↓reduceIte]
          · rw [y] at g3
            have hpos2 : 0 < mF (qal r q f) (2 ^ n - 1) := by
              unfold qNd qUs at y
              rw [Bool.and_eq_true, Bool.and_eq_true, decide_eq_true_eq] at y
              omega
            have hs1 : nI (mF (qal r q f) (2 ^ n - 1)) - nI 1 = nI (mF (qal r q f) (2 ^ n - 1) - 1) := pk_sub hpos2
            simp only [s133_0, s133_1, s133_2, s133_3, s133_6, s133_7, s133_10i, s133_10r, s133_10n, s133_11, s133_12, s133_15i, s133_15r, s133_15n, s133_17, s133_18, s133_19, s133_22, s133_23, s133_26, s133_29, s133_30, s133_31, s133_34, s133_37, s133_39, s133_40, s133_41, s133_44, s133_47, s133_48, s133_51, s133_52, s133_55, s133_58, s133_59, s133_60, s133_61, s133_64, s133_67, s133_69, s133_70, s133_71, s133_74, s133_76, s133_77, s133_79, s133_80, s133_81, s133_82, s133_85, s133_86, s133_87, s133_90, qx_m10, qx_T100.1, hP.1, hneed, g1, g2, hne, h41, qbt, h39, h170, hf, g3, hs1, List.length_cons, List.length_nil, Nat.zero_le, Nat.reduceAdd, Nat.reduceLeDiff, Option.bind_some, qx_kn_v, qx_kn_n, Nat.add_zero, Bool.false_eq_true, ↓reduceIte]
        · have hu2 := nPu_F hm F3 o (nI 0)
          have h227 := fun d => mo227 (L := L) (xs := xs) b2 hm.1 hn14 p1 p3 F3 o d
          obtain ⟨M4, g4, f4⟩ := g295 (L := L) (xs := xs) (d := d + 34) (x := 0) hp hu2 p1 p3 hab
          rw [hf, Bool.not_true] at g4
          refine ⟨M4, ?_, f4⟩
          simp only [s301_0, s301_1, s301_2, s301_3, s301_6, s301_9, s301_10, s301_11, s301_12, s301_15, s301_18, s301_19, k1, h227, qbt, g4, List.length_cons, List.length_nil, Nat.zero_le, Nat.reduceAdd, Nat.reduceLeDiff, Option.bind_some, qx_kn_v, qx_kn_n, Nat.add_zero, Bool.false_eq_true, ↓reduceIte]
/-- the most pairs by another RULE -/
theorem g303 {n r q r1 : Nat} {f mt : Nat → Nat} {M : qxM} (hp : qp_ok n r q f mt) (hu : nPu M n r q f mt) (hr : r1 ≤ 2) : ∃ M', Rs L xs (d + 5) 303 0 [some (.ref (400)), some (.int (nI r1)), none, none] [] (M) x = some (.inl (some (.int (nI (mF (qal r1 q f) (2 ^ n - 1))))), M', x) ∧ qf qTb M M' := by
  obtain ⟨k1, k2, k3⟩ := qx_m400
  obtain ⟨u0, u1, u2, u3, u4⟩ := hu
  have hp1 : qp_ok n r1 q f mt := ⟨hp.1, hr, hp.2.2⟩
  have hu1 : nPu (qx_up M 401 1 (nI r1)) n r1 q f mt := by
    refine ⟨?_, ?_, ?_, fun p hp => ?_, fun p hp => ?_⟩
    · rw [qx_up_at, if_neg (by omega), u0]
    · rw [qx_up_at, if_pos ⟨rfl, rfl⟩]
    · rw [qx_up_at, if_neg (by omega), u2]
    · rw [qx_up_at, if_neg (by omega), u3 p hp]
    · rw [qx_up_at, if_neg (by omega), u4 p hp]
  obtain ⟨M2, g2, l2, f2⟩ := m271 (L := L) (xs := xs) (d := d) (x := 0) hp1 (al := qal r1 q f) (fun p _ => rfl) (qal_ok hp1 hr) hu1
  have e401 : (qx_up M2 401 1 (nI r)).1 401 = M.1 401 := by
    funext j
    rw [qx_up_at]
    by_cases e : j = 1
    · rw [if_pos ⟨rfl, e⟩, e, u1]
    · rw [if_neg (fun w => e w.2), f2.1 401 (by unfold qTb; omega), qx_up_at, if_neg (fun w => e w.2)]
  refine ⟨qx_up M2 401 1 (nI r), ?_, ⟨fun c hc => ?_, ?_⟩⟩
  · simp only [s303_0, s303_1, s303_4, s303_5, s303_6i, s303_6r, s303_6n, s303_7, s303_8, s303_11, s303_12, s303_13, s303_14, s303_15, s303_18i, s303_18r, s303_18n, s303_19, s303_20, s303_23, s303_24, s303_25, s303_26, s303_27, k1, k2, k3, u1, g2, (qn_c (1) (by omega)).1, (qn_c (1) (by omega)).2, List.length_cons, List.length_nil, Nat.zero_le, Nat.reduceAdd, Nat.reduceLeDiff, Option.bind_some, qx_kn_v, qx_kn_n, Nat.add_zero, Bool.false_eq_true, ↓reduceIte]
  · by_cases w : c = 401
    · rw [w, e401]
    · rw [qx_up_ne _ _ _ w, f2.1 c hc, qx_up_ne _ _ _ w]
  · exact f2.2
theorem j134 {M : qxM} {B : Nat} (hR : qREL M) (hT0 : qTab B M) (hB : B < 90000) (z : Int32) : qPairG Value.int B L xs (d + 40) 134 [some (.ref 10), some (.int z)] 304 [some (.ref 400), some (.int z)] ke01 M := by
  obtain ⟨k1, k2, k3⟩ := qx_m400
  rcases qREL_cmp hR with ⟨b1, b2, b3, b4⟩ | ⟨b1, b2, n, r, q, f, mt, s1, s2, s3, s4, st, rt, sp, bm, ou, inn, qb, e, as, qa, bs, lk, nr, fr, wy, hp, hn1, hT, hou, hinn, he14, hst4, hu, ⟨a1, a2, a3, a4⟩, hS, hm, ⟨v1, v2, v3, v4⟩, h35, hN⟩
  · refine qPairG_of hT0 hR 1 0 (by decide) ?_ ?_
    · rw [if_neg (by decide)]
      simp only [s134_0, s134_1, s134_4, s134_5, s134_6, s134_7, qx_m10, a159t b1, List.length_cons, List.length_nil, Nat.zero_le, Nat.reduceAdd, Nat.reduceLeDiff, Option.bind_some, qx_kn_v, qx_kn_n, Nat.add_zero, Bool.false_eq_true, ↓reduceIte]
      exact qx_kn_t rfl rfl rfl
    · intro o
      refine ⟨nI 0, ?_, fun h => absurd h (by decide)⟩
      have h2 := fun (d : Nat) => a178k (L := L) (xs := xs) (d := d) (x := 0) (M := (M.1, o)) (k := 2) (by decide) z
      have h3 := fun (d : Nat) => c181a (L := L) (xs := xs) (d := d) (x := 0) (M := (M.1, o)) (!decide (qOut (2 + 1) z))
      simp only [Nat.reduceAdd] at h2 h3
      simp only [s304_0, s304_1, s304_2, s304_5, s304_6, s304_9, s304_12, s304_15, s304_16, s304_17, s304_20, s304_23, s304_24, s302_0, s302_1, s302_2, s302_3, s302_6, k1, b2, h2, h3, bI_z, qbf, qi_z0, true_or, List.length_cons, List.length_nil, Nat.zero_le, Nat.reduceAdd, Nat.reduceLeDiff, Option.bind_some, qx_kn_v, qx_kn_n, Nat.add_zero, Bool.false_eq_true, ↓reduceIte]
  · have hn14 : n ≤ 14 := hp.1
    have hn0 : M.1 101 0 = nI n := hu.1
    have hZ : qx_Z 104 := qx_T100.2.2
    have hP : qx_P 101 := qx_T100.2.1
    have hst0 : M.1 104 0 = nI st := hS.1.1
    have hneed := fun (d x : Nat) => a159 (L := L) (xs := xs) (d := d) (x := x) b1
    by_cases hz : qOut (2 + 1) z
    · refine qPairG_of hT0 hR 2 0 (by decide) ?_ ?_
      · rw [if_neg (by decide)]
        simp only [s134_0, s134_1, s134_4, s134_5, s134_6, s134_7, qx_m10, hneed, a162t (k := 2) (by decide) hz, List.length_cons, List.length_nil, Nat.zero_le, Nat.reduceAdd, Nat.reduceLeDiff, Option.bind_some, qx_kn_v, qx_kn_n, Nat.add_zero, Bool.false_eq_true, ↓reduceIte]
        exact qx_kn_t rfl rfl rfl
      · intro o
        refine ⟨nI 0, ?_, fun h => absurd h (by decide)⟩
        have h2 := fun (d : Nat) => a178k (L := L) (xs := xs) (d := d) (x := 0) (M := (M.1, o)) (k := 2) (by decide) z
        rw [decide_eq_true hz] at h2
        have h3 := fun (d : Nat) => c181b (L := L) (xs := xs) (d := d) (x := 0) (M := (M.1, o))
        simp only [s304_0, s304_1, s304_2, s304_5, s304_6, s304_9, s304_12, s304_15, s304_16, s304_17, s304_20, s304_23, s304_24, s302_0, s302_1, s302_2, s302_3, s302_6, k1, b2, h2, h3, Bool.not_true, qbt, qbf, qi_z0, true_or, List.length_cons, List.length_nil, Nat.zero_le, Nat.reduceAdd, Nat.reduceLeDiff, Option.bind_some, qx_kn_v, qx_kn_n, Nat.add_zero, Bool.false_eq_true, ↓reduceIte]
    obtain ⟨p0, p3, p4⟩ := qOut_not (by decide) hz
    subst p4
    have hrange := fun (d x : Nat) => a162 (L := L) (xs := xs) (d := d) (x := x) (M := M) (k := 2) (p := p0) (by decide) (by omega)
    have hin := fun (o : (Nat → Int64) × (Nat → UInt64)) (d : Nat) => show Rs L xs d 178 0 [some (.int (nI p0)), some (.int (nI 0)), some (.int (nI 2))] [] (M.1, o) 0 = some (.inl (some (.int (bI true))), (M.1, o), 0) by
      have h := a178k (L := L) (xs := xs) (d := d) (x := 0) (M := (M.1, o)) (k := 2) (by decide) (nI p0)
      rw [decide_eq_false hz] at h
      exact h
    have hmay := fun (o : (Nat → Int64) × (Nat → UInt64)) (d : Nat) => c181c (L := L) (xs := xs) (d := d) (x := 0) (M := (M.1, o))
    have hb6 : ∀ o : (Nat → Int64) × (Nat → UInt64), (M.1, o).1 400 6 = bI true := fun o => b2
    have hst9 : ∀ {st : Nat}, st ≤ B + 1 → st < 100000 := fun h => by omega
    have hpos := Nat.two_pow_pos n
    have h16 := n14 hn14
    have hall : 2 ^ n - 1 < 16384 := by omega
    have hr1 : p0 ≤ 2 := by omega
    have ha := qal_ok hp hr1
    obtain ⟨al, st, T1, T2, T3⟩ := hT0
    obtain ⟨M1, st1, g1, s1, t1, f1⟩ := m0 (L := L) (xs := xs) (d := d + 37) (x := 0) (al1 := qal p0 q f) hu.1 hp.1 hr1 hu.2.2.1 hp.2.2.1 hu.2.2.2.1 (fun p h => qp_f14 hp h) (fun p _ => rfl) (show st < 100000 by omega) T1.2 T3
    have F1 : qf qFm M M1 := qf_mono f1 (fun a h => by unfold qFm; omega)
    obtain ⟨M2, g2, t2, f2⟩ := m1 (L := L) (xs := xs) (d := d + 21) (x := 0) ha (show st1 < 100000 by omega) hall t1
    have F := qf_trans F1 (qF_m f2)
    refine qPairG_mem hR (nI (mF (qal p0 q f) (2 ^ n - 1))) ?_ F (qTab_s ha (by omega) t2) (fun o => ?_)
    · simp only [s134_0, s134_1, s134_4, s134_5, s134_6, s134_7, s134_10, s134_11, s134_14, s134_15, s134_18, s134_21, s134_22, s134_25, s134_26, s134_29, s134_32, qx_m10, qx_T100.1, hP.1, hneed, hrange, g1, g2, List.length_cons, List.length_nil, Nat.zero_le, Nat.reduceAdd, Nat.reduceLeDiff, Option.bind_some, qx_kn_v, qx_kn_n, Nat.add_zero, Bool.false_eq_true, ↓reduceIte]
    · have hu2 := nPu_F hm F o (nI 0)
      obtain ⟨M3, g3, f3⟩ := g303 (L := L) (xs := xs) (d := d + 34) (x := 0) hp hu2 hr1
      have hmay2 := fun d => c181c (L := L) (xs := xs) (d := d) (x := 0) (M := (M2.1, o))
      have hin2 := fun d => hin M2.2 d
      have h302 : ∀ d, Rs L xs (d + 1) 302 0 [some (.int (nI p0))] [] (M2.1, o) 0 = some (.inl (some (.int (bI true))), (M2.1, o), 0) := by
        intro d
        have h := a178k (L := L) (xs := xs) (d := d) (x := 0) (M := (M2.1, o)) (k := 2) (by decide) (nI p0)
        rw [decide_eq_false hz] at h
        simp only [s302_0, s302_1, s302_2, s302_3, s302_6, h, Bool.not_false, bI_z, List.length_cons, List.length_nil, Nat.zero_le, Nat.reduceAdd, Nat.reduceLeDiff, Option.bind_some, qx_kn_v, qx_kn_n, Nat.add_zero, Bool.false_eq_true, ↓reduceIte]
      have hb2 : M2.1 400 6 = bI true := by rw [F.1 400 (by unfold qFm; omega), b2]
      refine ⟨M3, ?_, f3⟩
      simp only [s304_0, s304_1, s304_2, s304_5, s304_6, s304_9, s304_12, s304_15, s304_16, s304_17, s304_20, s304_23, s304_24, k1, hb2, h302, hmay2, qbt, g3, List.length_cons, List.length_nil, Nat.zero_le, Nat.reduceAdd, Nat.reduceLeDiff, Option.bind_some, qx_kn_v, qx_kn_n, Nat.add_zero, Bool.false_eq_true, ↓reduceIte]
theorem qal_more {n r q : Nat} {f mt : Nat → Nat} (hp : qp_ok n r q f mt) {r1 : Nat} (hr : r1 ≤ 2) (s : Nat) (hs : s < 16384) : mF (qal r1 q f) s ≤ mF (qal 0 q f) s :=
  F_more (qal_ok hp hr).1 (qal_ok hp (by decide)).1 (fun u v h => by
    rw [qal_e hr, Bool.and_eq_true] at h
    rw [qal_e (by decide), h.1]
    rfl) _ s (Nat.le_refl _) hs
theorem j135 {M : qxM} {B : Nat} (hR : qREL M) (hT0 : qTab B M) (hB : B < 90000) : qPairG Value.int B L xs (d + 40) 135 [some (.ref 10)] 305 [some (.ref 400), none, none, none, none] ke0 M := by
  obtain ⟨k1, k2, k3⟩ := qx_m400
  rcases qREL_cmp hR with ⟨b1, b2, b3, b4⟩ | ⟨b1, b2, n, r, q, f, mt, s1, s2, s3, s4, st, rt, sp, bm, ou, inn, qb, e, as, qa, bs, lk, nr, fr, wy, hp, hn1, hT, hou, hinn, he14, hst4, hu, ⟨a1, a2, a3, a4⟩, hS, hm, ⟨v1, v2, v3, v4⟩, h35, hN⟩
  · refine qPairG_of hT0 hR 1 0 (by decide) ?_ ?_
    · rw [if_neg (by decide)]
      simp only [s135_0, s135_1, qx_m10, a159t b1, List.length_cons, List.length_nil, Nat.zero_le, Nat.reduceAdd, Nat.reduceLeDiff, Option.bind_some, qx_kn_v, qx_kn_n, Nat.add_zero, Bool.false_eq_true, ↓reduceIte]
      exact qx_kn_t rfl rfl rfl
    · intro o
      refine ⟨nI 0, ?_, fun h => absurd h (by decide)⟩
      have h1 := fun (d : Nat) => b263a (L := L) (xs := xs) (d := d) (x := 0) (M := (M.1, o)) b2
      simp only [s305_0, s305_1, s305_4, s305_7, s305_8, k1, h1, qbt, qbf, qi_z0, true_or, List.length_cons, List.length_nil, Nat.zero_le, Nat.reduceAdd, Nat.reduceLeDiff, Option.bind_some, qx_kn_v, qx_kn_n, Nat.add_zero, Bool.false_eq_true, ↓reduceIte]
  · have hn14 : n ≤ 14 := hp.1
    have hn0 : M.1 101 0 = nI n := hu.1
    have hneed := fun (d x : Nat) => a159 (L := L) (xs := xs) (d := d) (x := x) b1
    have hmay := fun (o : (Nat → Int64) × (Nat → UInt64)) (d : Nat) => b263c (L := L) (xs := xs) (d := d) (x := 0) (M := (M.1, o)) b2
    have hZ : qx_Z 104 := qx_T100.2.2
    have hP : qx_P 101 := qx_T100.2.1
    have hst0 : M.1 104 0 = nI st := hS.1.1
    have hpos := Nat.two_pow_pos n
    have h16 := n14 hn14
    have hall : 2 ^ n - 1 < 16384 := by omega
    refine qPairG_mem hR (nI 0) (M1 := M) ?_ (qf_refl _ _) ⟨hT0.choose, hT0.choose_spec.choose, hT0.choose_spec.choose_spec.1, by have := hT0.choose_spec.choose_spec.2.1; omega, hT0.choose_spec.choose_spec.2.2⟩ (fun o => ?_)
    · simp only [s135_0, s135_1, s135_4, s135_5, qx_m10, hneed, List.length_cons, List.length_nil, Nat.zero_le, Nat.reduceAdd, Nat.reduceLeDiff, Option.bind_some, qx_kn_v, qx_kn_n, Nat.add_zero, Bool.false_eq_true, ↓reduceIte]
    · have hu2 := nPu_F hm (qf_refl qFm M) o (nI 0)
      have h263 := fun d => mo263 (L := L) (xs := xs) b2 (qf_refl qFm M) o d
      have stp : ∀ M' : qxM, qf qTb (qx_up (M.1, o) 400 0 (nI 0)) M' → nPu M' n r q f mt := fun M' f3 => by
        unfold nPu nMt
        rw [f3.1 401 (by unfold qTb; omega)]
        exact hu2
      obtain ⟨M1, g1, f1⟩ := g303 (L := L) (xs := xs) (d := d + 34) (x := 0) (r1 := 0) hp hu2 (by decide)
      obtain ⟨M2, g2, f2⟩ := g303 (L := L) (xs := xs) (d := d + 34) (x := 0) (r1 := 1) hp (stp M1 f1) (by decide)
      obtain ⟨M3, g3, f3⟩ := g303 (L := L) (xs := xs) (d := d + 34) (x := 0) (r1 := 2) hp (stp M2 (qf_trans f1 f2)) (by decide)
      have l1 := qal_more hp (show 1 ≤ 2 by decide) _ hall
      have l2 := qal_more hp (show 2 ≤ 2 by decide) _ hall
      have h07 := F_7 (al := qal 0 q f) hall
      have e1 : (nI (mF (qal 0 q f) (2 ^ n - 1)) < nI (mF (qal 1 q f) (2 ^ n - 1))) = False := by
        rw [qi_lt (by omega) (by omega)]
        exact eq_false (by omega)
      have e2 : (nI (mF (qal 0 q f) (2 ^ n - 1)) < nI (mF (qal 2 q f) (2 ^ n - 1))) = False := by
        rw [qi_lt (by omega) (by omega)]
        exact eq_false (by omega)
      have h302 : ∀ (M' : qxM) (d k : Nat), k < 3 → Rs L xs (d + 1) 302 0 [some (.int (nI k))] [] M' 0 = some (.inl (some (.int (bI true))), M', 0) := by
        intro M' d k hk
        have h := a178k (L := L) (xs := xs) (d := d) (x := 0) (M := M') (k := 2) (by decide) (nI k)
        rw [decide_eq_false (qOut_in (by decide) hk)] at h
        simp only [s302_0, s302_1, s302_2, s302_3, s302_6, h, Bool.not_false, bI_z, List.length_cons, List.length_nil, Nat.zero_le, Nat.reduceAdd, Nat.reduceLeDiff, Option.bind_some, qx_kn_v, qx_kn_n, Nat.add_zero, Bool.false_eq_true, ↓reduceIte]
      have h302n : ∀ (M' : qxM) (d : Nat), Rs L xs (d + 1) 302 0 [some (.int (nI 3))] [] M' 0 = some (.inl (some (.int (bI false))), M', 0) := by
        intro M' d
        have h := a178k (L := L) (xs := xs) (d := d) (x := 0) (M := M') (k := 2) (by decide) (nI 3)
        rw [decide_eq_true (show qOut (2 + 1) (nI 3) from Or.inr (Int32.le_refl _))] at h
        simp only [s302_0, s302_1, s302_2, s302_3, s302_6, h, Bool.not_true, bI_z, List.length_cons, List.length_nil, Nat.zero_le, Nat.reduceAdd, Nat.reduceLeDiff, Option.bind_some, qx_kn_v, qx_kn_n, Nat.add_zero, Bool.false_eq_true, ↓reduceIte]
      have i12 : nI 1 + nI 1 = nI 2 := by decide
      have i23 : nI 2 + nI 1 = nI 3 := by decide
      refine ⟨M3, ?_, qf_trans f1 (qf_trans f2 f3)⟩
      simp only [s305_0, s305_1, s305_4, s305_7, s305_8, s305_9, s305_10i, s305_10r, s305_10n, s305_11, s305_12, s305_13, s305_16i, s305_16r, s305_16n, s305_17, s305_18i, s305_18r, s305_18n, s305_19, s305_20, s305_23, s305_26, s305_27, s305_28, s305_31i, s305_31r, s305_31n, s305_33, s305_35, s305_36, s305_39, s305_42, s305_43i, s305_43r, s305_43n, s305_44, s305_46i, s305_46r, s305_46n, s305_47i, s305_47r, s305_47n, s305_50, k1, h263, qbt, g1, h302 _ _ 1 (by decide), g2, e1, i12, List.length_cons, List.length_nil, Nat.zero_le, Nat.reduceAdd, Nat.reduceLeDiff, Option.bind_some, qx_kn_v, qx_kn_n, Nat.add_zero, Bool.false_eq_true, ↓reduceIte]
      simp only [s305_0, s305_1, s305_4, s305_7, s305_8, s305_9, s305_10i, s305_10r, s305_10n, s305_11, s305_12, s305_13, s305_16i, s305_16r, s305_16n, s305_17, s305_18i, s305_18r, s305_18n, s305_19, s305_20, s305_23, s305_26, s305_27, s305_28, s305_31i, s305_31r, s305_31n, s305_33, s305_35, s305_36, s305_39, s305_42, s305_43i, s305_43r, s305_43n, s305_44, s305_46i, s305_46r, s305_46n, s305_47i, s305_47r, s305_47n, s305_50, k1, qbt, h302 _ _ 2 (by decide), g3, e2, i23, List.length_cons, List.length_nil, Nat.zero_le, Nat.reduceAdd, Nat.reduceLeDiff, Option.bind_some, qx_kn_v, qx_kn_n, Nat.add_zero, Bool.false_eq_true, ↓reduceIte]
      simp only [s305_0, s305_1, s305_4, s305_7, s305_8, s305_9, s305_10i, s305_10r, s305_10n, s305_11, s305_12, s305_13, s305_16i, s305_16r, s305_16n, s305_17, s305_18i, s305_18r, s305_18n, s305_19, s305_20, s305_23, s305_26, s305_27, s305_28, s305_31i, s305_31r, s305_31n, s305_33, s305_35, s305_36, s305_39, s305_42, s305_43i, s305_43r, s305_43n, s305_44, s305_46i, s305_46r, s305_46n, s305_47i, s305_47r, s305_47n, s305_50, s305_53, s305_54, k1, h302n, qbf, List.length_cons, List.length_nil, Nat.zero_le, Nat.reduceAdd, Nat.reduceLeDiff, Option.bind_some, qx_kn_v, qx_kn_n, Nat.add_zero, Bool.false_eq_true, ↓reduceIte]
end QL
