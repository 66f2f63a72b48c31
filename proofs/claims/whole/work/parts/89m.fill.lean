/-! fill. -/
section QL
variable {n r q : Nat} {f : Nat → Nat}
theorem gFill {mS : Nat → Nat} : ∀ (k i : Nat) (mt : Nat → Nat) (s1 s2 s3 s4 : Int32) (g : qSg), i + k = n → gG ((n, r, q), f, mt, (s1, s2, s3, s4), g) → (∀ j, mS j < 14 → mt j < 14) →
    ∃ mt' s1' s2' s3' g', gG ((n, r, q), f, mt', (s1', s2', s3', s4), g') ∧
      (∀ (L : Nat) (xs : Nat → Int32) (d x : Nat) (M : qxM), cT 100 M ((n, r, q), f, mt, (s1, s2, s3, s4), g) → ∃ M', Rs L xs (d + 6) 148 10 [some (.ref 10), some (.int (nI i))] [] M x = Rs L xs (d + 6) 148 63 [some (.ref 10), some (.int (nI n))] [] M' x ∧ cT 100 M' ((n, r, q), f, mt', (s1', s2', s3', s4), g') ∧ qf (qTf 100) M M') ∧
      (∀ (L : Nat) (xs : Nat → Int32) (d x : Nat) (M : qxM) (a3 : Option Value), nPu M n r q f mt → M.1 401 3 = s1 → M.1 401 4 = s2 → M.1 401 5 = s3 →
        ∃ M' b3, Rs L xs (d + 7) 323 20 [some (.ref 400), some (.int (nI (qb_of (fun p => !decide (mS p < 14)) n))), some (.int (nI i)), a3] [] M x = Rs L xs (d + 7) 323 66 [some (.ref 400), some (.int (nI (qb_of (fun p => !decide (mS p < 14)) n))), some (.int (nI n)), b3] [] M' x ∧
          nPu M' n r q f mt' ∧ (M'.1 401 3 = s1' ∧ M'.1 401 4 = s2' ∧ M'.1 401 5 = s3') ∧ mf (fun j => 3 ≤ j ∧ j ≤ 5 ∨ 21 ≤ j) M M') := by
  obtain ⟨k1, k2, k3⟩ := qx_m400
  have hZ : qx_Z 104 := qx_T100.2.2
  have hP : qx_P 101 := qx_T100.2.1
  intro k
  induction k with
  | zero =>
    intro i mt s1 s2 s3 s4 g hi hG hk
    have h1 : (nI n ≤ nI i) = True := by rw [show i = n by omega]; exact eq_true (Int32.le_refl _)
    refine ⟨mt, s1, s2, s3, g, hG, ?_, ?_⟩
    · intro L xs d x M hc
      have hn : M.1 101 0 = nI n := hc.1.1
      refine ⟨M, ?_, hc, qf_refl _ _⟩
      rw [show i = n by omega] at h1 ⊢
      simp only [s148_10, s148_11, s148_12, s148_15, s148_18, s148_21, qx_m10, qx_T100.1, hP.1, hn, h1, ↓reduceIte]
    · intro L xs d x M a3 hu e1 e2 e3
      have hn : M.1 401 0 = nI n := hu.1
      refine ⟨M, a3, ?_, hu, ⟨e1, e2, e3⟩, mf_refl _ _⟩
      rw [show i = n by omega] at h1 ⊢
      simp only [s323_20, s323_21, s323_22, s323_25, s323_26, s323_27, k1, k2, k3, hn, h1, (qn_c (0) (by omega)).1, (qn_c (0) (by omega)).2, ↓reduceIte]
  | succ k ih =>
    intro i mt s1 s2 s3 s4 g hi hG hkp
    have hp : qp_ok n r q f mt := hG.1
    have hn14 := hp.1
    have hi14 : i < 14 := by omega
    have h1 : ¬ nI n ≤ nI i := nI_ge (by omega) (by omega)
    have hfs : qb_of (fun p => !decide (mS p < 14)) n < 2 ^ 31 := by
      have := qb_of_lt14 (fun p => !decide (mS p < 14)) hn14
      omega
    have hbit : (qb_of (fun p => !decide (mS p < 14)) n).testBit i = !decide (mS i < 14) := by
      rw [qb_of_bit, decide_eq_true (show i < n by omega), Bool.true_and]
    by_cases z : mt i < 14
    · obtain ⟨mt', s1', s2', s3', g', hG', hC, hM⟩ := ih (i + 1) mt s1 s2 s3 s4 g (by omega) hG hkp
      refine ⟨mt', s1', s2', s3', g', hG', ?_, ?_⟩
      · intro L xs d x M hc
        have hn : M.1 101 0 = nI n := hc.1.1
        obtain ⟨M', g1, c1, f1⟩ := hC L xs d x M hc
        refine ⟨M', ?_, c1, f1⟩
        have hk := m47 (L := L) (xs := xs) (d := d + 4) (x := 0) (M := M) hP hi14
        rw [m47_d hc.1.2.2.2.2 hi14, decide_eq_true z] at hk
        simp only [s148_10, s148_11, s148_12, s148_15, s148_18, s148_21, s148_24, s148_25, s148_28, s148_31, s148_32, s148_35, s148_38, s148_39, s148_42, s148_45, s148_46, s148_49, s148_50, s148_53, s148_56, s148_57i, s148_57r, s148_57n, qx_m10, qx_T100.1, hP.1, hn, h1, hk, Bool.not_true, qbf, nI_add, List.length_cons, List.length_nil, Nat.zero_le, Nat.reduceAdd, Nat.reduceLeDiff, Option.bind_some, qx_kn_v, qx_kn_n, Nat.add_zero, Bool.false_eq_true, ↓reduceIte]
        rw [s148_60, g1]
      · intro L xs d x M a3 hu e1 e2 e3
        have hn : M.1 401 0 = nI n := hu.1
        obtain ⟨M', b3, g1, c1, c2, f1⟩ := hM L xs d x M a3 hu e1 e2 e3
        refine ⟨M', b3, ?_, c1, c2, f1⟩
        have hmp : M.1 401 (21 + i) = nI (mt i) := by rw [hu.2.2.2.2 i hi14, qz_lt z]
        cases y : decide (mS i < 14)
        · simp only [s323_20, s323_21, s323_22, s323_25, s323_26, s323_27, s323_30, s323_31, s323_32, s323_35, s323_38, s323_39, s323_40, s323_43, s323_44, s323_47, s323_50, s323_51, s323_52, s323_55, s323_56, s323_59i, s323_59r, s323_59n, s323_60i, s323_60r, s323_60n, k1, k2, k3, hn, h1, m208 hfs (show i < 31 by omega), hbit, y, Bool.not_false, qbt, m213 hi14, hmp, qi_n1 (show mt i < 2 ^ 31 by omega), nI_add, (qn_c (0) (by omega)).1, (qn_c (0) (by omega)).2, List.length_cons, List.length_nil, Nat.zero_le, Nat.reduceAdd, Nat.reduceLeDiff, Option.bind_some, qx_kn_v, qx_kn_n, Nat.add_zero, Bool.false_eq_true, ↓reduceIte]
          rw [s323_63, g1]
        · simp only [s323_20, s323_21, s323_22, s323_25, s323_26, s323_27, s323_30, s323_31, s323_32, s323_35, s323_38, s323_39, s323_40, s323_43, s323_44, s323_47, s323_50, s323_51, s323_52, s323_55, s323_56, s323_59i, s323_59r, s323_59n, s323_60i, s323_60r, s323_60n, k1, k2, k3, hn, h1, m208 hfs (show i < 31 by omega), hbit, y, Bool.not_true, qbf, nI_add, (qn_c (0) (by omega)).1, (qn_c (0) (by omega)).2, List.length_cons, List.length_nil, Nat.zero_le, Nat.reduceAdd, Nat.reduceLeDiff, Option.bind_some, qx_kn_v, qx_kn_n, Nat.add_zero, Bool.false_eq_true, ↓reduceIte]
          rw [s323_63, g1]
    · have hmS : ¬ mS i < 14 := fun y => z (hkp i y)
      rw [decide_eq_false hmS, Bool.not_false] at hbit
      have hgt := gT_beg (qa := g.2.2.1) hp (show i < n by omega) z
      obtain ⟨c, mt1, g1, c0, c1, c2, c3, c4, c5, c6, c7, c8, c9⟩ := q_runsk (gmu (gBeg i g.2.2.1) + 1) mt (gBeg i g.2.2.1) (Nat.lt_succ_self _) hp hgt rfl
      have hmu : gmu (gBeg i g.2.2.1) ≤ 224 := by unfold gmu gBeg; dsimp only; omega
      have hp1 := qp_wm hp c2
      have hG1 := gG_T (s := (s1 + nI (if g1.1.1 = 2 then 1 else 0), s2 + nI (if g1.1.1 = 3 then 1 else 0), s3 + nI (g1.1.2.2.2 - (gBeg i g.2.2.1).1.2.2.2), s4)) hp1 c3
      obtain ⟨mt', s1', s2', s3', g', hG', hC, hM⟩ := ih (i + 1) mt1 _ _ _ s4 g1 (by omega) hG1 (fun j hj => c0 j (hkp j hj))
      refine ⟨mt', s1', s2', s3', g', hG', ?_, ?_⟩
      · intro L xs d x M hc
        have hn : M.1 101 0 = nI n := hc.1.1
        obtain ⟨Mb, gb, cTb, fb⟩ := g53 (L := L) (xs := xs) (d := d + 2) (x := 0) (t := 104) (p := i) (M := M) (qa := g.2.2.1) hZ hi14
        have fb' : qf (qTf 100) M Mb := qf_mono fb (fun a ha => by unfold qSf at ha; unfold qTf; omega)
        have hua := qPu_step (t := 0) hc.1 fb (qMt_fr hc.1.2.2.2.2 fb (by unfold qSf; omega)) (by unfold qSf; omega) (by unfold qSf; omega)
        have hcT2 : cT 100 Mb ((n, r, q), f, mt, (s1, s2, s3, s4), gBeg i g.2.2.1) := ⟨hua, by rw [fb.1 100 (by unfold qSf; omega)]; exact hc.2.1, cTb⟩
        obtain ⟨Mc, gc, cTc, fc⟩ := g77 (L := L) (xs := xs) (d := d) (x := 0) qx_T100 hcT2 (show c < 1000 by omega) c7 c6 (gT_b c3).2.2.2.1 c9
        obtain ⟨M', gd, cd, fd⟩ := hC L xs d x Mc cTc
        refine ⟨M', ?_, cd, qf_trans fb' (qf_trans fc fd)⟩
        have hk := m47 (L := L) (xs := xs) (d := d + 4) (x := 0) (M := M) hP hi14
        rw [m47_d hc.1.2.2.2.2 hi14, decide_eq_false z] at hk
        simp only [s148_10, s148_11, s148_12, s148_15, s148_18, s148_21, s148_24, s148_25, s148_28, s148_31, s148_32, s148_35, s148_38, s148_39, s148_42, s148_45, s148_46, s148_49, s148_50, s148_53, s148_56, s148_57i, s148_57r, s148_57n, qx_m10, qx_T100.1, hP.1, hZ.1, hn, h1, hk, Bool.not_false, qbt, gb, gc, nI_add, List.length_cons, List.length_nil, Nat.zero_le, Nat.reduceAdd, Nat.reduceLeDiff, Option.bind_some, qx_kn_v, qx_kn_n, Nat.add_zero, Bool.false_eq_true, ↓reduceIte]
        rw [s148_60, gd]
      · intro L xs d x M a3 hu e1 e2 e3
        have hn : M.1 401 0 = nI n := hu.1
        have hmp : M.1 401 (21 + i) = -1 := by rw [hu.2.2.2.2 i hi14, qz_ge z]
        obtain ⟨M2, g2, w2, f2⟩ := g238 (L := L) (xs := xs) (d := d + 5) (x := 0) (M := M) g.2.2.1 hi14
        have h2 := nPu_step hu f2 (nMt_fr hu.2.2.2.2 f2 (by omega)) (by omega)
        obtain ⟨M3, y2, gd, dS, dM, df, d3, d4, d5⟩ := c9.2 L xs d 0 M2 0 none h2 w2
        rw [Nat.zero_add] at gd
        have hrun : Rs L xs (d + 6) 251 0 [some (.ref 400), none, none] [] M2 0 = some (.inl (some (.int (nI c))), M3, 0) := by
          simp only [s251_0, s251_1i, s251_1r, s251_1n]
          rw [gd]
          simp only [s251_20, s251_21]
        have f23 := mf_trans (mf_mono f2 (fun j hj => show 3 ≤ j ∧ j ≤ 5 ∨ 21 ≤ j by omega)) df
        have h3 := nPu_step h2 df dM (by omega)
        obtain ⟨M', b3, g4, c1, c2, f4⟩ := hM L xs d x M3 (some (.int (nI c))) h3 (by rw [d3, f2.2 3 (by omega), e1]) (by rw [d4, f2.2 4 (by omega), e2]) (by rw [d5, f2.2 5 (by omega), e3])
        refine ⟨M', b3, ?_, c1, c2, mf_trans f23 f4⟩
        simp only [s323_20, s323_21, s323_22, s323_25, s323_26, s323_27, s323_30, s323_31, s323_32, s323_35, s323_38, s323_39, s323_40, s323_43, s323_44, s323_47, s323_50, s323_51, s323_52, s323_55, s323_56, s323_59i, s323_59r, s323_59n, s323_60i, s323_60r, s323_60n, k1, k2, k3, hn, h1, m208 hfs (show i < 31 by omega), hbit, qbt, m213 hi14, hmp, eq_self, g2, hrun, nI_add, (qn_c (0) (by omega)).1, (qn_c (0) (by omega)).2, List.length_cons, List.length_nil, Nat.zero_le, Nat.reduceAdd, Nat.reduceLeDiff, Option.bind_some, qx_kn_v, qx_kn_n, Nat.add_zero, Bool.false_eq_true, ↓reduceIte]
        rw [s323_63, g4]
end QL
section QL
variable {L : Nat} {xs : Nat → Int32} {d x : Nat}
theorem j148 {M : qxM} (hR : qREL M) : qPair L xs (d + 40) 148 [some (.ref 10), none] 323 [some (.ref 400), none, none, none] ke0 M := by
  obtain ⟨k1, k2, k3⟩ := qx_m400
  rcases qREL_cmp hR with ⟨b1, b2, b3, b4⟩ | ⟨b1, b2, n, r, q, f, mt, s1, s2, s3, s4, st, rt, sp, bm, ou, inn, qb, e, as, qa, bs, lk, nr, fr, wy, hp, hn1, hT, hou, hinn, he14, hst4, hu, ⟨a1, a2, a3, a4⟩, hS, hm, ⟨m1, m2, m3, m4⟩, h35, hN⟩
  · refine qPair_of hR 1 0 (by decide) ?_ ?_
    · rw [if_neg (by decide)]
      simp only [s148_0, s148_1, qx_m10, a159t b1, List.length_cons, List.length_nil, Nat.zero_le, Nat.reduceAdd, Nat.reduceLeDiff, Option.bind_some, qx_kn_v, qx_kn_n, Nat.add_zero, Bool.false_eq_true, ↓reduceIte]
      exact qx_kn_t rfl rfl rfl
    · intro o
      refine ⟨nI 0, ?_, fun h => absurd h (by decide)⟩
      have h1 := fun (d : Nat) => b263a (L := L) (xs := xs) (d := d) (x := 0) (M := (M.1, o)) b2
      simp only [s323_0, s323_1, s323_4, s323_7, s323_8, k1, h1, qbt, qbf, qi_z0, true_or, List.length_cons, List.length_nil, Nat.zero_le, Nat.reduceAdd, Nat.reduceLeDiff, Option.bind_some, qx_kn_v, qx_kn_n, Nat.add_zero, Bool.false_eq_true, ↓reduceIte]
  · have hn14 : n ≤ 14 := hp.1
    have hn0 : M.1 101 0 = nI n := hu.1
    have hneed := fun (d x : Nat) => a159 (L := L) (xs := xs) (d := d) (x := x) b1
    have hmay := fun (o : (Nat → Int64) × (Nat → UInt64)) (d : Nat) => b263c (L := L) (xs := xs) (d := d) (x := 0) (M := (M.1, o)) b2
    have hZ : qx_Z 104 := qx_T100.2.2
    have hP : qx_P 101 := qx_T100.2.1
    have hst0 : M.1 104 0 = nI st := hS.1.1
    obtain ⟨c, E, hc8, hE8, hE, hc, hc7⟩ := qREL_ring hR
    have hcT : cT 100 M ((n, r, q), f, mt, (s1, s2, s3, s4), ((st, rt, sp, bm), (ou, inn, qb, e, as), qa, bs, lk, nr, fr, wy)) := ⟨hu, ⟨a1, a2, a3, a4⟩, hS⟩
    have hmT : mT M ((n, r, q), f, mt, (s1, s2, s3, s4), ((st, rt, sp, bm), (ou, inn, qb, e, as), qa, bs, lk, nr, fr, wy)) := ⟨hm, ⟨m1, m2, m3, m4⟩, h35, hN⟩
    have hG : gG ((n, r, q), f, mt, (s1, s2, s3, s4), ((st, rt, sp, bm), (ou, inn, qb, e, as), qa, bs, lk, nr, fr, wy)) := ⟨hp, hT, ⟨hou, hinn, he14⟩, hst4⟩
    obtain ⟨mt', s1', s2', s3', g', hG', hC, hM⟩ := gFill (mS := mt) n 0 mt s1 s2 s3 s4 _ (by omega) hG (fun _ h => h)
    obtain ⟨Ma, ga, kC1, cTa⟩ := kC_of (L := L) (xs := xs) (d := d + 35) (x := 0) hE hE8 hc hc8 hcT he14
    obtain ⟨Mb, gb, cTb, fb⟩ := hC L xs (d + 34) 0 Ma cTa
    obtain ⟨Mc, gc, cTc, fc⟩ := zEnd (L := L) (xs := xs) (d := d + 39) (x := 0) cTb
    have kC2 := kC_fr hE8 kC1 (qf_trans fb fc)
    obtain ⟨e401, e400⟩ := kC_401 hE8 kC2
    refine qPair_chg (M1 := Mc) hR hE8 hc8 hE hc b1 hmT hG hn1 (nI (qm_np n mt')) ?_ kC2 cTc ?_ (gG_end hG' hG'.1) hn1
    · simp only [s148_0, s148_1, s148_4, s148_5, s148_8, s148_9i, s148_9r, s148_9n, qx_m10, hneed, ga, List.length_cons, List.length_nil, Nat.zero_le, Nat.reduceAdd, Nat.reduceLeDiff, Option.bind_some, qx_kn_v, qx_kn_n, Nat.add_zero, Bool.false_eq_true, ↓reduceIte]
      rw [gb]
      simp only [s148_63, s148_64, s148_67, s148_70, s148_73, s148_74, s148_77, s148_80, s148_83, qx_m10, qx_T100.1, hZ.1, hP.1, gc, g48 (L := L) (xs := xs) (d := d + 37) (x := 0) hP hn14 cTc.1.1 cTc.1.2.2.2.2, List.length_cons, List.length_nil, Nat.zero_le, Nat.reduceAdd, Nat.reduceLeDiff, Option.bind_some, qx_kn_v, qx_kn_n, Nat.add_zero, Bool.false_eq_true, ↓reduceIte]
    · intro o
      have h6 : Mc.1 400 6 = bI true := by rw [e400, b2]
      have h263 := fun d => b263c (L := L) (xs := xs) (d := d) (x := 0) (M := (Mc.1, o)) h6
      obtain ⟨Md, gd, kM1, w401, wo⟩ := kM_of (L := L) (xs := xs) (d := d + 38) (x := 0) (M := (Mc.1, o)) (c := c) (by show Mc.1 400 7 = nI c; rw [e400, hc7]) hc8
      have hmd := mT_cong (M' := Md) hG hmT (fun k _ => by rw [w401 k]; show Mc.1 401 k = _; rw [e401])
      have h223 := g223 (L := L) (xs := xs) (d := d + 38) (x := 0) hn14 hmd.1.1 hmd.1.2.2.2.2
      obtain ⟨Me, b3, ge, he1, ⟨he2, he3, he4⟩, fe⟩ := hM L xs (d + 33) 0 Md none hmd.1 hmd.2.1.1 hmd.2.1.2.1 hmd.2.1.2.2.1
      have ff : mf (fun j => j = 35) Me (qx_up Me 401 35 (nI 0)) := mf_up _ _ _ rfl
      have hnf := nPu_step he1 ff (nMt_fr he1.2.2.2.2 ff (by omega)) (by omega)
      refine ⟨qx_up Me 401 35 (nI 0), ?_, ?_, kM_fr (kM_fr kM1 fe.1) ff.1, mT_fin hnf ?_ ?_ ?_ ?_ ?_⟩
      · simp only [s323_0, s323_1, s323_4, s323_7, s323_8, s323_9, s323_10, s323_13, s323_14, s323_17i, s323_17r, s323_17n, s323_18, s323_19i, s323_19r, s323_19n, k1, h263, qbt, gd, h223, List.length_cons, List.length_nil, Nat.zero_le, Nat.reduceAdd, Nat.reduceLeDiff, Option.bind_some, qx_kn_v, qx_kn_n, Nat.add_zero, Bool.false_eq_true, ↓reduceIte]
        rw [ge]
        simp only [s323_66, s323_67, s323_70, s323_71, s323_74, k1, g239, g224 (L := L) (xs := xs) (d := d + 37) (x := 0) hn14 hnf.1 hnf.2.2.2.2, List.length_cons, List.length_nil, Nat.zero_le, Nat.reduceAdd, Nat.reduceLeDiff, Option.bind_some, qx_kn_v, qx_kn_n, Nat.add_zero, Bool.false_eq_true, ↓reduceIte]
      · rw [ff.1.2, fe.1.2, wo]
      · rw [ff.2 3 (by omega), he2]
      · rw [ff.2 4 (by omega), he3]
      · rw [ff.2 5 (by omega), he4]
      · rw [ff.2 6 (by omega), fe.2 6 (by omega), hmd.2.1.2.2.2]
      · simp [qx_up_at]
end QL
