/-! Changes: part, setRule. -/
theorem mT_fin {M : qxM} {n r q : Nat} {f mt : Nat → Nat} {s1 s2 s3 s4 : Int32} {g : qSg} (hu : nPu M n r q f mt) (h3 : M.1 401 3 = s1) (h4 : M.1 401 4 = s2) (h5 : M.1 401 5 = s3) (h6 : M.1 401 6 = s4) (h35 : M.1 401 35 = nI 0) : mT M ((n, r, q), f, mt, (s1, s2, s3, s4), gEnd g) :=
  ⟨hu, ⟨h3, h4, h5, h6⟩, h35, fun h => absurd rfl h⟩
theorem nPu_cp {M M' : qxM} {n r q : Nat} {f mt : Nat → Nat} (h : nPu M n r q f mt) (he : ∀ k, k < 35 → M'.1 401 k = M.1 401 k) : nPu M' n r q f mt := by
  obtain ⟨u0, u1, u2, u3, u4⟩ := h
  exact ⟨by rw [he 0 (by decide), u0], by rw [he 1 (by decide), u1], by rw [he 2 (by decide), u2], fun p hp => by rw [he _ (by omega), u3 p hp], fun p hp => by rw [he _ (by omega), u4 p hp]⟩
theorem cT_sum {M : qxM} {n r q : Nat} {f mt : Nat → Nat} {s1 s2 s3 s4 v : Int32} {g : qSg} (h : cT 100 M ((n, r, q), f, mt, (s1, s2, s3, s4), g)) : cT 100 (qx_up M 100 5 v) ((n, r, q), f, mt, (s1, s2, s3, v), g) := by
  have hf : qf (fun a => a = 100) M (qx_up M 100 5 v) := qf_up _ _ _ _ rfl
  obtain ⟨h1, ⟨a1, a2, a3, a4⟩, h3⟩ := h
  refine ⟨qPu_step (t := 0) h1 hf (qMt_fr h1.2.2.2.2 hf (by decide)) (by decide) (by decide), ⟨?_, ?_, ?_, ?_⟩, qS_fr h3 hf (by omega)⟩
  · rw [qx_up_at, if_neg (by omega), a1]
  · rw [qx_up_at, if_neg (by omega), a2]
  · rw [qx_up_at, if_neg (by omega), a3]
  · rw [qx_up_at, if_pos ⟨rfl, rfl⟩]
section QL
variable {L : Nat} {xs : Nat → Int32} {d x : Nat} {M : qxM}
theorem j150 {M : qxM} (hR : qREL M) (z : Int32) : qPair L xs (d + 40) 150 [some (.ref 10), some (.int z), none] 326 [some (.ref 400), some (.int z), none, none] ke021 M := by
  obtain ⟨k1, k2, k3⟩ := qx_m400
  rcases qREL_cmp hR with ⟨b1, b2, b3, b4⟩ | ⟨b1, b2, n, r, q, f, mt, s1, s2, s3, s4, st, rt, sp, bm, ou, inn, qb, e, as, qa, bs, lk, nr, fr, wy, hp, hn1, hT, hou, hinn, he14, hst4, hu, ⟨a1, a2, a3, a4⟩, hS, hm, ⟨m1, m2, m3, m4⟩, h35, hN⟩
  · refine qPair_of hR 1 0 (by decide) ?_ ?_
    · rw [if_neg (by decide)]
      simp only [s150_0, s150_1, s150_2, qx_m10, a160t b1, List.length_cons, List.length_nil, Nat.zero_le, Nat.reduceAdd, Nat.reduceLeDiff, Option.bind_some, qx_kn_v, qx_kn_n, Nat.add_zero, Bool.false_eq_true, ↓reduceIte]
      exact qx_kn_t rfl rfl rfl
    · intro o
      refine ⟨nI 0, ?_, fun h => absurd h (by decide)⟩
      simp only [s326_0, s326_1, s326_4, s326_7, s326_8, s326_9, s326_12, s326_15, s326_16, s326_19, s326_20i, s326_20r, s326_20n, s326_21, s326_22, s326_23, s326_26, s326_27, s326_28, s326_31, s326_32, s326_33, s326_36, s326_37, s326_40, s326_41, s326_44, s326_45, s326_48, s326_51, s326_52, k1, b2, qbf, z180a, qi_z0, true_or, List.length_cons, List.length_nil, Nat.zero_le, Nat.reduceAdd, Nat.reduceLeDiff, Option.bind_some, qx_kn_v, qx_kn_n, Nat.add_zero, Bool.false_eq_true, ↓reduceIte]
  · have hn14 : n ≤ 14 := hp.1
    have hn0 : M.1 101 0 = nI n := hu.1
    have hZ : qx_Z 104 := qx_T100.2.2
    have hP : qx_P 101 := qx_T100.2.1
    have hst0 : M.1 104 0 = nI st := hS.1.1
    have hpu0 := fun (o : (Nat → Int64) × (Nat → UInt64)) (d : Nat) (w : Int32) => a211 (L := L) (xs := xs) (d := d) (x := 0) (M := (M.1, o)) hm.1 hn14 w
    by_cases hz : qOut n z
    · refine qPair_of hR 2 0 (by decide) ?_ ?_
      · rw [if_neg (by decide)]
        simp only [s150_0, s150_1, s150_2, qx_m10, a160o b1 hn0 hz, List.length_cons, List.length_nil, Nat.zero_le, Nat.reduceAdd, Nat.reduceLeDiff, Option.bind_some, qx_kn_v, qx_kn_n, Nat.add_zero, Bool.false_eq_true, ↓reduceIte]
        exact qx_kn_t rfl rfl rfl
      · intro o
        refine ⟨nI 0, ?_, fun h => absurd h (by decide)⟩
        have h1 := fun d => hpu0 o d z
        rw [decide_eq_true hz] at h1
        simp only [s326_0, s326_1, s326_4, s326_7, s326_8, s326_9, s326_12, s326_15, s326_16, s326_19, s326_20i, s326_20r, s326_20n, s326_21, s326_22, s326_23, s326_26, s326_27, s326_28, s326_31, s326_32, s326_33, s326_36, s326_37, s326_40, s326_41, s326_44, s326_45, s326_48, s326_51, s326_52, k1, b2, h1, Bool.not_true, qbt, qbf, z180b, qi_z0, true_or, List.length_cons, List.length_nil, Nat.zero_le, Nat.reduceAdd, Nat.reduceLeDiff, Option.bind_some, qx_kn_v, qx_kn_n, Nat.add_zero, Bool.false_eq_true, ↓reduceIte]
    obtain ⟨p, p1, p2⟩ := qOut_not (by omega) hz
    subst p2
    have hp14 : p < 14 := by omega
    have hneed := fun (d x : Nat) => a160 (L := L) (xs := xs) (d := d) (x := x) b1 hn0 hn14 p1
    have hpu := fun (o : (Nat → Int64) × (Nat → UInt64)) (d : Nat) => show Rs L xs (d + 1) 211 0 [some (.ref 400), some (.int (nI p))] [] (M.1, o) 0 = some (.inl (some (.int (bI true))), (M.1, o), 0) by
      have h := hpu0 o d (nI p)
      rw [decide_eq_false hz] at h
      exact h
    have hk := fun d x => m47 (L := L) (xs := xs) (d := d) (x := x) (M := M) hP hp14
    simp only [m47_d hu.2.2.2.2 hp14] at hk
    have hmp : M.1 401 (21 + p) = qz (mt p) := hm.2.2.2.2 p hp14
    by_cases hf : mt p < 14
    · simp only [decide_eq_true hf] at hk
      have hmok := qm_unjoin hn14 hp.2.2.2.2.2 hp14 hf
      have hp2 := qp_wm hp hmok
      have hn1' := qi_n1 (show mt p < 2 ^ 31 by omega)
      rw [qz_lt hf] at hmp
      obtain ⟨c, E, hc8, hE8, hE, hc, hc7⟩ := qREL_ring hR
      have hcT : cT 100 M ((n, r, q), f, mt, (s1, s2, s3, s4), ((st, rt, sp, bm), (ou, inn, qb, e, as), qa, bs, lk, nr, fr, wy)) := ⟨hu, ⟨a1, a2, a3, a4⟩, hS⟩
      have hmT : mT M ((n, r, q), f, mt, (s1, s2, s3, s4), ((st, rt, sp, bm), (ou, inn, qb, e, as), qa, bs, lk, nr, fr, wy)) := ⟨hm, ⟨m1, m2, m3, m4⟩, h35, hN⟩
      have hG : gG ((n, r, q), f, mt, (s1, s2, s3, s4), ((st, rt, sp, bm), (ou, inn, qb, e, as), qa, bs, lk, nr, fr, wy)) := ⟨hp, hT, ⟨hou, hinn, he14⟩, hst4⟩
      obtain ⟨Ma, ga, kC1, cTa⟩ := kC_of (L := L) (xs := xs) (d := d + 35) (x := 0) hE hE8 hc hc8 hcT he14
      obtain ⟨Mb, gb, cTb, fb⟩ := zEnd (L := L) (xs := xs) (d := d + 39) (x := 0) cTa
      have hbm : Mb.1 103 p = nI (mt p) := by rw [cTb.1.2.2.2.2 p hp14, qz_lt hf]
      have gc := m50 (L := L) (xs := xs) (d := d + 38) (x := 0) (t := 101) (M := Mb) hP hp14 hf hbm
      have fc : qf (fun a => a = 103) Mb (qx_up (qx_up Mb 103 (mt p) (-1)) 103 p (-1)) := qf_trans (qf_up _ _ _ _ rfl) (qf_up _ _ _ _ rfl)
      have mc : qMt 101 (qx_up (qx_up Mb 103 (mt p) (-1)) 103 p (-1)) (qu (qu mt (mt p) 14) p 14) := qMt_up (u := 101) (z := 14) (qMt_up (u := 101) (z := 14) cTb.1.2.2.2.2)
      have huc := qPu_step (t := 0) cTb.1 fc mc (by decide) (by decide)
      have cTc := cT_pu cTb fc (by omega) huc
      have h1005 : (qx_up (qx_up Mb 103 (mt p) (-1)) 103 p (-1)).1 100 5 = s4 := cTc.2.1.2.2.2
      have cTd := cT_sum (v := s4 + nI 1) cTc
      have kC2 := kC_fr hE8 (kC_fr hE8 (kC_fr hE8 kC1 fb) (qf_mono fc (fun a ha => by unfold qTf; omega))) (qf_up _ 100 5 (s4 + nI 1) (by unfold qTf; omega))
      obtain ⟨e401, e400⟩ := kC_401 hE8 kC2
      refine qPair_chg hR hE8 hc8 hE hc b1 hmT hG hn1 (nI (mt p)) ?_ kC2 cTd ?_ (gG_end hG hp2) hn1
      · simp only [s150_0, s150_1, s150_2, s150_5, s150_6, s150_9, s150_12, s150_13, s150_16, s150_19, s150_22r, s150_22i, s150_30, s150_31, s150_34, s150_35, s150_38, s150_41, s150_44, s150_45, s150_48, s150_51, s150_52, s150_55i, s150_55r, s150_55n, s150_56, s150_57, s150_60, s150_63, s150_64, s150_67, s150_68, s150_71r, s150_71i, s150_72, s150_75, s150_76, s150_77, s150_80, s150_81, qx_m10, qx_T100.1, hP.1, hZ.1, hneed, hk, Bool.not_true, qbf, ga, gb, m46 hP hp14, hbm, gc, h1005, List.length_cons, List.length_nil, Nat.zero_le, Nat.reduceAdd, Nat.reduceLeDiff, Option.bind_some, qx_kn_v, qx_kn_n, Nat.add_zero, Bool.false_eq_true, ↓reduceIte]
      · intro o
        generalize hMz : qx_up (qx_up (qx_up Mb 103 (mt p) (-1)) 103 p (-1)) 100 5 (s4 + nI 1) = Mz at e401 e400
        have h6 : Mz.1 400 6 = bI true := by rw [e400, b2]
        have hN2 : nPu (Mz.1, o) n r q f mt := nPu_cp hm (fun k _ => by show Mz.1 401 k = _; rw [e401])
        have hpx := fun d => a211 (L := L) (xs := xs) (d := d) (x := 0) (M := (Mz.1, o)) hN2.1 hn14 (nI p)
        rw [decide_eq_false hz] at hpx
        have hmp2 : Mz.1 401 (21 + p) = nI (mt p) := by rw [e401, hmp]
        obtain ⟨Md, gd, kM1, w401, w35, wo⟩ := z319 (L := L) (xs := xs) (d := d + 37) (x := 0) (M := (Mz.1, o)) (c := c) (by show Mz.1 400 7 = nI c; rw [e400, hc7]) hc8
        have w4 : ∀ k, k ≠ 35 → Md.1 401 k = M.1 401 k := fun k h => by rw [w401 k h]; show Mz.1 401 k = _; rw [e401]
        have hnd := nPu_cp hm (M' := Md) (fun k hk => w4 k (by omega))
        have hmd : Md.1 401 (21 + p) = nI (mt p) := by rw [w4 _ (by omega), hmp]
        have g215 := m215 (L := L) (xs := xs) (d := d + 38) (x := 0) (M := Md) hp14 hf hmd
        have fe : mf (fun j => 21 ≤ j ∧ j < 35) Md (qx_up (qx_up Md 401 (21 + mt p) (-1)) 401 (21 + p) (-1)) := mf_trans (mf_up _ _ _ (by omega)) (mf_up _ _ _ (by omega))
        have hmm : nMt (qx_up (qx_up Md 401 (21 + mt p) (-1)) 401 (21 + p) (-1)) (qu (qu mt (mt p) 14) p 14) := by
          intro z hz
          rw [qx_up_at]
          by_cases y : z = p
          · rw [if_pos ⟨rfl, by omega⟩, y, qu_eq]
            rfl
          · rw [if_neg (by omega), qu_ne _ _ y, qx_up_at]
            by_cases y2 : z = mt p
            · rw [if_pos ⟨rfl, by omega⟩, y2, qu_eq]
              rfl
            · rw [if_neg (by omega), qu_ne _ _ y2, hnd.2.2.2.2 z hz]
        have hne := nPu_step hnd fe hmm (by omega)
        have h66 : (qx_up (qx_up Md 401 (21 + mt p) (-1)) 401 (21 + p) (-1)).1 401 6 = s4 := by rw [fe.2 6 (by omega), w4 6 (by decide), m4]
        have ff : mf (fun j => j = 6) (qx_up (qx_up Md 401 (21 + mt p) (-1)) 401 (21 + p) (-1)) (qx_up (qx_up (qx_up Md 401 (21 + mt p) (-1)) 401 (21 + p) (-1)) 401 6 (s4 + nI 1)) := mf_up _ _ _ rfl
        have hnf := nPu_step hne ff (nMt_fr hmm ff (by omega)) (by omega)
        refine ⟨_, ?_, ?_, kM_fr (kM_fr kM1 fe.1) ff.1, mT_fin hnf ?_ ?_ ?_ ?_ ?_⟩
        · simp only [s326_0, s326_1, s326_4, s326_7, s326_8, s326_9, s326_12, s326_15, s326_16, s326_19, s326_20i, s326_20r, s326_20n, s326_21, s326_22, s326_23, s326_26, s326_27, s326_28, s326_31, s326_32, s326_33, s326_36, s326_37, s326_40, s326_41, s326_44, s326_45, s326_48, s326_51, s326_52, s326_53, s326_54, s326_57, s326_58, s326_59, s326_62i, s326_62r, s326_62n, s326_63, s326_64, s326_65, s326_68, s326_69, s326_72, s326_74, s326_75, s326_76, s326_77, s326_78, s326_79, s326_80, k1, k2, k3, h6, qbt, hpx, Bool.not_false, qi_z1, m213 hp14, hmp2, hn1', z180d, gd, hmd, g215, h66, (qn_c (6) (by omega)).1, (qn_c (6) (by omega)).2, List.length_cons, List.length_nil, Nat.zero_le, Nat.reduceAdd, Nat.reduceLeDiff, Option.bind_some, qx_kn_v, qx_kn_n, Nat.add_zero, Bool.false_eq_true, ↓reduceIte]
        · rw [ff.1.2, fe.1.2, wo]
        · rw [ff.2 3 (by omega), fe.2 3 (by omega), w4 3 (by decide), m1]
        · rw [ff.2 4 (by omega), fe.2 4 (by omega), w4 4 (by decide), m2]
        · rw [ff.2 5 (by omega), fe.2 5 (by omega), w4 5 (by decide), m3]
        · rw [qx_up_at, if_pos ⟨rfl, rfl⟩]
        · rw [ff.2 35 (by omega), fe.2 35 (by omega), w35]
    · simp only [decide_eq_false hf] at hk
      refine qPair_of hR 3 0 (by decide) ?_ ?_
      · rw [if_neg (by decide)]
        simp only [s150_0, s150_1, s150_2, s150_5, s150_6, s150_9, s150_12, s150_13, s150_16, s150_19, qx_m10, qx_T100.1, hP.1, hneed, hk, Bool.not_false, qbt, List.length_cons, List.length_nil, Nat.zero_le, Nat.reduceAdd, Nat.reduceLeDiff, Option.bind_some, qx_kn_v, qx_kn_n, Nat.add_zero, Bool.false_eq_true, ↓reduceIte]
        rfl
      · intro o
        refine ⟨nI 0, ?_, fun h => absurd h (by decide)⟩
        rw [qz_ge hf] at hmp
        simp only [s326_0, s326_1, s326_4, s326_7, s326_8, s326_9, s326_12, s326_15, s326_16, s326_19, s326_20i, s326_20r, s326_20n, s326_21, s326_22, s326_23, s326_26, s326_27, s326_28, s326_31, s326_32, s326_33, s326_36, s326_37, s326_40, s326_41, s326_44, s326_45, s326_48, s326_51, s326_52, k1, b2, qbt, hpu, qi_z1, m213 hp14, hmp, eq_self, z180c, qbf, List.length_cons, List.length_nil, Nat.zero_le, Nat.reduceAdd, Nat.reduceLeDiff, Option.bind_some, qx_kn_v, qx_kn_n, Nat.add_zero, Bool.false_eq_true, ↓reduceIte]
/-- what parts the forbidden, of the class and of the Model -/
theorem zPart {n r q : Nat} {f mt : Nat → Nat} {s1 s2 s3 s4 : Int32} {g : qSg} (hp : qp_ok n r q f mt) (h : cT 100 M ((n, r, q), f, mt, (s1, s2, s3, s4), g)) :
    ∃ M', Rs L xs (d + 3) 51 0 [some (.ref (101)), none, none, none] [] (M) x = some (.inl (some (.int (nI (qm_pf (fun p => qp_al r q (f p) p) n 0 mt 0).2))), M', x) ∧ cT 100 M' ((n, r, q), f, (qm_pf (fun p => qp_al r q (f p) p) n 0 mt 0).1, (s1, s2, s3, s4), g) ∧ qf (qTf 100) M M' := by
  obtain ⟨M1, g1, m1, f1⟩ := g51 (L := L) (xs := xs) (d := d) (x := x) (u := 101) qx_T100.2.1 hp h.1
  exact ⟨M1, g1, cT_pu h f1 (by omega) (qPu_step (t := 0) h.1 f1 m1 (by decide) (by decide)), qf_mono f1 (fun a ha => by unfold qTf; omega)⟩
theorem j154 {M : qxM} (hR : qREL M) (z : Int32) : qPair L xs (d + 40) 154 [some (.ref 10), some (.int z), none] 329 [some (.ref 400), some (.int z), none] ke01 M := by
  obtain ⟨k1, k2, k3⟩ := qx_m400
  rcases qREL_cmp hR with ⟨b1, b2, b3, b4⟩ | ⟨b1, b2, n, r, q, f, mt, s1, s2, s3, s4, st, rt, sp, bm, ou, inn, qb, e, as, qa, bs, lk, nr, fr, wy, hp, hn1, hT, hou, hinn, he14, hst4, hu, ⟨a1, a2, a3, a4⟩, hS, hm, ⟨m1, m2, m3, m4⟩, h35, hN⟩
  · refine qPair_of hR 1 0 (by decide) ?_ ?_
    · rw [if_neg (by decide)]
      simp only [s154_0, s154_1, s154_4, s154_5, s154_6, s154_7, qx_m10, a159t b1, List.length_cons, List.length_nil, Nat.zero_le, Nat.reduceAdd, Nat.reduceLeDiff, Option.bind_some, qx_kn_v, qx_kn_n, Nat.add_zero, Bool.false_eq_true, ↓reduceIte]
      exact qx_kn_t rfl rfl rfl
    · intro o
      refine ⟨nI 0, ?_, fun h => absurd h (by decide)⟩
      have h2 := fun (d : Nat) => a178k (L := L) (xs := xs) (d := d) (x := 0) (M := (M.1, o)) (k := 2) (by decide) z
      have h3 := fun (d : Nat) => c181a (L := L) (xs := xs) (d := d) (x := 0) (M := (M.1, o)) (!decide (qOut (2 + 1) z))
      simp only [Nat.reduceAdd] at h2 h3
      simp only [s329_0, s329_1, s329_2, s329_5, s329_6, s329_9, s329_12, s329_15, s329_16, s302_0, s302_1, s302_2, s302_3, s302_6, k1, b2, h2, h3, bI_z, qbf, qi_z0, true_or, List.length_cons, List.length_nil, Nat.zero_le, Nat.reduceAdd, Nat.reduceLeDiff, Option.bind_some, qx_kn_v, qx_kn_n, Nat.add_zero, Bool.false_eq_true, ↓reduceIte]
  · have hn14 : n ≤ 14 := hp.1
    have hn0 : M.1 101 0 = nI n := hu.1
    have hZ : qx_Z 104 := qx_T100.2.2
    have hP : qx_P 101 := qx_T100.2.1
    have hst0 : M.1 104 0 = nI st := hS.1.1
    have hneed := fun (d x : Nat) => a159 (L := L) (xs := xs) (d := d) (x := x) b1
    by_cases hz : qOut (2 + 1) z
    · refine qPair_of hR 2 0 (by decide) ?_ ?_
      · rw [if_neg (by decide)]
        simp only [s154_0, s154_1, s154_4, s154_5, s154_6, s154_7, qx_m10, hneed, a162t (k := 2) (by decide) hz, List.length_cons, List.length_nil, Nat.zero_le, Nat.reduceAdd, Nat.reduceLeDiff, Option.bind_some, qx_kn_v, qx_kn_n, Nat.add_zero, Bool.false_eq_true, ↓reduceIte]
        exact qx_kn_t rfl rfl rfl
      · intro o
        refine ⟨nI 0, ?_, fun h => absurd h (by decide)⟩
        have h2 := fun (d : Nat) => a178k (L := L) (xs := xs) (d := d) (x := 0) (M := (M.1, o)) (k := 2) (by decide) z
        rw [decide_eq_true hz] at h2
        have h3 := fun (d : Nat) => c181b (L := L) (xs := xs) (d := d) (x := 0) (M := (M.1, o))
        simp only [s329_0, s329_1, s329_2, s329_5, s329_6, s329_9, s329_12, s329_15, s329_16, s302_0, s302_1, s302_2, s302_3, s302_6, k1, b2, h2, h3, Bool.not_true, qbt, qbf, qi_z0, true_or, List.length_cons, List.length_nil, Nat.zero_le, Nat.reduceAdd, Nat.reduceLeDiff, Option.bind_some, qx_kn_v, qx_kn_n, Nat.add_zero, Bool.false_eq_true, ↓reduceIte]
    obtain ⟨p0, p3, p4⟩ := qOut_not (by decide) hz
    subst p4
    have hrange := fun (d x : Nat) => a162 (L := L) (xs := xs) (d := d) (x := x) (M := M) (k := 2) (p := p0) (by decide) (by omega)
    have hin := fun (o : (Nat → Int64) × (Nat → UInt64)) (d : Nat) => show Rs L xs d 178 0 [some (.int (nI p0)), some (.int (nI 0)), some (.int (nI 2))] [] (M.1, o) 0 = some (.inl (some (.int (bI true))), (M.1, o), 0) by
      have h := a178k (L := L) (xs := xs) (d := d) (x := 0) (M := (M.1, o)) (k := 2) (by decide) (nI p0)
      rw [decide_eq_false hz] at h
      exact h
    have hmay := fun (o : (Nat → Int64) × (Nat → UInt64)) (d : Nat) => c181c (L := L) (xs := xs) (d := d) (x := 0) (M := (M.1, o))
    have hb6 : ∀ o : (Nat → Int64) × (Nat → UInt64), (M.1, o).1 400 6 = bI true := fun o => b2
    have hin3 := hin
    obtain ⟨c, E, hc8, hE8, hE, hc, hc7⟩ := qREL_ring hR
    have hcT : cT 100 M ((n, r, q), f, mt, (s1, s2, s3, s4), ((st, rt, sp, bm), (ou, inn, qb, e, as), qa, bs, lk, nr, fr, wy)) := ⟨hu, ⟨a1, a2, a3, a4⟩, hS⟩
    have hmT : mT M ((n, r, q), f, mt, (s1, s2, s3, s4), ((st, rt, sp, bm), (ou, inn, qb, e, as), qa, bs, lk, nr, fr, wy)) := ⟨hm, ⟨m1, m2, m3, m4⟩, h35, hN⟩
    have hG : gG ((n, r, q), f, mt, (s1, s2, s3, s4), ((st, rt, sp, bm), (ou, inn, qb, e, as), qa, bs, lk, nr, fr, wy)) := ⟨hp, hT, ⟨hou, hinn, he14⟩, hst4⟩
    have hp1 : qp_ok n p0 q f mt := by
      obtain ⟨x1, x2, x3, x4, x5, x6⟩ := hp
      exact ⟨x1, by omega, x3, x4, x5, x6⟩
    have hpf := qm_pf_ok (al := fun p => qp_al p0 q (f p) p) hn14 n 0 mt 0 (by omega) hp.2.2.2.2.2
    have hp2 := qp_wm hp1 hpf.1
    obtain ⟨Ma, ga, kC1, cTa⟩ := kC_of (L := L) (xs := xs) (d := d + 35) (x := 0) hE hE8 hc hc8 hcT he14
    obtain ⟨Mb, gb, cTb, fb⟩ := zEnd (L := L) (xs := xs) (d := d + 39) (x := 0) cTa
    have fc : qf (fun a => a = 101) Mb (qx_up Mb 101 1 (nI p0)) := qf_up _ _ _ _ rfl
    have huc : qPu 101 (qx_up Mb 101 1 (nI p0)) n p0 q f mt := by
      obtain ⟨u0, u1, u2, u3, u4⟩ := cTb.1
      refine ⟨?_, ?_, ?_, fun z hz => ?_, qMt_fr u4 fc (by decide)⟩
      · rw [qx_up_at, if_neg (by omega)]
        exact u0
      · rw [qx_up_at, if_pos ⟨rfl, rfl⟩]
      · rw [qx_up_at, if_neg (by omega)]
        exact u2
      · rw [fc.1 102 (by decide)]
        exact u3 z hz
    have cTc := cT_pu cTb fc (by omega) huc
    obtain ⟨Md, gd, cTd, fd⟩ := zPart (L := L) (xs := xs) (d := d + 36) (x := 0) hp1 cTc
    have cTe := cT_sum (v := s4 + nI (qm_pf (fun p => qp_al p0 q (f p) p) n 0 mt 0).2) cTd
    have kC2 := kC_fr hE8 (kC_fr hE8 (kC_fr hE8 (kC_fr hE8 kC1 fb) (qf_mono fc (fun a ha => by unfold qTf; omega))) fd) (qf_up Md 100 5 (s4 + nI (qm_pf (fun p => qp_al p0 q (f p) p) n 0 mt 0).2) (by unfold qTf; omega))
    obtain ⟨e401, e400⟩ := kC_401 hE8 kC2
    have hbr : Mb.1 101 1 = nI r := cTb.1.2.1
    have h1005 : (qx_up Mb 101 1 (nI p0)).1 100 5 = s4 := cTc.2.1.2.2.2
    refine qPair_chg hR hE8 hc8 hE hc b1 hmT hG hn1 (nI r) ?_ kC2 cTe ?_ (gG_end hG hp2) hn1
    · simp only [s154_0, s154_1, s154_4, s154_5, s154_6, s154_7, s154_10, s154_11, s154_14, s154_15, s154_18, s154_21, s154_24, s154_25, s154_28, s154_31, s154_34i, s154_34r, s154_34n, s154_35, s154_36, s154_39, s154_42, s154_43, s154_46, s154_47, s154_50r, s154_50i, s154_51, s154_54, s154_55, s154_58, s154_61, s154_64, s154_65, s154_68, s154_69, qx_m10, qx_T100.1, hP.1, hZ.1, hneed, hrange, ga, gb, hbr, gd, h1005, List.length_cons, List.length_nil, Nat.zero_le, Nat.reduceAdd, Nat.reduceLeDiff, Option.bind_some, qx_kn_v, qx_kn_n, Nat.add_zero, Bool.false_eq_true, ↓reduceIte]
    · intro o
      generalize hMz : qx_up Md 100 5 (s4 + nI (qm_pf (fun p => qp_al p0 q (f p) p) n 0 mt 0).2) = Mz at e401 e400
      have h6 : Mz.1 400 6 = bI true := by rw [e400, b2]
      have hin2 := fun (d : Nat) => a178k (L := L) (xs := xs) (d := d) (x := 0) (M := (Mz.1, o)) (k := 2) (by decide) (nI p0)
      rw [decide_eq_false hz] at hin2
      have h302 : ∀ d, Rs L xs (d + 1) 302 0 [some (.int (nI p0))] [] (Mz.1, o) 0 = some (.inl (some (.int (bI true))), (Mz.1, o), 0) := by
        intro d
        simp only [s302_0, s302_1, s302_2, s302_3, s302_6, hin2, Bool.not_false, bI_z, List.length_cons, List.length_nil, Nat.zero_le, Nat.reduceAdd, Nat.reduceLeDiff, Option.bind_some, qx_kn_v, qx_kn_n, Nat.add_zero, Bool.false_eq_true, ↓reduceIte]
      have hmay2 := fun (d : Nat) => c181c (L := L) (xs := xs) (d := d) (x := 0) (M := (Mz.1, o))
      obtain ⟨Mw, gw, kM1, w401, w35, wo⟩ := z319 (L := L) (xs := xs) (d := d + 37) (x := 0) (M := (Mz.1, o)) (c := c) (by show Mz.1 400 7 = nI c; rw [e400, hc7]) hc8
      have w4 : ∀ k, k ≠ 35 → Mw.1 401 k = M.1 401 k := fun k h => by rw [w401 k h]; show Mz.1 401 k = _; rw [e401]
      have hnd := nPu_cp hm (M' := Mw) (fun k hk => w4 k (by omega))
      have f1 : mf (fun j => j = 1) Mw (qx_up Mw 401 1 (nI p0)) := mf_up _ _ _ rfl
      have hne : nPu (qx_up Mw 401 1 (nI p0)) n p0 q f mt := by
        obtain ⟨u0, u1, u2, u3, u4⟩ := hnd
        exact ⟨by rw [f1.2 0 (by decide), u0], by rw [qx_up_at, if_pos ⟨rfl, rfl⟩], by rw [f1.2 2 (by decide), u2], fun z hz => by rw [f1.2 _ (by omega), u3 z hz], fun z hz => by rw [f1.2 _ (by omega), u4 z hz]⟩
      obtain ⟨Mv, gv, mv, fv⟩ := g221 (L := L) (xs := xs) (d := d + 36) (x := 0) hp1 hne
      have hnv := nPu_step hne fv mv (by omega)
      have f6 : mf (fun j => j = 6) Mv (qx_up Mv 401 6 (s4 + nI (qm_pf (fun p => qp_al p0 q (f p) p) n 0 mt 0).2)) := mf_up _ _ _ rfl
      have hnf := nPu_step hnv f6 (nMt_fr mv f6 (by omega)) (by omega)
      have h1r : Mw.1 401 1 = nI r := hnd.2.1
      have h66 : (qx_up Mw 401 1 (nI p0)).1 401 6 = s4 := by rw [f1.2 6 (by omega), w4 6 (by decide), m4]
      refine ⟨_, ?_, ?_, kM_fr (kM_fr (kM_fr kM1 f1.1) fv.1) f6.1, mT_fin hnf ?_ ?_ ?_ ?_ ?_⟩
      · simp only [s329_0, s329_1, s329_2, s329_5, s329_6, s329_9, s329_12, s329_15, s329_16, s329_17, s329_18, s329_21, s329_22, s329_25, s329_26, s329_27i, s329_27r, s329_27n, s329_28, s329_29, s329_32, s329_33, s329_34, s329_35, s329_36, s329_39, s329_41, s329_42, s329_43, s329_44, s329_47, s329_48, s329_49, s329_50, k1, k2, k3, h6, qbt, h302, hmay2, gw, h1r, gv, h66, (qn_c (1) (by omega)).1, (qn_c (1) (by omega)).2, (qn_c (6) (by omega)).1, (qn_c (6) (by omega)).2, List.length_cons, List.length_nil, Nat.zero_le, Nat.reduceAdd, Nat.reduceLeDiff, Option.bind_some, qx_kn_v, qx_kn_n, Nat.add_zero, Bool.false_eq_true, ↓reduceIte]
      · rw [f6.1.2, fv.1.2, f1.1.2, wo]
      · rw [f6.2 3 (by omega), fv.2 3 (by omega), f1.2 3 (by omega), w4 3 (by decide), m1]
      · rw [f6.2 4 (by omega), fv.2 4 (by omega), f1.2 4 (by omega), w4 4 (by decide), m2]
      · rw [f6.2 5 (by omega), fv.2 5 (by omega), f1.2 5 (by omega), w4 5 (by decide), m3]
      · rw [qx_up_at, if_pos ⟨rfl, rfl⟩]
      · rw [f6.2 35 (by omega), fv.2 35 (by omega), f1.2 35 (by omega), w35]
end QL
