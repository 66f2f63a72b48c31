/-! Changes: setKind. -/
section QL
variable {L : Nat} {xs : Nat → Int32} {d x : Nat} {M : qxM}
theorem j153 {M : qxM} (hR : qREL M) (z : Int32) (y : Int32) : qPair L xs (d + 40) 153 [some (.ref 10), some (.int z), some (.int y), none] 328 [some (.ref 400), some (.int z), some (.int y), none] ke021 M := by
  obtain ⟨k1, k2, k3⟩ := qx_m400
  rcases qREL_cmp hR with ⟨b1, b2, b3, b4⟩ | ⟨b1, b2, n, r, q, f, mt, s1, s2, s3, s4, st, rt, sp, bm, ou, inn, qb, e, as, qa, bs, lk, nr, fr, wy, hp, hn1, hT, hou, hinn, he14, hst4, hu, ⟨a1, a2, a3, a4⟩, hS, hm, ⟨m1, m2, m3, m4⟩, h35, hN⟩
  · refine qPair_of hR 1 0 (by decide) ?_ ?_
    · rw [if_neg (by decide)]
      simp only [s153_0, s153_1, s153_2, s153_5, s153_6, s153_7, s153_8, qx_m10, a160t b1, List.length_cons, List.length_nil, Nat.zero_le, Nat.reduceAdd, Nat.reduceLeDiff, Option.bind_some, qx_kn_v, qx_kn_n, Nat.add_zero, Bool.false_eq_true, ↓reduceIte]
      exact qx_kn_t rfl rfl rfl
    · intro o
      refine ⟨nI 0, ?_, fun h => absurd h (by decide)⟩
      have h1 := fun (d : Nat) => a211 (L := L) (xs := xs) (d := d) (x := 0) (M := (M.1, o)) b3 (by decide) z
      have h2 := fun (d : Nat) => a178k (L := L) (xs := xs) (d := d) (x := 0) (M := (M.1, o)) (k := 1) (by decide) y
      have h3 := fun (d : Nat) => c180a (L := L) (xs := xs) (d := d) (x := 0) (M := (M.1, o)) (!decide (qOut 0 z)) (!decide (qOut (1 + 1) y))
      simp only [Nat.reduceAdd] at h2 h3
      simp only [s328_0, s328_1, s328_2, s328_5, s328_6, s328_7, s328_10, s328_11, s328_12, s328_13, s328_16, s328_19, s328_22, s328_23, k1, b2, h1, h2, h3, bI_z, qbf, qi_z0, true_or, List.length_cons, List.length_nil, Nat.zero_le, Nat.reduceAdd, Nat.reduceLeDiff, Option.bind_some, qx_kn_v, qx_kn_n, Nat.add_zero, Bool.false_eq_true, ↓reduceIte]
  · have hn14 : n ≤ 14 := hp.1
    have hn0 : M.1 101 0 = nI n := hu.1
    have hZ : qx_Z 104 := qx_T100.2.2
    have hP : qx_P 101 := qx_T100.2.1
    have hst0 : M.1 104 0 = nI st := hS.1.1
    by_cases hz : qOut n z
    · refine qPair_of hR 2 0 (by decide) ?_ ?_
      · rw [if_neg (by decide)]
        simp only [s153_0, s153_1, s153_2, s153_5, s153_6, s153_7, s153_8, qx_m10, a160o b1 hn0 hz, List.length_cons, List.length_nil, Nat.zero_le, Nat.reduceAdd, Nat.reduceLeDiff, Option.bind_some, qx_kn_v, qx_kn_n, Nat.add_zero, Bool.false_eq_true, ↓reduceIte]
        exact qx_kn_t rfl rfl rfl
      · intro o
        refine ⟨nI 0, ?_, fun h => absurd h (by decide)⟩
        have h1 := fun (d : Nat) => a211 (L := L) (xs := xs) (d := d) (x := 0) (M := (M.1, o)) hm.1 hn14 z
        rw [decide_eq_true hz] at h1
        have h2 := fun (d : Nat) => a178k (L := L) (xs := xs) (d := d) (x := 0) (M := (M.1, o)) (k := 1) (by decide) y
        have h3 := fun (d : Nat) => c180b (L := L) (xs := xs) (d := d) (x := 0) (M := (M.1, o)) (!decide (qOut (1 + 1) y))
        simp only [Nat.reduceAdd] at h2 h3
        simp only [s328_0, s328_1, s328_2, s328_5, s328_6, s328_7, s328_10, s328_11, s328_12, s328_13, s328_16, s328_19, s328_22, s328_23, k1, b2, h1, h2, h3, Bool.not_true, qbt, qbf, qi_z0, true_or, List.length_cons, List.length_nil, Nat.zero_le, Nat.reduceAdd, Nat.reduceLeDiff, Option.bind_some, qx_kn_v, qx_kn_n, Nat.add_zero, Bool.false_eq_true, ↓reduceIte]
    obtain ⟨p, p1, p2⟩ := qOut_not (by omega) hz
    subst p2
    have hp14 : p < 14 := by omega
    have hneed := fun (d x : Nat) => a160 (L := L) (xs := xs) (d := d) (x := x) b1 hn0 hn14 p1
    by_cases hy : qOut (1 + 1) y
    · refine qPair_of hR 3 0 (by decide) ?_ ?_
      · rw [if_neg (by decide)]
        simp only [s153_0, s153_1, s153_2, s153_5, s153_6, s153_7, s153_8, qx_m10, hneed, a162t (k := 1) (by decide) hy, List.length_cons, List.length_nil, Nat.zero_le, Nat.reduceAdd, Nat.reduceLeDiff, Option.bind_some, qx_kn_v, qx_kn_n, Nat.add_zero, Bool.false_eq_true, ↓reduceIte]
        exact qx_kn_t rfl rfl rfl
      · intro o
        refine ⟨nI 0, ?_, fun h => absurd h (by decide)⟩
        have h1 := fun (d : Nat) => a211 (L := L) (xs := xs) (d := d) (x := 0) (M := (M.1, o)) hm.1 hn14 (nI p)
        rw [decide_eq_false hz] at h1
        have h2 := fun (d : Nat) => a178k (L := L) (xs := xs) (d := d) (x := 0) (M := (M.1, o)) (k := 1) (by decide) y
        rw [decide_eq_true hy] at h2
        have h3 := fun (d : Nat) => c180c (L := L) (xs := xs) (d := d) (x := 0) (M := (M.1, o))
        simp only [s328_0, s328_1, s328_2, s328_5, s328_6, s328_7, s328_10, s328_11, s328_12, s328_13, s328_16, s328_19, s328_22, s328_23, k1, b2, h1, h2, h3, Bool.not_true, Bool.not_false, qbt, qbf, qi_z0, true_or, List.length_cons, List.length_nil, Nat.zero_le, Nat.reduceAdd, Nat.reduceLeDiff, Option.bind_some, qx_kn_v, qx_kn_n, Nat.add_zero, Bool.false_eq_true, ↓reduceIte]
    obtain ⟨p0, p3, p4⟩ := qOut_not (by decide) hy
    subst p4
    have hrange := fun (d x : Nat) => a162 (L := L) (xs := xs) (d := d) (x := x) (M := M) (k := 1) (p := p0) (by decide) (by omega)
    have hpu := fun (o : (Nat → Int64) × (Nat → UInt64)) (d : Nat) => show Rs L xs (d + 1) 211 0 [some (.ref 400), some (.int (nI p))] [] (M.1, o) 0 = some (.inl (some (.int (bI true))), (M.1, o), 0) by
      have h := a211 (L := L) (xs := xs) (d := d) (x := 0) (M := (M.1, o)) hm.1 hn14 (nI p)
      rw [decide_eq_false hz] at h
      exact h
    have hin := fun (o : (Nat → Int64) × (Nat → UInt64)) (d : Nat) => show Rs L xs d 178 0 [some (.int (nI p0)), some (.int (nI 0)), some (.int (nI 1))] [] (M.1, o) 0 = some (.inl (some (.int (bI true))), (M.1, o), 0) by
      have h := a178k (L := L) (xs := xs) (d := d) (x := 0) (M := (M.1, o)) (k := 1) (by decide) (nI p0)
      rw [decide_eq_false hy] at h
      exact h
    have hmay := fun (o : (Nat → Int64) × (Nat → UInt64)) (d : Nat) => c180d (L := L) (xs := xs) (d := d) (x := 0) (M := (M.1, o))
    have hb6 : ∀ o : (Nat → Int64) × (Nat → UInt64), (M.1, o).1 400 6 = bI true := fun o => b2
    obtain ⟨c, E, hc8, hE8, hE, hc, hc7⟩ := qREL_ring hR
    have hcT : cT 100 M ((n, r, q), f, mt, (s1, s2, s3, s4), ((st, rt, sp, bm), (ou, inn, qb, e, as), qa, bs, lk, nr, fr, wy)) := ⟨hu, ⟨a1, a2, a3, a4⟩, hS⟩
    have hmT : mT M ((n, r, q), f, mt, (s1, s2, s3, s4), ((st, rt, sp, bm), (ou, inn, qb, e, as), qa, bs, lk, nr, fr, wy)) := ⟨hm, ⟨m1, m2, m3, m4⟩, h35, hN⟩
    have hG : gG ((n, r, q), f, mt, (s1, s2, s3, s4), ((st, rt, sp, bm), (ou, inn, qb, e, as), qa, bs, lk, nr, fr, wy)) := ⟨hp, hT, ⟨hou, hinn, he14⟩, hst4⟩
    obtain ⟨kb, hkb⟩ : ∃ kb : Bool, nI p0 = bI kb := by
      have : p0 = 0 ∨ p0 = 1 := by omega
      rcases this with h | h
      · exact ⟨false, by rw [h]; rfl⟩
      · exact ⟨true, by rw [h]; rfl⟩
    have hkb1 : (bI kb = nI 1) = (kb = true) := by cases kb <;> decide
    generalize hq' : (if kb = true then q ||| 2 ^ p else qb_dif q (2 ^ p)) = q'
    have hq14' : q' < 16384 := by
      rw [← hq']
      split
      · exact Nat.or_lt_two_pow (n := 14) hp.2.2.1 (Nat.pow_lt_pow_right (by decide) hp14)
      · exact qb_dif_le (n := 14) hp.2.2.1
    have hp1 : qp_ok n r q' f mt := by
      obtain ⟨x1, x2, x3, x4, x5, x6⟩ := hp
      exact ⟨x1, x2, hq14', x4, x5, x6⟩
    have hpf := qm_pf_ok (al := fun p => qp_al r q' (f p) p) hn14 n 0 mt 0 (by omega) hp.2.2.2.2.2
    have hp2 := qp_wm hp1 hpf.1
    obtain ⟨Ma, ga, kC1, cTa⟩ := kC_of (L := L) (xs := xs) (d := d + 35) (x := 0) hE hE8 hc hc8 hcT he14
    obtain ⟨Mb, gb, cTb, fb⟩ := zEnd (L := L) (xs := xs) (d := d + 39) (x := 0) cTa
    have hkind := fun d x => m37 (L := L) (xs := xs) (d := d) (x := x) (M := Mb) hP hp14 cTb.1.2.2.1 hp.2.2.1
    have hturn := fun d x => m38 (L := L) (xs := xs) (d := d) (x := x) (M := Mb) hP hp14 cTb.1.2.2.1 kb
    simp only [hq'] at hturn
    have fc : qf (fun a => a = 101) Mb (qx_up Mb 101 2 (nI q')) := qf_up _ _ _ _ rfl
    have huc : qPu 101 (qx_up Mb 101 2 (nI q')) n r q' f mt := by
      obtain ⟨u0, u1, u2, u3, u4⟩ := cTb.1
      refine ⟨?_, ?_, ?_, fun z hz => ?_, qMt_fr u4 fc (by decide)⟩
      · rw [qx_up_at, if_neg (by omega)]
        exact u0
      · rw [qx_up_at, if_neg (by omega)]
        exact u1
      · rw [qx_up_at, if_pos ⟨rfl, rfl⟩]
      · rw [fc.1 102 (by decide)]
        exact u3 z hz
    have cTc := cT_pu cTb fc (by omega) huc
    obtain ⟨Md, gd, cTd, fd⟩ := zPart (L := L) (xs := xs) (d := d + 36) (x := 0) hp1 cTc
    have cTe := cT_sum (v := s4 + nI (qm_pf (fun p => qp_al r q' (f p) p) n 0 mt 0).2) cTd
    have kC2 := kC_fr hE8 (kC_fr hE8 (kC_fr hE8 (kC_fr hE8 kC1 fb) (qf_mono fc (fun a ha => by unfold qTf; omega))) fd) (qf_up Md 100 5 (s4 + nI (qm_pf (fun p => qp_al r q' (f p) p) n 0 mt 0).2) (by unfold qTf; omega))
    obtain ⟨e401, e400⟩ := kC_401 hE8 kC2
    have h1005 : (qx_up Mb 101 2 (nI q')).1 100 5 = s4 := cTc.2.1.2.2.2
    rw [hkb] at hrange ⊢
    have hz1 : nI 1 = bI true := rfl
    refine qPair_chg hR hE8 hc8 hE hc b1 hmT hG hn1 (bI (q.testBit p)) ?_ kC2 cTe ?_ (gG_end hG hp2) hn1
    · simp only [s153_0, s153_1, s153_2, s153_5, s153_6, s153_7, s153_8, s153_11, s153_12, s153_15, s153_16, s153_19, s153_22, s153_25, s153_26, s153_29, s153_32, s153_33, s153_36i, s153_36r, s153_36n, s153_37, s153_38, s153_41, s153_44, s153_45, s153_46, s153_49, s153_50, s153_53r, s153_53i, s153_54, s153_57, s153_58, s153_61, s153_64, s153_67, s153_68, s153_71, s153_72, qx_m10, qx_T100.1, hP.1, hZ.1, hneed, hrange, ga, gb, hkind, hturn, gd, h1005, List.length_cons, List.length_nil, Nat.zero_le, Nat.reduceAdd, Nat.reduceLeDiff, Option.bind_some, qx_kn_v, qx_kn_n, Nat.add_zero, Bool.false_eq_true, ↓reduceIte]
    · intro o
      generalize hMz : qx_up Md 100 5 (s4 + nI (qm_pf (fun p => qp_al r q' (f p) p) n 0 mt 0).2) = Mz at e401 e400
      have h6 : Mz.1 400 6 = bI true := by rw [e400, b2]
      have hN2 : nPu (Mz.1, o) n r q f mt := nPu_cp hm (fun k _ => by show Mz.1 401 k = _; rw [e401])
      have hpx := fun d => a211 (L := L) (xs := xs) (d := d) (x := 0) (M := (Mz.1, o)) hN2.1 hn14 (nI p)
      rw [decide_eq_false hz] at hpx
      have hin2 := fun (d : Nat) => a178k (L := L) (xs := xs) (d := d) (x := 0) (M := (Mz.1, o)) (k := 1) (by decide) (nI p0)
      rw [decide_eq_false hy, hkb] at hin2
      have hmay2 := fun (d : Nat) => c180d (L := L) (xs := xs) (d := d) (x := 0) (M := (Mz.1, o))
      obtain ⟨Mw, gw, kM1, w401, w35, wo⟩ := z319 (L := L) (xs := xs) (d := d + 37) (x := 0) (M := (Mz.1, o)) (c := c) (by show Mz.1 400 7 = nI c; rw [e400, hc7]) hc8
      have w4 : ∀ k, k ≠ 35 → Mw.1 401 k = M.1 401 k := fun k h => by rw [w401 k h]; show Mz.1 401 k = _; rw [e401]
      have hnd := nPu_cp hm (M' := Mw) (fun k hk => w4 k (by omega))
      have f1 : mf (fun j => j = 2) Mw (qx_up Mw 401 2 (nI q')) := mf_up _ _ _ rfl
      have hne : nPu (qx_up Mw 401 2 (nI q')) n r q' f mt := by
        obtain ⟨u0, u1, u2, u3, u4⟩ := hnd
        exact ⟨by rw [f1.2 0 (by decide), u0], by rw [f1.2 1 (by decide), u1], by rw [qx_up_at, if_pos ⟨rfl, rfl⟩], fun z hz => by rw [f1.2 _ (by omega), u3 z hz], fun z hz => by rw [f1.2 _ (by omega), u4 z hz]⟩
      obtain ⟨Mv, gv, mv, fv⟩ := g221 (L := L) (xs := xs) (d := d + 36) (x := 0) hp1 hne
      have hnv := nPu_step hne fv mv (by omega)
      have f6 : mf (fun j => j = 6) Mv (qx_up Mv 401 6 (s4 + nI (qm_pf (fun p => qp_al r q' (f p) p) n 0 mt 0).2)) := mf_up _ _ _ rfl
      have hnf := nPu_step hnv f6 (nMt_fr mv f6 (by omega)) (by omega)
      have h2q : Mw.1 401 2 = nI q := hnd.2.2.1
      have h66 : (qx_up Mw 401 2 (nI q')).1 401 6 = s4 := by rw [f1.2 6 (by omega), w4 6 (by decide), m4]
      refine ⟨_, ?_, ?_, kM_fr (kM_fr (kM_fr kM1 f1.1) fv.1) f6.1, mT_fin hnf ?_ ?_ ?_ ?_ ?_⟩
      · cases kb with
        | true =>
          have hq2 : q ||| 2 ^ p = q' := hq'
          have ht : (bI true = nI 1) = True := by decide
          simp only [s328_0, s328_1, s328_2, s328_5, s328_6, s328_7, s328_10, s328_11, s328_12, s328_13, s328_16, s328_19, s328_22, s328_23, s328_24, s328_25, s328_28, s328_29, s328_32, s328_33, s328_34, s328_35, s328_38, s328_41i, s328_41r, s328_41n, s328_42, s328_43, s328_46, s328_47, s328_48, s328_49, s328_52, s328_53, s328_56, s328_57, s328_58, s328_59, s328_60, s328_61, s328_62, s328_65, s328_66, s328_69, s328_70, s328_71, s328_72, s328_73, s328_74, s328_75, s328_76, s328_77, s328_78, s328_79, s328_82, s328_84, s328_85, s328_86, s328_87, s328_90, s328_91, s328_92, s328_93, k1, k2, k3, h6, hpx, Bool.not_false, hin2, hmay2, qbt, gw, h2q, m208 (show q < 2 ^ 31 by have := hp.2.2.1; omega) (show p < 31 by omega), m179, ht, qb_shl (show p < 32 by omega), qb_or, hq2, gv, h66, (qn_c (2) (by omega)).1, (qn_c (2) (by omega)).2, (qn_c (6) (by omega)).1, (qn_c (6) (by omega)).2, List.length_cons, List.length_nil, Nat.zero_le, Nat.reduceAdd, Nat.reduceLeDiff, Option.bind_some, qx_kn_v, qx_kn_n, Nat.add_zero, Bool.false_eq_true, ↓reduceIte]
        | false =>
          have hq2 : qb_dif q (2 ^ p) = q' := hq'
          have ht : (bI false = nI 1) = False := by decide
          simp only [s328_0, s328_1, s328_2, s328_5, s328_6, s328_7, s328_10, s328_11, s328_12, s328_13, s328_16, s328_19, s328_22, s328_23, s328_24, s328_25, s328_28, s328_29, s328_32, s328_33, s328_34, s328_35, s328_38, s328_41i, s328_41r, s328_41n, s328_42, s328_43, s328_46, s328_47, s328_48, s328_49, s328_52, s328_53, s328_56, s328_57, s328_58, s328_59, s328_60, s328_61, s328_62, s328_65, s328_66, s328_69, s328_70, s328_71, s328_72, s328_73, s328_74, s328_75, s328_76, s328_77, s328_78, s328_79, s328_82, s328_84, s328_85, s328_86, s328_87, s328_90, s328_91, s328_92, s328_93, k1, k2, k3, h6, hpx, Bool.not_false, hin2, hmay2, qbt, gw, h2q, m208 (show q < 2 ^ 31 by have := hp.2.2.1; omega) (show p < 31 by omega), m179, ht, qb_shl (show p < 32 by omega), qb_andn, hq2, gv, h66, (qn_c (2) (by omega)).1, (qn_c (2) (by omega)).2, (qn_c (6) (by omega)).1, (qn_c (6) (by omega)).2, List.length_cons, List.length_nil, Nat.zero_le, Nat.reduceAdd, Nat.reduceLeDiff, Option.bind_some, qx_kn_v, qx_kn_n, Nat.add_zero, Bool.false_eq_true, ↓reduceIte]
      · rw [f6.1.2, fv.1.2, f1.1.2, wo]
      · rw [f6.2 3 (by omega), fv.2 3 (by omega), f1.2 3 (by omega), w4 3 (by decide), m1]
      · rw [f6.2 4 (by omega), fv.2 4 (by omega), f1.2 4 (by omega), w4 4 (by decide), m2]
      · rw [f6.2 5 (by omega), fv.2 5 (by omega), f1.2 5 (by omega), w4 5 (by decide), m3]
      · rw [qx_up_at, if_pos ⟨rfl, rfl⟩]
      · rw [f6.2 35 (by omega), fv.2 35 (by omega), f1.2 35 (by omega), w35]
end QL
