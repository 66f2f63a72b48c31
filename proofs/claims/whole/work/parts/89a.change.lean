/-! Changes: run, seek, fill. -/
theorem gT_beg {n r q : Nat} {f mt : Nat → Nat} {p : Nat} {qa : Nat → Nat} (hp : qp_ok n r q f mt) (h : p < n) (hf : ¬ mt p < 14) : gT n mt (gBeg p qa) := by
  have hn := hp.1
  refine ⟨Or.inl rfl, ⟨mt, fun _ => 0, ⟨hn, hp.2.2.2.2.2, ?_, ?_, ?_, ?_, ?_⟩, fun _ => rfl⟩, fun _ => (by decide : (0 : Nat) < 1)⟩
  · show 2 ^ p < 16384
    exact Nat.pow_lt_pow_right (n := 14) (by decide) (by omega)
  · show 0 < 16384
    decide
  · show 0 ≤ 1
    decide
  · show 0 ≤ 14
    decide
  · refine qs_begin h hf ?_ ?_ (fun _ => rfl) (show qu qa 0 p 0 = p from qu_eq _ _ _) rfl (show qu (fun _ => []) p [p] p = [p] from qu_eq _ _ _) (fun z hz => show qu (fun _ => []) p [p] z = [] from qu_ne _ _ hz)
    · intro z
      show (2 ^ p).testBit z = true ↔ z = p
      rw [qb_two, decide_eq_true_eq]
      exact ⟨fun h => h.symm, fun h => h.symm⟩
    · intro z hz
      have hz2 : (0 : Nat).testBit z = true := hz
      rw [Nat.zero_testBit] at hz2
      exact absurd hz2 (by decide)
section QL
variable {L : Nat} {xs : Nat → Int32} {d x : Nat} {M : qxM}
theorem j147 {M : qxM} (hR : qREL M) : qPair L xs (d + 40) 147 [some (.ref 10)] 322 [some (.ref 400)] ke01 M := by
  obtain ⟨k1, k2, k3⟩ := qx_m400
  refine jgo hR ?_ ?_ ?_
  · intro d E h
    simp only [s147_0, s147_1, qx_m10, h, List.length_cons, List.length_nil, Nat.zero_le, Nat.reduceAdd, Nat.reduceLeDiff, Option.bind_some, qx_kn_v, qx_kn_n, Nat.add_zero, Bool.false_eq_true, ↓reduceIte]
    exact qx_kn_t rfl rfl rfl
  · intro d o b M' st h35 hs4 hb hf
    have h1 := fun d => g250 (L := L) (xs := xs) (d := d) (x := 0) (M := (M.1, o)) (show _ = nI st from h35) hs4
    have h2 := fun d => a181 (L := L) (xs := xs) (d := d) (x := 0) (M := (M.1, o)) b (decide (st = 1))
    have h3 : decide (qC3 b (decide (st = 1)) true = 0) = false := by
      cases b
      · rfl
      · rw [Bool.true_and] at hf
        rw [hf]
        rfl
    rw [h3] at h2
    simp only [s322_0, s322_1, s322_2, s322_5, s322_6, s322_9, s322_12, s322_15, s322_16, k1, hb, h1, h2, bI_z, qbf, List.length_cons, List.length_nil, Nat.zero_le, Nat.reduceAdd, Nat.reduceLeDiff, Option.bind_some, qx_kn_v, qx_kn_n, Nat.add_zero, Bool.false_eq_true, ↓reduceIte]
  · intro hl hs1
    obtain ⟨c, E, hc8, hE8, hE, hc, hc7⟩ := qREL_ring hR
    rcases qREL_now hR with ⟨b1, _⟩ | ⟨b1, b2, ⟨⟨n, r, q⟩, f, mt, ⟨s1, s2, s3, s4⟩, ⟨⟨st, rt, sp, bm⟩, ⟨ou, inn, qb, e, as⟩, qa, bs, lk, nr, fr, wy⟩⟩, hG, hn1, hcT, hmT⟩
    · rw [b1] at hl
      exact absurd hl (by decide)
    · have hst : st = 1 := by
        have h1 : M.1 104 0 = nI st := hcT.2.2.1.1
        rw [h1] at hs1
        exact (nI_eq (by have := hG.2.2.2; dsimp only at this; omega) (by decide)).mp hs1
      subst hst
      have hp : qp_ok n r q f mt := hG.1
      have hgt : gT n mt ((1, rt, sp, bm), (ou, inn, qb, e, as), qa, bs, lk, nr, fr, wy) := hG.2.1.resolve_left (show ¬ (1 = 0) by decide)
      obtain ⟨k, mt1, g1, c1', c2', c3', c4', c5', c6', c7', c8', c9'⟩ := q_runs (gmu ((1, rt, sp, bm), (ou, inn, qb, e, as), qa, bs, lk, nr, fr, wy) + 1) mt ((1, rt, sp, bm), (ou, inn, qb, e, as), qa, bs, lk, nr, fr, wy) (Nat.lt_succ_self _) hp hgt rfl
      have hmu : gmu ((1, rt, sp, bm), (ou, inn, qb, e, as), qa, bs, lk, nr, fr, wy) ≤ 224 := by unfold gmu; dsimp only; omega
      have hk : k < 1000 := by omega
      have hp1 := qp_wm hp c2'
      obtain ⟨Ma, ga, kC1, cTa⟩ := kC_of (L := L) (xs := xs) (d := d + 35) (x := 0) hE hE8 hc hc8 hcT hG.2.2.1.2.2
      obtain ⟨Mb, gb, cTb, fb⟩ := g77 (L := L) (xs := xs) (d := d + 34) (x := 0) qx_T100 cTa hk c7' c6' (gT_b c3').2.2.2.1 c9'
      have kC2 := kC_fr hE8 kC1 fb
      obtain ⟨e401, e400⟩ := kC_401 hE8 kC2
      refine qPair_chg (M1 := Mb) hR hE8 hc8 hE hc b1 hmT hG hn1 (nI k) ?_ kC2 cTb ?_ (gG_T hp1 c3') hn1
      · simp only [s147_0, s147_1, s147_4, s147_5, s147_8, s147_9, s147_12, s147_15, qx_m10, qx_T100.1, a165 b1 hs1, ga, gb, List.length_cons, List.length_nil, Nat.zero_le, Nat.reduceAdd, Nat.reduceLeDiff, Option.bind_some, qx_kn_v, qx_kn_n, Nat.add_zero, Bool.false_eq_true, ↓reduceIte]
      · intro o
        have h6 : (Mb.1, o).1 400 6 = bI true := by
          show Mb.1 400 6 = bI true
          rw [e400, b2]
        have h35 : (Mb.1, o).1 401 35 = nI 1 := by
          show Mb.1 401 35 = nI 1
          rw [e401]
          exact hmT.2.2.1
        obtain ⟨Mc, gc, kM1, w401, wo⟩ := kM_of (L := L) (xs := xs) (d := d + 38) (x := 0) (M := (Mb.1, o)) (c := c) (by show Mb.1 400 7 = nI c; rw [e400, hc7]) hc8
        have hmc : mT Mc ((n, r, q), f, mt, (s1, s2, s3, s4), ((1, rt, sp, bm), (ou, inn, qb, e, as), qa, bs, lk, nr, fr, wy)) := mT_cong hG hmT (fun k _ => by rw [w401 k]; show Mb.1 401 k = _; rw [e401])
        obtain ⟨Md, y2, gd, dS, dM, df, d3, d4, d5⟩ := c9'.2 L xs (d + 33) 0 Mc 0 none hmc.1 (hmc.2.2.2 (show 1 ≠ 0 by decide))
        rw [Nat.zero_add] at gd
        refine ⟨Md, ?_, ?_, kM_fr kM1 df.1, ?_⟩
        · have h1 := fun d => g250 (L := L) (xs := xs) (d := d) (x := 0) h35 (by decide)
          have h2 := fun d => c181c (L := L) (xs := xs) (d := d) (x := 0) (M := (Mb.1, o))
          simp only [decide_true] at h1
          rw [show (Mb.1, o).1 400 6 = Mb.1 400 6 from rfl] at h6
          have hd35 : Md.1 401 35 = nI g1.1.1 := dS.1.1
          have hrun : Rs L xs (d + 39) 251 0 [some (.ref 400), none, none] [] Mc 0 = some (.inl (some (.int (nI k))), Md, 0) := by
            simp only [s251_0, s251_1i, s251_1r, s251_1n]
            rw [gd]
            simp only [s251_20, s251_21]
          simp only [s322_0, s322_1, s322_2, s322_5, s322_6, s322_9, s322_12, s322_15, s322_16, s322_17, s322_18, s322_21, s322_22, s322_25, k1, h6, h1, h2, qbt, gc, hrun, List.length_cons, List.length_nil, Nat.zero_le, Nat.reduceAdd, Nat.reduceLeDiff, Option.bind_some, qx_kn_v, qx_kn_n, Nat.add_zero, Bool.false_eq_true, ↓reduceIte]
        · rw [df.1.2, wo]
        · refine ⟨nPu_step hmc.1 df dM (by omega), ⟨?_, ?_, ?_, ?_⟩, dS.1.1, fun _ => dS⟩
          · rw [d3, hmc.2.1.1]
          · rw [d4, hmc.2.1.2.1]
          · rw [d5, hmc.2.1.2.2.1]
          · rw [df.2 6 (by omega), hmc.2.1.2.2.2]
theorem z180a : Rs L xs d 180 0 [some (.ref 400), some (.int (bI false)), some (.int (nI 0)), some (.int (nI 0))] [] M x = some (.inl (some (.int (bI false))), qx_up M 400 0 (nI 1), x) := a180 false false false
theorem z180b : Rs L xs d 180 0 [some (.ref 400), some (.int (bI true)), some (.int (nI 0)), some (.int (nI 0))] [] M x = some (.inl (some (.int (bI false))), qx_up M 400 0 (nI 2), x) := a180 true false false
theorem z180c : Rs L xs d 180 0 [some (.ref 400), some (.int (bI true)), some (.int (nI 1)), some (.int (nI 0))] [] M x = some (.inl (some (.int (bI false))), qx_up M 400 0 (nI 3), x) := a180 true true false
theorem z180d : Rs L xs d 180 0 [some (.ref 400), some (.int (bI true)), some (.int (nI 1)), some (.int (nI 1))] [] M x = some (.inl (some (.int (bI true))), qx_up M 400 0 (nI 0), x) := a180 true true true
theorem m47_d {mt : Nat → Nat} {p : Nat} (hm : qMt 101 M mt) (hp : p < 14) : decide (M.1 (101 + 2) p = -1) = !decide (mt p < 14) := by
  rw [hm p hp, show decide (qz (mt p) = -1) = decide (¬ mt p < 14) from by congr 1; exact qz_n1 _]
  by_cases z : mt p < 14 <;> simp [z]
theorem j145 {M : qxM} (hR : qREL M) (z : Int32) : qPair L xs (d + 40) 145 [some (.ref 10), some (.int z)] 320 [some (.ref 400), some (.int z), none] ke021 M := by
  obtain ⟨k1, k2, k3⟩ := qx_m400
  rcases qREL_cmp hR with ⟨b1, b2, b3, b4⟩ | ⟨b1, b2, n, r, q, f, mt, s1, s2, s3, s4, st, rt, sp, bm, ou, inn, qb, e, as, qa, bs, lk, nr, fr, wy, hp, hn1, hT, hou, hinn, he14, hst4, hu, ⟨a1, a2, a3, a4⟩, hS, hm, ⟨m1, m2, m3, m4⟩, h35, hN⟩
  · refine qPair_of hR 1 0 (by decide) ?_ ?_
    · rw [if_neg (by decide)]
      simp only [s145_0, s145_1, s145_2, qx_m10, a160t b1, List.length_cons, List.length_nil, Nat.zero_le, Nat.reduceAdd, Nat.reduceLeDiff, Option.bind_some, qx_kn_v, qx_kn_n, Nat.add_zero, Bool.false_eq_true, ↓reduceIte]
      exact qx_kn_t rfl rfl rfl
    · intro o
      refine ⟨nI 0, ?_, fun h => absurd h (by decide)⟩
      simp only [s320_0, s320_1, s320_4, s320_7, s320_8, s320_9, s320_12, s320_15, s320_16, s320_19, s320_20i, s320_20r, s320_20n, s320_21, s320_22, s320_23, s320_26, s320_27, s320_28, s320_31, s320_32, s320_33, s320_36, s320_37, s320_40, s320_41, s320_44, s320_45, s320_48, s320_51, s320_52, k1, b2, qbf, z180a, qi_z0, true_or, List.length_cons, List.length_nil, Nat.zero_le, Nat.reduceAdd, Nat.reduceLeDiff, Option.bind_some, qx_kn_v, qx_kn_n, Nat.add_zero, Bool.false_eq_true, ↓reduceIte]
  · have hn14 : n ≤ 14 := hp.1
    have hn0 : M.1 101 0 = nI n := hu.1
    have hZ : qx_Z 104 := qx_T100.2.2
    have hP : qx_P 101 := qx_T100.2.1
    have hst0 : M.1 104 0 = nI st := hS.1.1
    have hpu0 := fun (o : (Nat → Int64) × (Nat → UInt64)) (d : Nat) (w : Int32) => a211 (L := L) (xs := xs) (d := d) (x := 0) (M := (M.1, o)) hm.1 hn14 w
    by_cases hz : qOut n z
    · refine qPair_of hR 2 0 (by decide) ?_ ?_
      · rw [if_neg (by decide)]
        simp only [s145_0, s145_1, s145_2, qx_m10, a160o b1 hn0 hz, List.length_cons, List.length_nil, Nat.zero_le, Nat.reduceAdd, Nat.reduceLeDiff, Option.bind_some, qx_kn_v, qx_kn_n, Nat.add_zero, Bool.false_eq_true, ↓reduceIte]
        exact qx_kn_t rfl rfl rfl
      · intro o
        refine ⟨nI 0, ?_, fun h => absurd h (by decide)⟩
        have h1 := fun d => hpu0 o d z
        rw [decide_eq_true hz] at h1
        simp only [s320_0, s320_1, s320_4, s320_7, s320_8, s320_9, s320_12, s320_15, s320_16, s320_19, s320_20i, s320_20r, s320_20n, s320_21, s320_22, s320_23, s320_26, s320_27, s320_28, s320_31, s320_32, s320_33, s320_36, s320_37, s320_40, s320_41, s320_44, s320_45, s320_48, s320_51, s320_52, k1, b2, h1, Bool.not_true, qbt, qbf, z180b, qi_z0, true_or, List.length_cons, List.length_nil, Nat.zero_le, Nat.reduceAdd, Nat.reduceLeDiff, Option.bind_some, qx_kn_v, qx_kn_n, Nat.add_zero, Bool.false_eq_true, ↓reduceIte]
    obtain ⟨p, p1, p2⟩ := qOut_not (by omega) hz
    subst p2
    have hp14 : p < 14 := by omega
    have hneed := fun (d x : Nat) => a160 (L := L) (xs := xs) (d := d) (x := x) b1 hn0 hn14 p1
    have hpu := fun (o : (Nat → Int64) × (Nat → UInt64)) (d : Nat) => show Rs L xs (d + 1) 211 0 [some (.ref 400), some (.int (nI p))] [] (M.1, o) 0 = some (.inl (some (.int (bI true))), (M.1, o), 0) by
      have h := hpu0 o d (nI p)
      rw [decide_eq_false hz] at h
      exact h
    have hk := m47 (L := L) (xs := xs) (d := d + 38) (x := 0) (M := M) hP hp14
    rw [m47_d hu.2.2.2.2 hp14] at hk
    have hmp : M.1 401 (21 + p) = qz (mt p) := hm.2.2.2.2 p hp14
    by_cases hf : mt p < 14
    · rw [decide_eq_true hf] at hk
      refine qPair_of hR 3 0 (by decide) ?_ ?_
      · rw [if_neg (by decide)]
        simp only [s145_0, s145_1, s145_2, s145_5, s145_6, s145_9, s145_12, s145_13, s145_16, s145_19, qx_m10, qx_T100.1, hP.1, hneed, hk, Bool.not_true, qbf, List.length_cons, List.length_nil, Nat.zero_le, Nat.reduceAdd, Nat.reduceLeDiff, Option.bind_some, qx_kn_v, qx_kn_n, Nat.add_zero, Bool.false_eq_true, ↓reduceIte]
        rfl
      · intro o
        refine ⟨nI 0, ?_, fun h => absurd h (by decide)⟩
        rw [qz_lt hf] at hmp
        simp only [s320_0, s320_1, s320_4, s320_7, s320_8, s320_9, s320_12, s320_15, s320_16, s320_19, s320_20i, s320_20r, s320_20n, s320_21, s320_22, s320_23, s320_26, s320_27, s320_28, s320_31, s320_32, s320_33, s320_36, s320_37, s320_40, s320_41, s320_44, s320_45, s320_48, s320_51, s320_52, k1, b2, qbt, hpu, qi_z1, m213 hp14, hmp, qi_n1 (show mt p < 2 ^ 31 by omega), z180c, qbf, List.length_cons, List.length_nil, Nat.zero_le, Nat.reduceAdd, Nat.reduceLeDiff, Option.bind_some, qx_kn_v, qx_kn_n, Nat.add_zero, Bool.false_eq_true, ↓reduceIte]
    · rw [decide_eq_false hf] at hk
      rw [qz_ge hf] at hmp
      obtain ⟨c, E, hc8, hE8, hE, hc, hc7⟩ := qREL_ring hR
      have hcT : cT 100 M ((n, r, q), f, mt, (s1, s2, s3, s4), ((st, rt, sp, bm), (ou, inn, qb, e, as), qa, bs, lk, nr, fr, wy)) := ⟨hu, ⟨a1, a2, a3, a4⟩, hS⟩
      have hmT : mT M ((n, r, q), f, mt, (s1, s2, s3, s4), ((st, rt, sp, bm), (ou, inn, qb, e, as), qa, bs, lk, nr, fr, wy)) := ⟨hm, ⟨m1, m2, m3, m4⟩, h35, hN⟩
      have hG : gG ((n, r, q), f, mt, (s1, s2, s3, s4), ((st, rt, sp, bm), (ou, inn, qb, e, as), qa, bs, lk, nr, fr, wy)) := ⟨hp, hT, ⟨hou, hinn, he14⟩, hst4⟩
      obtain ⟨Ma, ga, kC1, cTa⟩ := kC_of (L := L) (xs := xs) (d := d + 35) (x := 0) hE hE8 hc hc8 hcT he14
      obtain ⟨Mb, gb, cTb, fb⟩ := g53 (L := L) (xs := xs) (d := d + 36) (x := 0) (t := 104) (p := p) (M := Ma) (qa := qa) hZ hp14
      have fb' : qf (qTf 100) Ma Mb := qf_mono fb (fun a ha => by unfold qSf at ha; unfold qTf; omega)
      have kC2 := kC_fr hE8 kC1 fb'
      obtain ⟨e401, e400⟩ := kC_401 hE8 kC2
      have hua := qPu_step (t := 0) cTa.1 fb (qMt_fr cTa.1.2.2.2.2 fb (by unfold qSf; omega)) (by unfold qSf; omega) (by unfold qSf; omega)
      have hcT2 : cT 100 Mb ((n, r, q), f, mt, (s1, s2, s3, s4), gBeg p qa) := ⟨hua, by rw [fb.1 100 (by unfold qSf; omega)]; exact cTa.2.1, cTb⟩
      have hf14 := qp_f14 hp hp14
      have hal := qp_al_lt (r := r) (k := q) (p := p) hf14
      refine qPair_chg (M1 := Mb) hR hE8 hc8 hE hc b1 hmT hG hn1 (nI (qb_pc (qp_al r q (f p) p))) ?_ kC2 hcT2 ?_ (gG_T hp (gT_beg hp p1 hf)) hn1
      · simp only [s145_0, s145_1, s145_2, s145_5, s145_6, s145_9, s145_12, s145_13, s145_16, s145_19, s145_22r, s145_22i, s145_30, s145_31, s145_34, s145_35, s145_38, s145_41, s145_42, s145_45, s145_46, s145_49, s145_52, s145_53, s145_56, s145_59, qx_m10, qx_T100.1, hP.1, hZ.1, hneed, hk, Bool.not_false, qbt, ga, gb, m42 hP hp14 hp.2.1 hua.2.1 hua.2.2.1 hp.2.2.1 (hua.2.2.2.1 p hp14), m334, qb_bc_ok hal, List.length_cons, List.length_nil, Nat.zero_le, Nat.reduceAdd, Nat.reduceLeDiff, Option.bind_some, qx_kn_v, qx_kn_n, Nat.add_zero, Bool.false_eq_true, ↓reduceIte]
      · intro o
        have h6 : Mb.1 400 6 = bI true := by rw [e400, b2]
        have hmp2 : Mb.1 401 (21 + p) = -1 := by rw [e401, hmp]
        have hpu2 := fun d => a211 (L := L) (xs := xs) (d := d) (x := 0) (M := (Mb.1, o)) (n := n) (by show Mb.1 401 0 = nI n; rw [e401]; exact hm.1) hn14 (nI p)
        rw [decide_eq_false hz] at hpu2
        obtain ⟨Mc, gc, kM1, w401, wo⟩ := kM_of (L := L) (xs := xs) (d := d + 38) (x := 0) (M := (Mb.1, o)) (c := c) (by show Mb.1 400 7 = nI c; rw [e400, hc7]) hc8
        have hmc := mT_cong (M' := Mc) hG hmT (fun k _ => by rw [w401 k]; show Mb.1 401 k = _; rw [e401])
        obtain ⟨Md, gd, dS, df⟩ := g238 (L := L) (xs := xs) (d := d + 38) (x := 0) (M := Mc) qa hp14
        have hnd := nPu_step hmc.1 df (nMt_fr hmc.1.2.2.2.2 df (by omega)) (by omega)
        refine ⟨Md, ?_, ?_, kM_fr kM1 df.1, ?_⟩
        · simp only [s320_0, s320_1, s320_4, s320_7, s320_8, s320_9, s320_12, s320_15, s320_16, s320_19, s320_20i, s320_20r, s320_20n, s320_21, s320_22, s320_23, s320_26, s320_27, s320_28, s320_31, s320_32, s320_33, s320_36, s320_37, s320_40, s320_41, s320_44, s320_45, s320_48, s320_51, s320_52, s320_53, s320_54, s320_57, s320_58, s320_59, s320_62, s320_63, s320_64, s320_67, s320_70, k1, h6, qbt, hpu2, Bool.not_false, qi_z1, m213 hp14, hmp2, eq_self, z180d, gc, gd, m220 hp14 hnd.1 hn14 (hnd.2.2.2.1 p hp14) (hp.2.2.2.1 p hp14).1 hnd.2.1 hp.2.1 hnd.2.2.1 hp.2.2.1, m209 hal, List.length_cons, List.length_nil, Nat.zero_le, Nat.reduceAdd, Nat.reduceLeDiff, Option.bind_some, qx_kn_v, qx_kn_n, Nat.add_zero, Bool.false_eq_true, ↓reduceIte]
        · rw [df.1.2, wo]
        · refine ⟨hnd, ⟨?_, ?_, ?_, ?_⟩, dS.1.1, fun _ => dS⟩
          · rw [df.2 3 (by omega), hmc.2.1.1]
          · rw [df.2 4 (by omega), hmc.2.1.2.1]
          · rw [df.2 5 (by omega), hmc.2.1.2.2.1]
          · rw [df.2 6 (by omega), hmc.2.1.2.2.2]
end QL
