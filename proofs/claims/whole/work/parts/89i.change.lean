/-! flip. -/
section QL
variable {L : Nat} {xs : Nat → Int32} {d x : Nat} {M : qxM}
theorem g325l {v : Nat} {wy : Nat → List Nat} {z2 : Int32} (hv : v < 14) (hl14 : (wy v).length ≤ 14) : ∀ (r : List Nat) (i : Nat) (M : qxM) (mt : Nat → Nat), (wy v).drop i = r → i ≤ (wy v).length → r.length % 2 = 0 → (∀ a, a ∈ r → a < 14) → nMt M mt → nW M wy →
    ∃ M' i', Rs L xs (d + 1) 325 79 [some (.ref 400), some (.int (nI v)), some (.int z2), some (.int (nI (wy v).length)), some (.int (nI i))] [] M x = Rs L xs (d + 1) 325 111 [some (.ref 400), some (.int (nI v)), some (.int z2), some (.int (nI (wy v).length)), some (.int (nI i'))] [] M' x ∧ nMt M' (qs_jn mt r) ∧ mf (fun j => 21 ≤ j ∧ j < 35) M M'
  | [], i, M, mt, hr, hi, _, _, hm, hW => by
    have hil : (wy v).length ≤ i := by
      have := congrArg List.length hr
      rw [List.length_drop, List.length_nil] at this
      omega
    have e1 : (nI (wy v).length ≤ nI i) = True := by
      rw [show i = (wy v).length by omega]
      exact eq_true (Int32.le_refl _)
    refine ⟨M, i, ?_, hm, mf_refl _ _⟩
    simp only [s325_79, s325_81, s325_82, e1, ↓reduceIte]
  | [_], _, _, _, _, _, h, _, _, _ => by simp at h
  | b :: c :: r, i, M, mt, hr, hi, hev, hel, hm, hW => by
    have k1 := qx_m400.1
    have hw := hW v hv
    obtain ⟨d1, d2, d3⟩ := qs_drop _ _ _ _ hr
    obtain ⟨d4, d5, d6⟩ := qs_drop _ _ _ _ d3
    have hb := hel b List.mem_cons_self
    have hc := hel c (List.mem_cons_of_mem _ List.mem_cons_self)
    have e1 : ¬ nI (wy v).length ≤ nI i := nI_ge (by omega) (by omega)
    have f1 : mf (fun j => 21 ≤ j ∧ j < 35) M (qx_up (qx_up M 401 (21 + b) (nI c)) 401 (21 + c) (nI b)) := mf_trans (mf_up _ _ _ (by omega)) (mf_up _ _ _ (by omega))
    obtain ⟨M2, i', g2, m2, f2⟩ := g325l hv hl14 r (i + 2) _ _ d6 (by omega) (by simp only [List.length_cons] at hev; omega) (fun a ha => hel a (List.mem_cons_of_mem _ (List.mem_cons_of_mem _ ha))) (nMt_up2 hm hb hc) (nW_fr hW f1 (by omega))
    refine ⟨M2, i', ?_, ?_, mf_trans f1 f2⟩
    · simp only [s325_79, s325_81, s325_82, s325_85, s325_86, s325_87, s325_88, s325_90, s325_93, s325_94, s325_95, s325_97, s325_98, s325_99, s325_102, s325_105i, s325_105r, s325_105n, k1, nI_add, e1, g235 hv (show i < 14 by omega), g235 hv (show i + 1 < 14 by omega), hw.2.2 i d2, hw.2.2 (i + 1) d5, d1, d4, m214 hb hc, List.length_cons, List.length_nil, Nat.zero_le, Nat.reduceAdd, Nat.reduceLeDiff, Option.bind_some, qx_kn_v, qx_kn_n, Nat.add_zero, Bool.false_eq_true, ↓reduceIte]
      rw [s325_108, g2]
    · rw [qs_jn]
      exact m2
theorem j151 {M : qxM} (hR : qREL M) (z : Int32) : qPair L xs (d + 40) 151 [some (.ref 10), some (.int z)] 325 [some (.ref 400), some (.int z), none, none, none] ke021 M := by
  obtain ⟨k1, k2, k3⟩ := qx_m400
  rcases qREL_cmp hR with ⟨b1, b2, b3, b4⟩ | ⟨b1, b2, n, r, q, f, mt, s1, s2, s3, s4, st, rt, sp, bm, ou, inn, qb, e, as, qa, bs, lk, nr, fr, wy, hp, hn1, hT, hou, hinn, he14, hst4, hu, ⟨a1, a2, a3, a4⟩, hS, hm, ⟨m1, m2, m3, m4⟩, h35, hN⟩
  · refine qPair_of hR 1 0 (by decide) ?_ ?_
    · rw [if_neg (by decide)]
      simp only [s151_0, s151_1, s151_2, qx_m10, a160t b1, List.length_cons, List.length_nil, Nat.zero_le, Nat.reduceAdd, Nat.reduceLeDiff, Option.bind_some, qx_kn_v, qx_kn_n, Nat.add_zero, Bool.false_eq_true, ↓reduceIte]
      exact qx_kn_t rfl rfl rfl
    · intro o
      refine ⟨nI 0, ?_, fun h => absurd h (by decide)⟩
      simp only [s325_0, s325_1, s325_4, s325_7, s325_8, s325_9, s325_12, s325_15, s325_16, s325_19, s325_20i, s325_20r, s325_20n, s325_21, s325_22, s325_23, s325_26, s325_27, s325_28, s325_31, s325_32, s325_33, s325_36, s325_39, s325_40, s325_43, s325_44, s325_47, s325_50, s325_51, k1, b2, qbf, z180a, qi_z0, true_or, List.length_cons, List.length_nil, Nat.zero_le, Nat.reduceAdd, Nat.reduceLeDiff, Option.bind_some, qx_kn_v, qx_kn_n, Nat.add_zero, Bool.false_eq_true, ↓reduceIte]
  · have hn14 : n ≤ 14 := hp.1
    have hn0 : M.1 101 0 = nI n := hu.1
    have hZ : qx_Z 104 := qx_T100.2.2
    have hP : qx_P 101 := qx_T100.2.1
    have hst0 : M.1 104 0 = nI st := hS.1.1
    have hpu0 := fun (o : (Nat → Int64) × (Nat → UInt64)) (d : Nat) (w : Int32) => a211 (L := L) (xs := xs) (d := d) (x := 0) (M := (M.1, o)) hm.1 hn14 w
    by_cases hz : qOut n z
    · refine qPair_of hR 2 0 (by decide) ?_ ?_
      · rw [if_neg (by decide)]
        simp only [s151_0, s151_1, s151_2, qx_m10, a160o b1 hn0 hz, List.length_cons, List.length_nil, Nat.zero_le, Nat.reduceAdd, Nat.reduceLeDiff, Option.bind_some, qx_kn_v, qx_kn_n, Nat.add_zero, Bool.false_eq_true, ↓reduceIte]
        exact qx_kn_t rfl rfl rfl
      · intro o
        refine ⟨nI 0, ?_, fun h => absurd h (by decide)⟩
        have h1 := fun d => hpu0 o d z
        rw [decide_eq_true hz] at h1
        simp only [s325_0, s325_1, s325_4, s325_7, s325_8, s325_9, s325_12, s325_15, s325_16, s325_19, s325_20i, s325_20r, s325_20n, s325_21, s325_22, s325_23, s325_26, s325_27, s325_28, s325_31, s325_32, s325_33, s325_36, s325_39, s325_40, s325_43, s325_44, s325_47, s325_50, s325_51, k1, b2, h1, Bool.not_true, qbt, qbf, z180b, qi_z0, true_or, List.length_cons, List.length_nil, Nat.zero_le, Nat.reduceAdd, Nat.reduceLeDiff, Option.bind_some, qx_kn_v, qx_kn_n, Nat.add_zero, Bool.false_eq_true, ↓reduceIte]
    obtain ⟨p, p1, p2⟩ := qOut_not (by omega) hz
    subst p2
    have hp14 : p < 14 := by omega
    have hneed := fun (d x : Nat) => a160 (L := L) (xs := xs) (d := d) (x := x) b1 hn0 hn14 p1
    have hpu := fun (o : (Nat → Int64) × (Nat → UInt64)) (d : Nat) => show Rs L xs (d + 1) 211 0 [some (.ref 400), some (.int (nI p))] [] (M.1, o) 0 = some (.inl (some (.int (bI true))), (M.1, o), 0) by
      have h := hpu0 o d (nI p)
      rw [decide_eq_false hz] at h
      exact h
    have hW : qW 110 M wy := hS.2.2.2.2.2.2
    have h62 := fun d x => g62 (L := L) (xs := xs) (d := d) (x := x) hst0 hst4 hp14 hW
    have hl14 : qs_tl st (wy p) ≤ 14 := by
      unfold qs_tl
      have := (hW p hp14).1
      split <;> omega
    by_cases hz0 : qs_tl st (wy p) = 0
    · have hzz : (nI (qs_tl st (wy p)) = 0) = True := by rw [hz0]; decide
      have hzl : ¬ (0 : Int32) < nI (qs_tl st (wy p)) := by rw [hz0]; decide
      have hzle : (nI (qs_tl st (wy p)) ≤ 0) = True := by rw [hz0]; decide
      refine qPair_of hR 3 0 (by decide) ?_ ?_
      · rw [if_neg (by decide)]
        simp only [s151_0, s151_1, s151_2, s151_5, s151_6, s151_9, s151_12, s151_13, s151_16, s151_19, qx_m10, qx_T100.1, hZ.1, hneed, h62, hzz, List.length_cons, List.length_nil, Nat.zero_le, Nat.reduceAdd, Nat.reduceLeDiff, Option.bind_some, qx_kn_v, qx_kn_n, Nat.add_zero, Bool.false_eq_true, ↓reduceIte]
        rfl
      · intro o
        refine ⟨nI 0, ?_, fun h => absurd h (by decide)⟩
        have h1 := fun d => g266 (L := L) (xs := xs) (d := d) (x := 0) (M := (M.1, o)) (show _ = nI st from h35) hst4 hp14 hN (gT_w hT p)
        simp only [s325_0, s325_1, s325_4, s325_7, s325_8, s325_9, s325_12, s325_15, s325_16, s325_19, s325_20i, s325_20r, s325_20n, s325_21, s325_22, s325_23, s325_26, s325_27, s325_28, s325_31, s325_32, s325_33, s325_36, s325_39, s325_40, s325_43, s325_44, s325_47, s325_50, s325_51, k1, b2, qbt, hpu, qi_z1, h1, hzle, z180c, qbf, List.length_cons, List.length_nil, Nat.zero_le, Nat.reduceAdd, Nat.reduceLeDiff, Option.bind_some, qx_kn_v, qx_kn_n, Nat.add_zero, Bool.false_eq_true, ↓reduceIte]
    · have hst13 : st = 1 ∨ st = 3 := by
        unfold qs_tl at hz0
        by_cases w : st = 1 ∨ st = 3
        · exact w
        · rw [if_neg w] at hz0
          exact absurd rfl hz0
      have htl : qs_tl st (wy p) = (wy p).length := if_pos hst13
      have hne : st ≠ 0 := by omega
      have hnz : ¬ nI (qs_tl st (wy p)) = 0 := nI_ne0 (by omega) (by omega)
      have hnle : ¬ nI (qs_tl st (wy p)) ≤ 0 := nI_nle (by omega) (by omega)
      obtain ⟨mt0, tm, hGo, hmt0, _⟩ := gT_g hT hne
      have hm0 : mt0 = mt := hmt0 (by omega)
      subst hm0
      have hO : qO ou p := by
        unfold qO
        cases w : ou.testBit p with
        | true => rfl
        | false =>
          have := gT_w hT p hne w
          rw [htl, this] at hz0
          exact absurd rfl hz0
      obtain ⟨rr, r1, r2, r3, r4, r5, r6⟩ := qs_turn hGo.1 hGo.2.1 hGo.2.2.2.2.2.2 hO
      have hrl : ∀ a, a ∈ rr → a < 14 := fun a ha => by
        have := (r4 a (List.mem_cons_of_mem _ ha)).1
        omega
      have hp2 := qp_wm hp r5
      have hrt : rt < 14 := by
        have h7 := hGo.2.2.2.2.2.2
        have := (h7.1 rt h7.2.2.2.1.1).1
        omega
      obtain ⟨c, E, hc8, hE8, hE, hc, hc7⟩ := qREL_ring hR
      have hcT : cT 100 M ((n, r, q), f, mt0, (s1, s2, s3, s4), ((st, rt, sp, bm), (ou, inn, qb, e, as), qa, bs, lk, nr, fr, wy)) := ⟨hu, ⟨a1, a2, a3, a4⟩, hS⟩
      have hmT : mT M ((n, r, q), f, mt0, (s1, s2, s3, s4), ((st, rt, sp, bm), (ou, inn, qb, e, as), qa, bs, lk, nr, fr, wy)) := ⟨hm, ⟨m1, m2, m3, m4⟩, h35, hN⟩
      have hG : gG ((n, r, q), f, mt0, (s1, s2, s3, s4), ((st, rt, sp, bm), (ou, inn, qb, e, as), qa, bs, lk, nr, fr, wy)) := ⟨hp, hT, ⟨hou, hinn, he14⟩, hst4⟩
      obtain ⟨Ma, ga, kC1, cTa⟩ := kC_of (L := L) (xs := xs) (d := d + 35) (x := 0) hE hE8 hc hc8 hcT he14
      obtain ⟨Mb, gb, cTb, fb⟩ := zEnd (L := L) (xs := xs) (d := d + 39) (x := 0) cTa
      have hWb : qW 110 Mb wy := cTb.2.2.2.2.2.2.2.2
      obtain ⟨Mc, gc, mc, fc⟩ := g52 (L := L) (xs := xs) (d := d + 37) (x := 0) (u := 101) (t := 110) hP hZ.2.2 hp14 (by decide) (by decide) r1 r2 hrl cTb.1.2.2.2.2 hWb
      have huc := qPu_step (t := 0) cTb.1 fc mc (by decide) (by decide)
      have cTc := cT_pu cTb fc (by omega) huc
      have kC2 := kC_fr hE8 (kC_fr hE8 kC1 fb) (qf_mono fc (fun a ha => by unfold qTf; omega))
      obtain ⟨e401, e400⟩ := kC_401 hE8 kC2
      have hroot : Mc.1 104 1 = nI rt := cTc.2.2.1.2.1
      have hmr : Mc.1 103 rt = qz (qs_jn (qu mt0 p 14) rr rt) := mc rt hrt
      refine qPair_chg (M1 := Mc) hR hE8 hc8 hE hc b1 hmT hG hn1 (qz (qs_jn (qu mt0 p 14) rr rt)) ?_ kC2 cTc ?_ (gG_end hG hp2) hn1
      · simp only [s151_0, s151_1, s151_2, s151_5, s151_6, s151_9, s151_12, s151_13, s151_16, s151_19, s151_22r, s151_22i, s151_30, s151_31, s151_34, s151_35, s151_38, s151_41, s151_44, s151_45, s151_48, s151_51, s151_52, s151_55, s151_58, s151_61, s151_62, s151_65, s151_66, s151_69, s151_72, s151_73, s151_76, s151_79, s151_82, s151_85, qx_m10, qx_T100.1, hP.1, hZ.1, hZ.2.2.1, hneed, h62, hnz, ga, gb, gc, hroot, m46 hP hrt, hmr, List.length_cons, List.length_nil, Nat.zero_le, Nat.reduceAdd, Nat.reduceLeDiff, Option.bind_some, qx_kn_v, qx_kn_n, Nat.add_zero, Bool.false_eq_true, ↓reduceIte]
      · intro o
        have h6 : Mc.1 400 6 = bI true := by rw [e400, b2]
        have hN2 : nPu (Mc.1, o) n r q f mt0 := nPu_cp hm (fun k _ => by show Mc.1 401 k = _; rw [e401])
        have hpx := fun d => a211 (L := L) (xs := xs) (d := d) (x := 0) (M := (Mc.1, o)) hN2.1 hn14 (nI p)
        rw [decide_eq_false hz] at hpx
        have hmTc : mT (Mc.1, o) ((n, r, q), f, mt0, (s1, s2, s3, s4), ((st, rt, sp, bm), (ou, inn, qb, e, as), qa, bs, lk, nr, fr, wy)) := mT_cong hG hmT (fun k _ => by show Mc.1 401 k = _; rw [e401])
        have h266 := fun d => g266 (L := L) (xs := xs) (d := d) (x := 0) (M := (Mc.1, o)) hmTc.2.2.1 hst4 hp14 hmTc.2.2.2 (gT_w hT p)
        obtain ⟨Md, gd, kM1, w401, wo⟩ := kM_of (L := L) (xs := xs) (d := d + 38) (x := 0) (M := (Mc.1, o)) (c := c) (by show Mc.1 400 7 = nI c; rw [e400, hc7]) hc8
        have hmd := mT_cong (M' := Md) hG hmT (fun k _ => by rw [w401 k]; show Mc.1 401 k = _; rw [e401])
        have hsd := hmd.2.2.2 hne
        have hlen : Md.1 401 (125 + p) = nI (wy p).length := (hsd.2.2.2.2.2.2.2 p hp14).2.1
        have f1 : mf (fun j => 21 ≤ j ∧ j < 35) Md (qx_up Md 401 (21 + p) (-1)) := mf_up _ _ _ (by omega)
        have mm1 : nMt (qx_up Md 401 (21 + p) (-1)) (qu mt0 p 14) := by
          intro z hz
          rw [qx_up_at]
          by_cases y : z = p
          · rw [if_pos ⟨rfl, by omega⟩, y, qu_eq]
            rfl
          · rw [if_neg (by omega), qu_ne _ _ y, hmd.1.2.2.2.2 z hz]
        obtain ⟨Me, i', ge, me, fe⟩ := g325l (L := L) (xs := xs) (d := d + 39) (x := 0) (z2 := nI 1) hp14 (hW p hp14).1 rr 1 _ _ (by rw [r1]; rfl) (by rw [r1]; simp) r2 hrl mm1 (nW_fr hsd.2.2.2.2.2.2.2 f1 (by omega))
        have f12 := mf_trans f1 fe
        have hroot2 : Me.1 401 36 = nI rt := by rw [f12.2 36 (by omega)]; exact hsd.1.2.1
        have ff : mf (fun j => j = 35) Me (qx_up Me 401 35 (nI 0)) := mf_up _ _ _ rfl
        have hnf := nPu_step (nPu_step hmd.1 f12 me (by omega)) ff (nMt_fr me ff (by omega)) (by omega)
        have hmr2 : (qx_up Me 401 35 (nI 0)).1 401 (21 + rt) = qz (qs_jn (qu mt0 p 14) rr rt) := hnf.2.2.2.2 rt hrt
        refine ⟨qx_up Me 401 35 (nI 0), ?_, ?_, kM_fr (kM_fr kM1 f12.1) ff.1, mT_fin hnf ?_ ?_ ?_ ?_ ?_⟩
        · simp only [s325_0, s325_1, s325_4, s325_7, s325_8, s325_9, s325_12, s325_15, s325_16, s325_19, s325_20i, s325_20r, s325_20n, s325_21, s325_22, s325_23, s325_26, s325_27, s325_28, s325_31, s325_32, s325_33, s325_36, s325_39, s325_40, s325_43, s325_44, s325_47, s325_50, s325_51, s325_52, s325_53, s325_56, s325_57, s325_60, s325_62, s325_63, s325_64, s325_65i, s325_65r, s325_65n, s325_66, s325_67, s325_70, s325_72, s325_73, s325_74, s325_75, s325_76, s325_77i, s325_77r, s325_77n, k1, k2, k3, h6, qbt, hpx, Bool.not_false, qi_z1, h266, hnle, z180d, gd, nI_add, hlen, (qn_c (125 + p) (by omega)).1, (qn_c (125 + p) (by omega)).2, (qn_c (21 + p) (by omega)).1, (qn_c (21 + p) (by omega)).2, List.length_cons, List.length_nil, Nat.zero_le, Nat.reduceAdd, Nat.reduceLeDiff, Option.bind_some, qx_kn_v, qx_kn_n, Nat.add_zero, Bool.false_eq_true, ↓reduceIte]
          rw [ge]
          simp only [s325_111, s325_112, s325_115, s325_117, s325_118i, s325_118r, s325_118n, s325_120, s325_121, s325_124, s325_125, s325_127, s325_130, k1, k2, k3, hroot2, g239, m213 hrt, hmr2, (qn_c (36) (by omega)).1, (qn_c (36) (by omega)).2, List.length_cons, List.length_nil, Nat.zero_le, Nat.reduceAdd, Nat.reduceLeDiff, Option.bind_some, qx_kn_v, qx_kn_n, Nat.add_zero, Bool.false_eq_true, ↓reduceIte]
        · rw [ff.1.2, f12.1.2, wo]
        · rw [ff.2 3 (by omega), f12.2 3 (by omega), hmd.2.1.1]
        · rw [ff.2 4 (by omega), f12.2 4 (by omega), hmd.2.1.2.1]
        · rw [ff.2 5 (by omega), f12.2 5 (by omega), hmd.2.1.2.2.1]
        · rw [ff.2 6 (by omega), f12.2 6 (by omega), hmd.2.1.2.2.2]
        · simp [qx_up_at]
end QL
