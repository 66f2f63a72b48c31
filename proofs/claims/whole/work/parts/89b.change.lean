/-! Changes: pair, part. -/
section QL
variable {L : Nat} {xs : Nat → Int32} {d x : Nat} {M : qxM}
theorem z319 {c : Nat} (hc : M.1 400 7 = nI c) (hc8 : c ≤ 8) : ∃ M', Rs L xs (d + 2) 319 0 [some (.ref (400))] [] (qx_up M 400 0 (nI 0)) x = some (.inl (none), M', x) ∧ kM M M' c ∧ (∀ k, k ≠ 35 → M'.1 401 k = M.1 401 k) ∧ M'.1 401 35 = nI 0 ∧ M'.2 = M.2 := by
  obtain ⟨M1, g1, kM1, w1, wo⟩ := kM_of (L := L) (xs := xs) (d := d) (x := 0) (M := M) hc hc8
  have f1 : qf (fun a => a = 401) M1 (qx_up M1 401 35 (nI 0)) := qf_up _ _ _ _ rfl
  refine ⟨_, ?_, kM_fr kM1 f1, ?_, ?_, ?_⟩
  · simp only [s319_0, s319_1, s319_4, s319_5, s319_8, qx_m400.1, g1, g239, List.length_cons, List.length_nil, Nat.zero_le, Nat.reduceAdd, Nat.reduceLeDiff, Option.bind_some, qx_kn_v, qx_kn_n, Nat.add_zero, Bool.false_eq_true, ↓reduceIte]
  · intro k hk
    rw [qx_up_at, if_neg (by omega), w1 k]
  · simp [qx_up_at]
  · exact wo
/-- the class ends the search -/
theorem zEnd {G : qGs} (h : cT 100 M G) : ∃ M', Rs L xs (d) 54 0 [some (.ref (104))] [] (M) x = some (.inl (none), M', x) ∧ cT 100 M' (G.1, G.2.1, G.2.2.1, G.2.2.2.1, gEnd G.2.2.2.2) ∧ qf (qTf 100) M M' := by
  have hZ : qx_Z 104 := qx_T100.2.2
  obtain ⟨M1, g1, w1, f1⟩ := g54 (L := L) (xs := xs) (d := d) (x := x) (t := 104) hZ h.2.2
  refine ⟨M1, g1, ⟨qPu_step (t := 0) h.1 f1 (qMt_fr h.1.2.2.2.2 f1 (by omega)) (by omega) (by omega), ?_, w1⟩, qf_mono f1 (fun a ha => by unfold qTf; omega)⟩
  rw [f1.1 100 (by decide)]
  exact h.2.1
theorem gG_end {n r q n' r' q' : Nat} {f mt f' mt' : Nat → Nat} {s s' : Int32 × Int32 × Int32 × Int32} {g : qSg} (h : gG ((n, r, q), f, mt, s, g)) (hp : qp_ok n' r' q' f' mt') : gG ((n', r', q'), f', mt', s', gEnd g) := by
  obtain ⟨h1, h2, h3, h4⟩ := h
  exact ⟨hp, Or.inl rfl, h3, (by decide : 0 < 4)⟩
/-- pupils of the state that is now are changed, the search being ended -/
theorem cT_pu {n r q n' r' q' : Nat} {f mt f' mt' : Nat → Nat} {s : Int32 × Int32 × Int32 × Int32} {g : qSg} {M' : qxM} {P : Nat → Prop} (h : cT 100 M ((n, r, q), f, mt, s, g)) (hf : qf P M M') (hP : ∀ a, P a → 101 ≤ a ∧ a ≤ 103) (hu : qPu 101 M' n' r' q' f' mt') : cT 100 M' ((n', r', q'), f', mt', s, g) := by
  refine ⟨hu, ?_, qS_fr h.2.2 hf (fun a ha => by have := hP a ha; omega)⟩
  rw [hf.1 100 (fun w => by have := hP 100 w; omega)]
  exact h.2.1
theorem j149 {M : qxM} (hR : qREL M) (z : Int32) (y : Int32) : qPair L xs (d + 40) 149 [some (.ref 10), some (.int z), some (.int y)] 324 [some (.ref 400), some (.int z), some (.int y), none] ke021 M := by
  obtain ⟨k1, k2, k3⟩ := qx_m400
  rcases qREL_cmp hR with ⟨b1, b2, b3, b4⟩ | ⟨b1, b2, n, r, q, f, mt, s1, s2, s3, s4, st, rt, sp, bm, ou, inn, qb, e, as, qa, bs, lk, nr, fr, wy, hp, hn1, hT, hou, hinn, he14, hst4, hu, ⟨a1, a2, a3, a4⟩, hS, hm, ⟨m1, m2, m3, m4⟩, h35, hN⟩
  · refine qPair_of hR 1 0 (by decide) ?_ ?_
    · rw [if_neg (by decide)]
      simp only [s149_0, s149_1, s149_2, s149_3, qx_m10, a161t b1, List.length_cons, List.length_nil, Nat.zero_le, Nat.reduceAdd, Nat.reduceLeDiff, Option.bind_some, qx_kn_v, qx_kn_n, Nat.add_zero, Bool.false_eq_true, ↓reduceIte]
      exact qx_kn_t rfl rfl rfl
    · intro o
      refine ⟨nI 0, ?_, fun h => absurd h (by decide)⟩
      simp only [s324_0, s324_1, s324_4, s324_7, s324_8, s324_9, s324_12, s324_15, s324_16, s324_17, s324_20, s324_23, s324_24, s324_27, s324_28i, s324_28r, s324_28n, s324_29, s324_30, s324_31, s324_34, s324_35, s324_36, s324_39, s324_40, s324_41, s324_42, s324_45, s324_48, s324_49, s324_52, s324_53, s324_56, s324_59, s324_60, k1, b2, qbf, z180a, qi_z0, true_or, List.length_cons, List.length_nil, Nat.zero_le, Nat.reduceAdd, Nat.reduceLeDiff, Option.bind_some, qx_kn_v, qx_kn_n, Nat.add_zero, Bool.false_eq_true, ↓reduceIte]
  · have hn14 : n ≤ 14 := hp.1
    have hn0 : M.1 101 0 = nI n := hu.1
    have hZ : qx_Z 104 := qx_T100.2.2
    have hP : qx_P 101 := qx_T100.2.1
    have hst0 : M.1 104 0 = nI st := hS.1.1
    have hpu0 := fun (o : (Nat → Int64) × (Nat → UInt64)) (d : Nat) (w : Int32) => a211 (L := L) (xs := xs) (d := d) (x := 0) (M := (M.1, o)) hm.1 hn14 w
    by_cases hz : qOut n z ∨ qOut n y
    · refine qPair_of hR 2 0 (by decide) ?_ ?_
      · rw [if_neg (by decide)]
        simp only [s149_0, s149_1, s149_2, s149_3, qx_m10, a161o b1 hn0 hn14 hz, List.length_cons, List.length_nil, Nat.zero_le, Nat.reduceAdd, Nat.reduceLeDiff, Option.bind_some, qx_kn_v, qx_kn_n, Nat.add_zero, Bool.false_eq_true, ↓reduceIte]
        exact qx_kn_t rfl rfl rfl
      · intro o
        refine ⟨nI 0, ?_, fun h => absurd h (by decide)⟩
        by_cases hz1 : qOut n z
        · have h1 := fun d => hpu0 o d z
          rw [decide_eq_true hz1] at h1
          simp only [s324_0, s324_1, s324_4, s324_7, s324_8, s324_9, s324_12, s324_15, s324_16, s324_17, s324_20, s324_23, s324_24, s324_27, s324_28i, s324_28r, s324_28n, s324_29, s324_30, s324_31, s324_34, s324_35, s324_36, s324_39, s324_40, s324_41, s324_42, s324_45, s324_48, s324_49, s324_52, s324_53, s324_56, s324_59, s324_60, k1, b2, h1, Bool.not_true, qbt, qbf, z180b, qi_z0, true_or, List.length_cons, List.length_nil, Nat.zero_le, Nat.reduceAdd, Nat.reduceLeDiff, Option.bind_some, qx_kn_v, qx_kn_n, Nat.add_zero, Bool.false_eq_true, ↓reduceIte]
        · have h1 := fun d => hpu0 o d z
          rw [decide_eq_false hz1] at h1
          have h2 := fun d => hpu0 o d y
          rw [decide_eq_true (hz.resolve_left hz1)] at h2
          simp only [s324_0, s324_1, s324_4, s324_7, s324_8, s324_9, s324_12, s324_15, s324_16, s324_17, s324_20, s324_23, s324_24, s324_27, s324_28i, s324_28r, s324_28n, s324_29, s324_30, s324_31, s324_34, s324_35, s324_36, s324_39, s324_40, s324_41, s324_42, s324_45, s324_48, s324_49, s324_52, s324_53, s324_56, s324_59, s324_60, k1, b2, h1, h2, Bool.not_true, Bool.not_false, qbt, qbf, z180b, qi_z0, true_or, List.length_cons, List.length_nil, Nat.zero_le, Nat.reduceAdd, Nat.reduceLeDiff, Option.bind_some, qx_kn_v, qx_kn_n, Nat.add_zero, Bool.false_eq_true, ↓reduceIte]
    obtain ⟨p, p1, p2⟩ := qOut_not (by omega) (fun w => hz (Or.inl w))
    obtain ⟨p0, p3, p4⟩ := qOut_not (by omega) (fun w => hz (Or.inr w))
    subst p2 p4
    have hp14 : p < 14 := by omega
    have hq14 : p0 < 14 := by omega
    have hneed := fun (d x : Nat) => a161 (L := L) (xs := xs) (d := d) (x := x) b1 hn0 hn14 p1 p3
    have hpu := fun (o : (Nat → Int64) × (Nat → UInt64)) (d : Nat) => show Rs L xs (d + 1) 211 0 [some (.ref 400), some (.int (nI p))] [] (M.1, o) 0 = some (.inl (some (.int (bI true))), (M.1, o), 0) by
      have h := hpu0 o d (nI p)
      rw [decide_eq_false (fun w => hz (Or.inl w))] at h
      exact h
    have hpv := fun (o : (Nat → Int64) × (Nat → UInt64)) (d : Nat) => show Rs L xs (d + 1) 211 0 [some (.ref 400), some (.int (nI p0))] [] (M.1, o) 0 = some (.inl (some (.int (bI true))), (M.1, o), 0) by
      have h := hpu0 o d (nI p0)
      rw [decide_eq_false (fun w => hz (Or.inr w))] at h
      exact h
    have h102 := fun d x => a102 (L := L) (xs := xs) (d := d) (x := x) hp hu hp14 hq14
    have hw5 : qWhy r q f mt p p0 ≤ 5 := by
      unfold qWhy
      repeat' split
      all_goals decide
    by_cases hw : qWhy r q f mt p p0 = 0
    · rw [hw] at h102
      obtain ⟨hne, hfa, hfb⟩ : p ≠ p0 ∧ ¬ mt p < 14 ∧ ¬ mt p0 < 14 := by
        unfold qWhy at hw
        refine ⟨?_, ?_, ?_⟩
        · intro h
          rw [if_pos h] at hw
          exact absurd hw (by decide)
        · intro h
          by_cases y1 : p = p0
          · rw [if_pos y1] at hw
            exact absurd hw (by decide)
          · rw [if_neg y1] at hw
            by_cases y2 : (f p).testBit p0 = false
            · rw [if_pos y2] at hw
              exact absurd hw (by decide)
            · rw [if_neg y2] at hw
              by_cases y3 : qp_ra r q p p0 = false
              · rw [if_pos y3] at hw
                exact absurd hw (by decide)
              · rw [if_neg y3, if_pos h] at hw
                exact absurd hw (by decide)
        · intro h
          by_cases y1 : p = p0
          · rw [if_pos y1] at hw
            exact absurd hw (by decide)
          · rw [if_neg y1] at hw
            by_cases y2 : (f p).testBit p0 = false
            · rw [if_pos y2] at hw
              exact absurd hw (by decide)
            · rw [if_neg y2] at hw
              by_cases y3 : qp_ra r q p p0 = false
              · rw [if_pos y3] at hw
                exact absurd hw (by decide)
              · rw [if_neg y3] at hw
                by_cases y4 : mt p < 14
                · rw [if_pos y4] at hw
                  exact absurd hw (by decide)
                · rw [if_neg y4, if_pos h] at hw
                  exact absurd hw (by decide)
      have hmok := qm_join hn14 hp.2.2.2.2.2 p1 p3 hne hfa hfb
      have hp2 := qp_wm hp hmok
      obtain ⟨c, E, hc8, hE8, hE, hc, hc7⟩ := qREL_ring hR
      have hcT : cT 100 M ((n, r, q), f, mt, (s1, s2, s3, s4), ((st, rt, sp, bm), (ou, inn, qb, e, as), qa, bs, lk, nr, fr, wy)) := ⟨hu, ⟨a1, a2, a3, a4⟩, hS⟩
      have hmT : mT M ((n, r, q), f, mt, (s1, s2, s3, s4), ((st, rt, sp, bm), (ou, inn, qb, e, as), qa, bs, lk, nr, fr, wy)) := ⟨hm, ⟨m1, m2, m3, m4⟩, h35, hN⟩
      have hG : gG ((n, r, q), f, mt, (s1, s2, s3, s4), ((st, rt, sp, bm), (ou, inn, qb, e, as), qa, bs, lk, nr, fr, wy)) := ⟨hp, hT, ⟨hou, hinn, he14⟩, hst4⟩
      obtain ⟨Ma, ga, kC1, cTa⟩ := kC_of (L := L) (xs := xs) (d := d + 35) (x := 0) hE hE8 hc hc8 hcT he14
      obtain ⟨Mb, gb, cTb, fb⟩ := zEnd (L := L) (xs := xs) (d := d + 39) (x := 0) cTa
      obtain ⟨Mc, gc, mc, fc⟩ := g49 (L := L) (xs := xs) (d := d + 38) (x := 0) (u := 101) hP hp14 hq14 cTb.1.2.2.2.2
      have huc := qPu_step (t := 0) cTb.1 fc mc (by decide) (by decide)
      have cTc := cT_pu cTb fc (by omega) huc
      have kC2 := kC_fr hE8 (kC_fr hE8 kC1 fb) (qf_mono fc (fun a ha => by unfold qTf; omega))
      obtain ⟨e401, e400⟩ := kC_401 hE8 kC2
      refine qPair_chg (M1 := Mc) hR hE8 hc8 hE hc b1 hmT hG hn1 (nI (qm_np n (qu (qu mt p p0) p0 p))) ?_ kC2 cTc ?_ (gG_end hG hp2) hn1
      · simp only [s149_0, s149_1, s149_2, s149_3, s149_6, s149_7, s149_8, s149_9, s149_12, s149_15, s149_18r, s149_18i, s149_26, s149_27, s149_30, s149_31, s149_34, s149_37, s149_40, s149_41, s149_44, s149_47, s149_48, s149_49, s149_52, s149_53, s149_56, s149_59, s149_62, qx_m10, qx_T100.1, hP.1, hZ.1, hneed, h102, qi_z0, ga, gb, gc, g48 hP hn14 huc.1 mc, List.length_cons, List.length_nil, Nat.zero_le, Nat.reduceAdd, Nat.reduceLeDiff, Option.bind_some, qx_kn_v, qx_kn_n, Nat.add_zero, Bool.false_eq_true, ↓reduceIte]
      · intro o
        have h6 : Mc.1 400 6 = bI true := by rw [e400, b2]
        have hN2 : nPu (Mc.1, o) n r q f mt := by
          obtain ⟨u0, u1, u2, u3, u4⟩ := hm
          refine ⟨?_, ?_, ?_, fun z hz => ?_, fun z hz => ?_⟩
          · show Mc.1 401 0 = _
            rw [e401, u0]
          · show Mc.1 401 1 = _
            rw [e401, u1]
          · show Mc.1 401 2 = _
            rw [e401, u2]
          · show Mc.1 401 (7 + z) = _
            rw [e401, u3 z hz]
          · show Mc.1 401 (21 + z) = _
            rw [e401, u4 z hz]
        have hpx := fun d => a211 (L := L) (xs := xs) (d := d) (x := 0) (M := (Mc.1, o)) hN2.1 hn14 (nI p)
        have hpy := fun d => a211 (L := L) (xs := xs) (d := d) (x := 0) (M := (Mc.1, o)) hN2.1 hn14 (nI p0)
        rw [decide_eq_false (fun w => hz (Or.inl w))] at hpx
        rw [decide_eq_false (fun w => hz (Or.inr w))] at hpy
        have h231 := fun d => a231 (L := L) (xs := xs) (d := d) (x := 0) hp hN2 hp14 hq14
        rw [hw] at h231
        obtain ⟨Md, gd, kM1, w401, w35, wo⟩ := z319 (L := L) (xs := xs) (d := d + 37) (x := 0) (M := (Mc.1, o)) (c := c) (by show Mc.1 400 7 = nI c; rw [e400, hc7]) hc8
        have hmd : nMt Md mt := fun z hz => by rw [w401 _ (by omega)]; exact hN2.2.2.2.2 z hz
        have fe : mf (fun j => 21 ≤ j ∧ j < 35) Md (qx_up (qx_up Md 401 (21 + p) (nI p0)) 401 (21 + p0) (nI p)) := mf_trans (mf_up _ _ _ (by omega)) (mf_up _ _ _ (by omega))
        have hmm := nMt_up2 hmd hp14 hq14
        have hk : ∀ k, k ≠ 35 → (k < 21 ∨ 35 ≤ k) → (qx_up (qx_up Md 401 (21 + p) (nI p0)) 401 (21 + p0) (nI p)).1 401 k = M.1 401 k := fun k h1 h2 => by
          rw [fe.2 k (by omega), w401 k h1]
          show Mc.1 401 k = _
          rw [e401]
        refine ⟨_, ?_, ?_, kM_fr kM1 fe.1, ?_⟩
        rotate_left
        · rw [fe.1.2, wo]
        · refine ⟨⟨?_, ?_, ?_, fun z hz => ?_, hmm⟩, ⟨?_, ?_, ?_, ?_⟩, ?_, fun h => absurd rfl h⟩
          · rw [hk 0 (by decide) (by decide)]
            exact hm.1
          · rw [hk 1 (by decide) (by decide)]
            exact hm.2.1
          · rw [hk 2 (by decide) (by decide)]
            exact hm.2.2.1
          · rw [hk _ (by omega) (by omega)]
            exact hm.2.2.2.1 z hz
          · rw [hk 3 (by decide) (by decide)]
            exact m1
          · rw [hk 4 (by decide) (by decide)]
            exact m2
          · rw [hk 5 (by decide) (by decide)]
            exact m3
          · rw [hk 6 (by decide) (by decide)]
            exact m4
          · rw [fe.2 35 (by omega), w35]
            rfl
        · have h224 := fun d => g224 (L := L) (xs := xs) (d := d) (x := 0) (M := qx_up (qx_up Md 401 (21 + p) (nI p0)) 401 (21 + p0) (nI p)) (mt := qu (qu mt p p0) p0 p) hn14 (show _ = nI n by rw [hk 0 (by decide) (by decide)]; exact hm.1) hmm
          simp only [s324_0, s324_1, s324_4, s324_7, s324_8, s324_9, s324_12, s324_15, s324_16, s324_17, s324_20, s324_23, s324_24, s324_27, s324_28i, s324_28r, s324_28n, s324_29, s324_30, s324_31, s324_34, s324_35, s324_36, s324_39, s324_40, s324_41, s324_42, s324_45, s324_48, s324_49, s324_52, s324_53, s324_56, s324_59, s324_60, s324_61, s324_62, s324_65, s324_66, s324_67, s324_68, s324_71, s324_72, s324_75, k1, h6, qbt, hpx, hpy, Bool.not_false, qi_z1, h231, qi_z0, z180d, gd, m214 hp14 hq14, h224, List.length_cons, List.length_nil, Nat.zero_le, Nat.reduceAdd, Nat.reduceLeDiff, Option.bind_some, qx_kn_v, qx_kn_n, Nat.add_zero, Bool.false_eq_true, ↓reduceIte]
    · have hnz : ¬ nI (qWhy r q f mt p p0) = 0 := nI_ne0 (by omega) (by omega)
      refine qPair_of hR 3 0 (by decide) ?_ ?_
      · rw [if_neg (by decide)]
        simp only [s149_0, s149_1, s149_2, s149_3, s149_6, s149_7, s149_8, s149_9, s149_12, s149_15, qx_m10, hneed, h102, hnz, List.length_cons, List.length_nil, Nat.zero_le, Nat.reduceAdd, Nat.reduceLeDiff, Option.bind_some, qx_kn_v, qx_kn_n, Nat.add_zero, Bool.false_eq_true, ↓reduceIte]
        rfl
      · intro o
        refine ⟨nI 0, ?_, fun h => absurd h (by decide)⟩
        have h231 := fun d => a231 (L := L) (xs := xs) (d := d) (x := 0) (M := (M.1, o)) hp hm hp14 hq14
        simp only [s324_0, s324_1, s324_4, s324_7, s324_8, s324_9, s324_12, s324_15, s324_16, s324_17, s324_20, s324_23, s324_24, s324_27, s324_28i, s324_28r, s324_28n, s324_29, s324_30, s324_31, s324_34, s324_35, s324_36, s324_39, s324_40, s324_41, s324_42, s324_45, s324_48, s324_49, s324_52, s324_53, s324_56, s324_59, s324_60, k1, b2, qbt, hpu, hpv, qi_z1, h231, hnz, z180c, qbf, List.length_cons, List.length_nil, Nat.zero_le, Nat.reduceAdd, Nat.reduceLeDiff, Option.bind_some, qx_kn_v, qx_kn_n, Nat.add_zero, Bool.false_eq_true, ↓reduceIte]
end QL
