/-! The call load. -/
def ke21 (k : Nat) : String := if k = 1 then qx_ex 2 else if k = 2 then qx_ex 1 else ""
/-- the class's search at the state that is now, with its sets in their bounds -/
theorem qREL_104 {M : qxM} (hR : qREL M) : ∃ g, cS 104 M g ∧ (g.2.1.1 < 16384 ∧ g.2.1.2.1 < 16384 ∧ g.2.1.2.2.2.1 ≤ 14) := by
  obtain ⟨⟨b, b1, b2, b0, b3⟩, ⟨⟨g, hg⟩, _⟩, _⟩ := hR
  cases b with
  | true =>
    obtain ⟨G, g1, g2, g3, g4⟩ := b3 rfl
    exact ⟨G.2.2.2.2, g3.2.2, g1.2.2.1⟩
  | false =>
    obtain ⟨_, _, _, z4, z5, z7⟩ := b0 rfl
    obtain ⟨⟨a0, a1, a2, a3, a4, a5, a6, a7, a8⟩, hq, hr⟩ := hg
    exact ⟨(g.1, (0, 0, g.2.1.2.2.1, 0, g.2.1.2.2.2.2), g.2.2), ⟨⟨a0, a1, a2, a3, z4, z5, a6, z7, a8⟩, fun i hi => absurd hi (Nat.not_lt_zero i), hr⟩, (show 0 < 16384 by decide), (show 0 < 16384 by decide), (show 0 ≤ 14 by decide)⟩
theorem rs_inj {v v' : Int32} {M M' : qxM} {R : Option qxO} (h : R = some (.inl (some (.int v)), M, 0)) (h' : R = some (.inl (some (.int v')), M', 0)) : v = v' ∧ M = M' := by
  rw [h] at h'
  injection h' with h1
  injection h1 with h2 h3
  injection h2 with h4
  injection h4 with h5
  injection h5 with h6
  injection h3 with h7 h8
  exact ⟨h6, h7⟩
theorem rs_injn {M M' : qxM} {R : Option qxO} (h : R = some (.inl none, M, 0)) (h' : R = some (.inl none, M', 0)) : M = M' := by
  rw [h] at h'
  injection h' with h1
  injection h1 with h2 h3
  injection h3 with h7 h8
section QL
variable {L : Nat} {xs : Nat → Int32} {d : Nat}
theorem j93 {M : qxM} (hR : qREL M) (z : Int32) : qPair L xs (d + 40) 93 [some (.ref 10), some (.int z)] 207 [some (.ref 400), some (.int z), none] ke21 M := by
  obtain ⟨k1, k2, k3⟩ := qx_m400
  have k0 := qx_m20.1
  obtain ⟨n, n1, n2, n3, n4, n5, n6⟩ := hR.2.2.2.2.1
  by_cases hz : qOut (n + 1) z
  · refine qPair_of hR 1 0 (by decide) ?_ ?_
    · rw [if_neg (by decide)]
      by_cases h0 : z < 0
      · simp only [s93_0, s93_1, s93_4, s93_5, s93_6, s93_9, s93_12, s93_15, s93_18r, s93_18i, s93_19, qx_m10, k0, h0, List.length_cons, List.length_nil, Nat.zero_le, Nat.reduceAdd, Nat.reduceLeDiff, Option.bind_some, qx_kn_v, qx_kn_n, Nat.add_zero, Bool.false_eq_true, ↓reduceIte]
        rfl
      · have h1 : (z ≤ nI n) = False := by
          refine eq_false (fun w => ?_)
          rcases hz with q | q
          · exact h0 q
          · have := Int32.le_iff_toInt_le.mp (Int32.le_trans q w)
            rw [nI_toInt (by omega), nI_toInt (by omega)] at this
            omega
        simp only [s93_0, s93_1, s93_4, s93_5, s93_6, s93_9, s93_12, s93_15, s93_18r, s93_18i, s93_19, qx_m10, k0, n2, h0, h1, List.length_cons, List.length_nil, Nat.zero_le, Nat.reduceAdd, Nat.reduceLeDiff, Option.bind_some, qx_kn_v, qx_kn_n, Nat.add_zero, Bool.false_eq_true, ↓reduceIte]
        rfl
    · intro o
      refine ⟨nI 0, ?_, fun h => absurd h (by decide)⟩
      have h178 := fun (d : Nat) => a178k (L := L) (xs := xs) (d := d) (x := 0) (M := (M.1, o)) (k := n) (by omega) z
      rw [decide_eq_true hz] at h178
      have h180 := fun (d : Nat) => z180u (L := L) (xs := xs) (d := d) (x := 0) (M.1, o)
      simp only [s207_0, s207_1, s207_2, s207_3, s207_4, s207_7, s207_10, s207_11, s207_12, s207_15, s207_18, s207_19, k1, n3, h178, Bool.not_true, h180, qbf, List.length_cons, List.length_nil, Nat.zero_le, Nat.reduceAdd, Nat.reduceLeDiff, Option.bind_some, qx_kn_v, qx_kn_n, Nat.add_zero, Bool.false_eq_true, ↓reduceIte]
  · obtain ⟨N, p1, p2⟩ := qOut_not (n := n + 1) (by omega) hz
    subst p2
    have hN : N ≤ 500 := by omega
    have t0 : (nI N < 0) = False := eq_false (nI_pos (by omega))
    have tn : (nI N ≤ nI n) = True := by rw [qi_le (by omega) (by omega)]; exact eq_true (by omega)
    obtain ⟨W0, _, w1, w2, w3, w4, w5, w6, w7, w8, w9⟩ := g207s (L := L) (xs := xs) (d := d) (V := M) (B := M.1 21) (N := N) n1 (show N ≤ n by omega) n3 (fun i hi => (n4 i (by omega)).1.symm)
    rcases parse (L := L) (xs := xs) (d := d + 29) (e := d + 28) (M := M) hN (fun _ _ => rfl) w1 w2 (fun k hk => w6 k (by omega)) with ⟨c, s1, M1, W1, hc, hs, hrc, hrw, e3, e4, e10, e11, e2, FM, FW⟩ | ⟨n', r, q, M1, W1, f, mt, hrc, hrw, e3, e4, e10, e2, hu, hw, hp, hn1, FM, FW⟩
    · refine ⟨2, nI 0, M1, ?_, by decide, fun o => ?_⟩
      · rw [if_neg (by decide)]
        simp only [s93_0, s93_1, s93_4, s93_5, s93_6, s93_9, s93_12, s93_15, s93_18r, s93_18i, s93_19, s93_25, s93_26, s93_29, s93_30, s93_33, s93_36, s93_39r, s93_39i, s93_40, qx_m10, k0, n2, t0, tn, hrc, qi_z0, List.length_cons, List.length_nil, Nat.zero_le, Nat.reduceAdd, Nat.reduceLeDiff, Option.bind_some, qx_kn_v, qx_kn_n, Nat.add_zero, Bool.false_eq_true, ↓reduceIte]
        rfl
      · obtain ⟨W, g0, v1, v2, v3, v4, v5, v6, v7, v8, v9⟩ := g207s (L := L) (xs := xs) (d := d) (V := (M1.1, o)) (B := M.1 21) (N := N) n1 (show N ≤ n by omega) (by show M1.1 400 9 = _; rw [FM.1 400 (by omega), n3]) (fun i hi => by show M1.1 406 i = _; rw [FM.1 406 (by omega)]; exact (n4 i (by omega)).1.symm)
        rcases parse (L := L) (xs := xs) (d := d + 29) (e := d + 28) (M := M) hN (fun _ _ => rfl) v1 v2 (fun k hk => v6 k (by omega)) with ⟨c', s1', M1', W1', hc', hs', hrc', hrw', e3', e4', e10', e11', e2', FM', FW'⟩ | ⟨n'', r'', q'', M1', W1', f'', mt'', hrc', _⟩
        · have hM := (rs_inj hrc hrc').2
          subst hM
          have tc : (nI c' ≤ 0) = False := zil hc'.1 (by omega)
          obtain ⟨W2, g184', c184, f184⟩ := g184 (L := L) (xs := xs) (d := d + 38) (x := 0) (M := qx_up W1' 400 0 (nI 2)) (z := nI 0)
          have e400 : ∀ j, j ≠ 0 → W2.1 400 j = W1'.1 400 j := fun j hj => by rw [f184.1 400 (by decide), qx_up_at, if_neg (by omega)]
          have eW : ∀ j, ¬ (j = 0 ∨ 9 ≤ j ∧ j ≤ 16) → W2.1 400 j = M.1 400 j := fun j hj => by
            rw [e400 j (by omega), FW'.1 j (by omega), v8 j (by omega)]
            show M1.1 400 j = _
            rw [FM.1 400 (by omega)]
          have ea : ∀ a, a ≠ 400 → a ≠ 401 → a ≠ 402 → W2.1 a = M1.1 a := fun a h1 h2 h3 => by rw [f184.1 a h2, qx_up_ne _ _ _ h1, FW'.2.2.1.1 a (by omega), v9.1 a (by omega)]
          refine ⟨nI 0, W2, ?_, ?_, fun h => absurd h (by decide), ?_, ?_, ?_⟩
          · rw [g0]
            simp only [s207_71, s207_72, s207_75, s207_76, s207_79, s207_82, s207_83, s207_84, s207_87, s207_88, s207_89, s207_92, k1, hrw', e10', tc, g184', List.length_cons, List.length_nil, Nat.zero_le, Nat.reduceAdd, Nat.reduceLeDiff, Option.bind_some, qx_kn_v, qx_kn_n, Nat.add_zero, Bool.false_eq_true, ↓reduceIte]
          · rw [f184.2]
            show W1'.2 = _
            rw [FW'.2.2.1.2, v9.2]
          · rw [f184.1 400 (by decide), qx_up_eq]
          · refine qREL_buf hR (fun a u1 u2 u3 u4 u5 u6 u7 u8 u9 => by rw [ea a u1 u9 u8, FM.1 a (by omega)]) (fun k hk => ?_) (eW 6 (by omega)) (eW 7 (by omega)) (eW 21 (by omega)) ⟨0, by decide, ?_, ?_, fun i hi => absurd hi (Nat.not_lt_zero i), ?_, ?_⟩
            · rw [c184 k hk, qx_up_ne _ _ _ (by decide), FW'.2.2.1.1 402 (by decide), v7 k hk]
              show M1.1 401 k = _
              rw [FM.1 401 (by omega)]
            · rw [ea 20 (by decide) (by decide) (by decide), e2]
            · rw [e400 9 (by decide), FW'.1 9 (by omega), v4]
            · rw [ea 20 (by decide) (by decide) (by decide), e3', e400 10 (by decide), e10']
            · rw [ea 20 (by decide) (by decide) (by decide), e4', e400 11 (by decide), e11']
          · intro a h1 h2
            rw [ea a (by omega) (by omega) (by omega), FM.1 a (by omega)]
        · exact absurd (rs_inj hrc hrc').1 (by decide)
    · obtain ⟨g, hg, hb⟩ := qREL_104 hR
      have hg1 : cS 104 M1 g := qS_fr hg FM (by intro a h; omega)
      obtain ⟨M3, g73', c73, f73⟩ := g73 (L := L) (xs := xs) (d := d + 37) (x := 0) (s := 100) (u := 22) (M := M1) qx_T100 qx_P22 (Or.inl (by decide)) hu hg1
      have e101 : (qx_up (qx_up (qx_up M3 10 10 (nI 1)) 10 8 (nI 0)) 10 9 (nI 0)).1 101 0 = nI n' := by rw [qx_up_ne _ _ _ (by decide), qx_up_ne _ _ _ (by decide), qx_up_ne _ _ _ (by decide), c73.1.1]
      have hcls : Rs L xs (d + 40) 93 0 [some (.ref 10), some (.int (nI N))] [] M 0 = some (.inl (some (.int (nI n'))), qx_up (qx_up (qx_up M3 10 10 (nI 1)) 10 8 (nI 0)) 10 9 (nI 0), 0) := by
        simp only [s93_0, s93_1, s93_4, s93_5, s93_6, s93_9, s93_12, s93_15, s93_18r, s93_18i, s93_19, s93_25, s93_26, s93_29, s93_30, s93_33, s93_36, s93_39r, s93_39i, s93_40, s93_46, s93_47, s93_50, s93_51, s93_54, s93_57, s93_60, s93_61, s93_62, s93_65, s93_66, s93_67, s93_70, s93_71, s93_72, s93_75, s93_76, s93_79, s93_82, s93_85, qx_m10, qx_T100.1, qx_T100.2.1.1, k0, n2, t0, tn, hrc, z10, qi_11, or_true, g73', e101, List.length_cons, List.length_nil, Nat.zero_le, Nat.reduceAdd, Nat.reduceLeDiff, Option.bind_some, qx_kn_v, qx_kn_n, Nat.add_zero, Bool.false_eq_true, ↓reduceIte]
      generalize hM4 : qx_up (qx_up (qx_up M3 10 10 (nI 1)) 10 8 (nI 0)) 10 9 (nI 0) = M4 at hcls e101
      have f4 : qf (fun a => a = 10) M3 M4 := by rw [← hM4]; exact qf_trans (qf_up _ _ _ _ rfl) (qf_trans (qf_up _ _ _ _ rfl) (qf_up _ _ _ _ rfl))
      have e4x : ∀ a, a ≠ 10 → ¬ qTf 100 a → M4.1 a = M1.1 a := fun a h1 h2 => by rw [f4.1 a h1, f73.1 a h2]
      have e410 : M4.1 10 10 = nI 1 ∧ M4.1 10 8 = nI 0 ∧ M4.1 10 9 = nI 0 ∧ M4.1 10 7 = M.1 10 7 := by
        rw [← hM4]
        refine ⟨?_, ?_, qx_up_eq _ _ _ _, ?_⟩
        · rw [qx_up_at, if_neg (by omega), qx_up_at, if_neg (by omega), qx_up_eq]
        · rw [qx_up_at, if_neg (by omega), qx_up_eq]
        · rw [qx_up_at, if_neg (by omega), qx_up_at, if_neg (by omega), qx_up_at, if_neg (by omega), f73.1 10 (by unfold qTf; omega), FM.1 10 (by omega)]
      refine ⟨0, nI n', M4, by rw [if_pos rfl]; exact hcls, by decide, fun o => ?_⟩
      have x400 : M4.1 400 = M.1 400 := by rw [e4x 400 (by decide) (by unfold qTf; omega), FM.1 400 (by omega)]
      have x406 : M4.1 406 = M.1 406 := by rw [e4x 406 (by decide) (by unfold qTf; omega), FM.1 406 (by omega)]
      obtain ⟨W, g0, v1, v2, v3, v4, v5, v6, v7, v8, v9⟩ := g207s (L := L) (xs := xs) (d := d) (V := (M4.1, o)) (B := M.1 21) (N := N) n1 (show N ≤ n by omega) (by show M4.1 400 9 = _; rw [x400, n3]) (fun i hi => by show M4.1 406 i = _; rw [x406]; exact (n4 i (by omega)).1.symm)
      rcases parse (L := L) (xs := xs) (d := d + 29) (e := d + 28) (M := M) hN (fun _ _ => rfl) v1 v2 (fun k hk => v6 k (by omega)) with ⟨c', s1', M1', W1', hc', hs', hrc', _⟩ | ⟨n2', r2, q2, M1', W1', f2, mt2, hrc', hrw', e3', e4', e10', e2', hu', hw', hp', hn1', FM', FW'⟩
      · exact absurd (rs_inj hrc hrc').1 (by decide)
      · have hM := (rs_inj hrc hrc').2
        subst hM
        have hnn : nI n2' = nI n' := by rw [← hu'.1, hu.1]
        obtain ⟨M3', g73'', c73', _⟩ := g73 (L := L) (xs := xs) (d := d + 37) (x := 0) (s := 100) (u := 22) (M := M1) qx_T100 qx_P22 (Or.inl (by decide)) hu' hg1
        have hM3 := rs_injn g73' g73''
        subst hM3
        generalize hW5 : qx_up (qx_up (qx_up (qx_up W1' 400 6 (nI 1)) 400 7 (nI 0)) 405 0 (nI 0)) 405 1 (nI 0) = W5
        have w400 : ∀ j, W5.1 400 j = if j = 7 then nI 0 else if j = 6 then nI 1 else W1'.1 400 j := fun j => by
          rw [← hW5, qx_up_ne _ _ _ (by decide), qx_up_ne _ _ _ (by decide)]
          simp only [qx_up_at, true_and]
        have w405 : ∀ k, k < 2 → W5.1 405 k = nI 0 := fun k hk => by
          rw [← hW5, qx_up_at]
          by_cases y : k = 1
          · rw [if_pos ⟨rfl, y⟩]
          · rw [if_neg (by omega), qx_up_at, if_pos ⟨rfl, by omega⟩]
        have fW : qf (fun a => a = 400 ∨ a = 405) W1' W5 := by rw [← hW5]; exact qf_trans (qf_up _ _ _ _ (Or.inl rfl)) (qf_trans (qf_up _ _ _ _ (Or.inl rfl)) (qf_trans (qf_up _ _ _ _ (Or.inr rfl)) (qf_up _ _ _ _ (Or.inr rfl))))
        have w401 : W5.1 401 = W1'.1 401 := fW.1 401 (by omega)
        have ea : ∀ a, a ≠ 400 → a ≠ 401 → a ≠ 402 → a ≠ 405 → W5.1 a = M4.1 a := fun a h1 h2 h3 h4 => by rw [fW.1 a (by omega), FW'.2.2.1.1 a (by omega), v9.1 a (by omega)]
        have ef : ∀ a, a ≠ 10 → ¬ qTf 100 a → a ≠ 400 → a ≠ 401 → a ≠ 402 → a ≠ 405 → ¬ (a = 20 ∨ 22 ≤ a ∧ a ≤ 24) → W5.1 a = M.1 a := fun a h0 h1 h2 h3 h4 h5 h6 => by rw [ea a h2 h3 h4 h5, e4x a h0 h1, FM.1 a h6]
        have e20 : W5.1 20 = M1.1 20 := by rw [ea 20 (by decide) (by decide) (by decide) (by decide), e4x 20 (by decide) (by unfold qTf; omega)]
        have hcT : cT 100 W5 ((n2', r2, q2), f2, mt2, (0, 0, 0, 0), gEnd g) := cT_fr c73' (fun a h1 h2 => by rw [ea a (by omega) (by omega) (by omega) (by omega), f4.1 a (by omega)])
        have hi0 : (0 : Int32) = nI 0 := rfl
        have z401 : ∀ k, k < 335 → ¬ (k < 3 ∨ 7 ≤ k ∧ k < 35) → W5.1 401 k = nI 0 := fun k h1 h2 => by rw [w401, FW'.2.1 k h2, v6 k h1]
        refine ⟨nI n2', W5, ?_, ?_, fun _ => hnn, ?_, ⟨⟨true, ?_, ?_, fun h => absurd h (by decide), fun _ => ⟨_, ⟨hp', Or.inl rfl, hb, (show 0 < 4 by decide)⟩, hn1', hcT, fun M' he => ?_⟩⟩, ⟨⟨_, hcT.2.2⟩, ?_⟩, ?_, ⟨0, by decide, ?_, fun k hk => ⟨?_, fun h => ?_⟩⟩, ⟨0, by decide, ?_, ?_, fun i hi => absurd hi (Nat.not_lt_zero i), ?_, ?_⟩, ?_⟩, ?_⟩
        · rw [g0]
          have t10 : (nI 0 ≤ 0) = True := by decide
          have hb0 : (nI 0).toInt8.toInt32 = nI 0 := by decide
          have k405 : qx_kd 405 = 2 ∧ qx_ln 405 = 2 := by decide +kernel
          have i0 : qx_ib (nI 0) 2 = true := qx_ib_of (by decide) (by decide)
          have i1 : qx_ib (nI 1) 2 = true := qx_ib_of (by decide) (by decide)
          have j0 : (nI 0).toNatClampNeg = 0 := nI_clamp (by decide)
          have j1 : (nI 1).toNatClampNeg = 1 := nI_clamp (by decide)
          have e0 : W5.1 401 0 = nI n2' := by rw [w401, hw'.1]
          simp only [s207_71, s207_72, s207_75, s207_76, s207_79, s207_82, s207_83, s207_84, s207_87, s207_88, s207_89, s207_92, s207_93, s207_94, s207_95, s207_98, s207_99, s207_100, s207_103, s207_104, s207_107, s207_108, s207_109, s207_109z, s207_110, s207_111, s207_114, s207_115, s207_116, s207_116z, s207_117, s207_118, s207_121, s207_122, s207_123, k1, k2, k3, k405, hrw', e10', t10, z10, qi_11, or_true, qi_z0, true_or, i0, i1, j0, j1, hW5, e0, (qn_c (0) (by omega)).1, (qn_c (0) (by omega)).2, List.length_cons, List.length_nil, Nat.zero_le, Nat.reduceAdd, Nat.reduceLeDiff, Option.bind_some, qx_kn_v, qx_kn_n, Nat.add_zero, Bool.false_eq_true, ↓reduceIte]
        · rw [fW.2, FW'.2.2.1.2, v9.2]
        · rw [w400 0, if_neg (by decide), if_neg (by decide), FW'.1 0 (by omega), v5]
        · rw [ea 10 (by decide) (by decide) (by decide) (by decide), e410.1]
          rfl
        · rw [w400 6, if_neg (by decide), if_pos rfl]
          rfl
        · have hk : ∀ k, k < 335 → M'.1 401 k = W5.1 401 k := fun k hk => by rw [he k hk, Nat.zero_add]
          refine mT_fin (nPu_cp hw' (fun k h => by rw [hk k (by omega), w401])) ?_ ?_ ?_ ?_ ?_
          · rw [hk 3 (by decide), z401 3 (by decide) (by omega), hi0]
          · rw [hk 4 (by decide), z401 4 (by decide) (by omega), hi0]
          · rw [hk 5 (by decide), z401 5 (by decide) (by omega), hi0]
          · rw [hk 6 (by decide), z401 6 (by decide) (by omega), hi0]
          · rw [hk 35 (by decide), z401 35 (by decide) (by omega)]
        · obtain ⟨g', hg'⟩ := hR.2.1.2
          have hfq : qf (fun a => ¬ (124 ≤ a ∧ a ≤ 132)) (M.1, W5.2) W5 := ⟨fun a ha => by
            have h2 := Classical.not_not.mp ha
            exact ef a (by omega) (by unfold qTf; omega) (by omega) (by omega) (by omega) (by omega) (by omega), rfl⟩
          exact ⟨g', qS_fr (M := (M.1, W5.2)) hg' hfq (by omega)⟩
        · obtain ⟨c0, E, _, hE8, hE, _⟩ := hR.2.2.1
          refine ⟨0, E, by decide, hE8, ?_, ?_, ?_, fun j hj => absurd hj (Nat.not_lt_zero j)⟩
          · rw [ea 10 (by decide) (by decide) (by decide) (by decide), e410.2.2.2, hE]
          · rw [ea 10 (by decide) (by decide) (by decide) (by decide), e410.2.1]
          · rw [w400 7, if_pos rfl]
        · rw [ea 10 (by decide) (by decide) (by decide) (by decide), e410.2.2.1]
        · rw [w405 k hk, Nat.zero_testBit]
          rfl
        · rw [Nat.zero_testBit] at h
          exact absurd h (by decide)
        · rw [e20, e2']
        · rw [w400 9, if_neg (by decide), if_neg (by decide), FW'.1 9 (by omega), v4]
        · rw [e20, e3', w400 10, if_neg (by decide), if_neg (by decide), e10']
        · rw [e20, e4', w400 11, if_neg (by decide), if_neg (by decide), (FW'.2.2.2 e10').2, v3]
        · obtain ⟨k, y1, y2, y3, y4⟩ := hR.2.2.2.2.2
          refine ⟨k, y1, ?_, ?_, fun i hi => ?_⟩
          · rw [ef 30 (by decide) (by unfold qTf; omega) (by decide) (by decide) (by decide) (by decide) (by omega), y2]
          · rw [w400 21, if_neg (by decide), if_neg (by decide), FW'.1 21 (by omega), v8 21 (by omega)]
            show M4.1 400 21 = _
            rw [x400, y3]
          · rw [ef 31 (by decide) (by unfold qTf; omega) (by decide) (by decide) (by decide) (by decide) (by omega), ef 410 (by decide) (by unfold qTf; omega) (by decide) (by decide) (by decide) (by decide) (by omega), y4 i hi]
        · intro a h1 h2
          exact ef a (by omega) (by unfold qTf; omega) (by omega) (by omega) (by omega) (by omega) (by omega)
end QL
