/-! Calls that think on: wouldEnd, stepsTo. -/
theorem qREL_tr {M M' : qxM} (h : qREL M) (h1 : ∀ a, a ≠ 400 → a ≠ 401 → ¬ qFree a → ¬ qTf 120 a → M'.1 a = M.1 a) (h2 : ∀ k, k ≠ 0 → M'.1 400 k = M.1 400 k) (h3 : ∀ k, k < 335 → M'.1 401 k = M.1 401 k) (h4 : ∃ g, cS 124 M' g) : qREL M' := by
  obtain ⟨⟨b, b1, b2, b0, b3⟩, ⟨⟨g, hg⟩, ⟨g', hg'⟩⟩, ⟨c, E, c1, c2, c3, c4, c5, c6⟩, ⟨sv, v1, v2, v3⟩, ⟨n, n1, n2, n3, n4, n5, n6⟩, ⟨k, k1, k2, k3, k4⟩⟩ := h
  have hlow : ∀ a, 100 ≤ a → a < 400 → (a < 120 ∨ 132 < a) → M'.1 a = M.1 a := fun a ha hb hc => h1 a (by omega) (by omega) (by unfold qFree; omega) (by unfold qTf; omega)
  have hone : ∀ a, a < 100 ∨ 401 < a → ¬ qFree a → M'.1 a = M.1 a := fun a ha hb => h1 a (by omega) (by omega) hb (by unfold qTf; omega)
  have e10 : M'.1 10 = M.1 10 := hone 10 (by decide) (by unfold qFree; omega)
  refine ⟨⟨b, ?_, ?_, ?_, ?_⟩, ⟨⟨g, ?_⟩, h4⟩, ⟨c, E, c1, c2, ?_, ?_, ?_, ?_⟩, ⟨sv, v1, ?_, ?_⟩, ⟨n, n1, ?_, ?_, ?_, ?_, ?_⟩, ⟨k, k1, ?_, ?_, ?_⟩⟩
  · rw [e10, b1]
  · rw [h2 6 (by decide), b2]
  · rw [h3 0 (by decide), h3 35 (by decide), h2 7 (by decide), e10, hlow 104 (by decide) (by decide) (by decide)]
    exact b0
  · intro hb
    exact qKept_fr (b3 hb) (fun a ha hb => hlow a (by omega) (by omega) (by omega)) (fun k hk => h3 _ (by omega))
  · have hf : qf (fun a => ¬ (100 ≤ a ∧ a < 120)) (M.1, M'.2) M' := ⟨fun a ha => hlow a (by omega) (by omega) (by omega), rfl⟩
    exact qS_fr (M := (M.1, M'.2)) hg hf (by omega)
  · rw [e10, c3]
  · rw [e10, c4]
  · rw [h2 7 (by decide), c5]
  · intro j hj
    exact qKept_fr (c6 j hj) (fun a ha hb => hlow a (by omega) (by omega) (by omega)) (fun k hk => by rw [hone 403 (by decide) (by unfold qFree; omega)])
  · rw [e10, v2]
  · intro k hk
    obtain ⟨w1, w2⟩ := v3 k hk
    refine ⟨by rw [hone 405 (by decide) (by unfold qFree; omega), w1], fun hb => ?_⟩
    exact qKept_fr (w2 hb) (fun a ha hb => hlow a (by omega) (by omega) (by omega)) (fun k hk => by rw [hone 404 (by decide) (by unfold qFree; omega)])
  · rw [hone 20 (by decide) (by unfold qFree; omega), n2]
  · rw [h2 9 (by decide), n3]
  · intro i hi
    rw [hone 21 (by decide) (by unfold qFree; omega), hone 406 (by decide) (by unfold qFree; omega)]
    exact n4 i hi
  · rw [hone 20 (by decide) (by unfold qFree; omega), h2 10 (by decide), n5]
  · rw [hone 20 (by decide) (by unfold qFree; omega), h2 11 (by decide), n6]
  · rw [hone 30 (by decide) (by unfold qFree; omega), k2]
  · rw [h2 21 (by decide), k3]
  · intro i hi
    rw [hone 31 (by decide) (by unfold qFree; omega), hone 410 (by decide) (by unfold qFree; omega), k4 i hi]
/-- no step of a search that isn't -/
theorem qRun_z {n r q : Nat} {f mt : Nat → Nat} {g : qSg} (h : g.1.1 = 0) : qRun n r q f mt g 0 mt g := by
  obtain ⟨⟨st, rt, sp, bm⟩, ⟨ou, inn, qb, e, as⟩, qa, bs, lk, nr, fr, wy⟩ := g
  dsimp only at h
  subst h
  refine ⟨?_, ?_⟩
  · intro L xs d x s M z1 z2 i hT hu hS hi
    obtain ⟨t1, t2, t3⟩ := hT
    have h1 : ¬ nI 1000 ≤ nI i := nI_ge (by omega) (by decide)
    have hs0 : M.1 (s + 4) 0 = nI 0 := hS.1.1
    have hs8 : (nI 0 = nI 1) = False := by decide
    refine ⟨M, ?_, hS, hu.2.2.2.2, qf_refl _ _⟩
    simp only [s77_18, s77_19, s77_22, s77_25, s77_26, s77_29, s77_32, s77_33, t1, t2.1, t3.1, h1, hs0, hs8, List.length_cons, List.length_nil, Nat.zero_le, Nat.reduceAdd, Nat.reduceLeDiff, Option.bind_some, qx_kn_v, qx_kn_n, Nat.add_zero, Bool.false_eq_true, ↓reduceIte]
  · intro L xs d x M c a2 hu hS
    have h35 : M.1 401 35 = nI 0 := hS.1.1
    refine ⟨M, a2, ?_, hS, hu.2.2.2.2, mf_refl _ _, ?_, ?_, ?_⟩
    · have hd : decide (0 = 1) = false := by decide
      simp only [s251_2, s251_3, s251_6, qx_m400.1, g250 h35 (by decide), hd, bI_0, List.length_cons, List.length_nil, Nat.zero_le, Nat.reduceAdd, Nat.reduceLeDiff, Option.bind_some, qx_kn_v, qx_kn_n, Nat.add_zero, Bool.false_eq_true, ↓reduceIte]
    · rw [if_neg (show ¬ (0 = 2) by decide), qi_a0]
    · rw [if_neg (show ¬ (0 = 3) by decide), qi_a0]
    · dsimp only
      rw [Nat.sub_self, qi_a0]
section QL
variable {L : Nat} {xs : Nat → Int32} {d x : Nat}
/-- the trial of the class -/
theorem gTrial {M : qxM} {n r q p : Nat} {f mt : Nat → Nat} {g : qSg} (hp14 : p < 14) (hpn : p < n) (hp : qp_ok n r q f mt) (hu : qPu 101 M n r q f mt) (hg : cS 124 M g) :
    ∃ M1 M2 k g', Rs L xs (d + 5) 75 0 [some (.ref (120)), some (.ref (101)), some (.int (nI p))] [] (M) x = some (.inl (none), M1, x) ∧ Rs L xs (d + 5) 77 0 [some (.ref (120)), none, none, none] [] (M1) x = some (.inl (some (.int (nI k))), M2, x) ∧ cS 124 M2 g' ∧ qf (qTf 120) M M2 ∧ g'.1.1 < 4 ∧
      (mt p < 14 → g'.1.1 = 0) ∧ (¬ mt p < 14 → ∃ mt', k < 1000 ∧ qRun n r q f mt (gBeg p g.2.2.1) k mt' g' ∧ g'.1.1 ≠ 0 ∧ g'.1.2.2.1 = k) := by
  obtain ⟨M1, g1, w1, f1⟩ := g75 (L := L) (xs := xs) (d := d + 1) (x := x) (s := 120) (u := 101) (p := p) qx_T120 qx_T100.2.1 (by decide) hp14 hu hg
  by_cases z : mt p < 14
  · rw [if_pos z] at w1
    obtain ⟨M2, g2, w2, f2⟩ := g77 (L := L) (xs := xs) (d := d) (x := x) (k := 0) qx_T120 w1 (by decide) (Nat.le_refl _) rfl (show 0 < 4 by decide) (qRun_z rfl)
    exact ⟨M1, M2, 0, _, g1, g2, w2.2.2, qf_trans f1 f2, (by decide : (0 : Nat) < 4), fun _ => rfl, fun h => absurd z h⟩
  · rw [if_neg z] at w1
    have hgt := gT_beg (qa := g.2.2.1) hp hpn z
    obtain ⟨k, mt1, g1', c1', c2', c3', c4', c5', c6', c7', c8', c9'⟩ := q_runs (gmu (gBeg p g.2.2.1) + 1) mt (gBeg p g.2.2.1) (Nat.lt_succ_self _) hp hgt rfl
    have hmu : gmu (gBeg p g.2.2.1) ≤ 224 := by unfold gmu gBeg; dsimp only; omega
    have hs : (gBeg p g.2.2.1).1.2.2.1 = 0 := rfl
    obtain ⟨M2, g2, w2, f2⟩ := g77 (L := L) (xs := xs) (d := d) (x := x) (k := k) qx_T120 w1 (by omega) c7' c6' (gT_b c3').2.2.2.1 c9'
    exact ⟨M1, M2, k, g1', g1, g2, w2.2.2, qf_trans f1 f2, by omega, fun h => absurd h z, fun _ => ⟨mt1, by omega, c9', by omega, by omega⟩⟩
/-- the thinking of the Model -/
theorem gThink {M : qxM} {n r q p k : Nat} {f mt mt' : Nat → Nat} {g' : qSg} (qa : Nat → Nat) (hp14 : p < 14) (hm : nPu M n r q f mt) (hR : qRun n r q f mt (gBeg p qa) k mt' g') :
    ∃ M1 M2 M3, Rs L xs (d + 6) 183 0 [some (.ref (400))] [] (M) x = some (.inl (none), M1, x) ∧ Rs L xs (d + 6) 238 0 [some (.ref (400)), some (.int (nI p)), none] [] (M1) x = some (.inl (none), M2, x) ∧ Rs L xs (d + 6) 251 0 [some (.ref (400)), none, none] [] (M2) x = some (.inl (some (.int (nI k))), M3, x) ∧ M3.1 401 35 = nI g'.1.1 ∧
      ∀ v, ∃ M4, Rs L xs (d + 6) 184 0 [some (.ref (400)), some (.int (v))] [] (M3) x = some (.inl (some (.int (v))), M4, x) ∧ (∀ k, k < 335 → M4.1 401 k = M.1 401 k) ∧ qf (fun a => a = 401 ∨ a = 402) M M4 := by
  obtain ⟨M1, g1, w1, f1⟩ := g183 (L := L) (xs := xs) (d := d + 5) (x := x) (M := M)
  obtain ⟨M2, g2, w2, f2⟩ := g238 (L := L) (xs := xs) (d := d + 5) (x := x) (M := M1) qa hp14
  have h1 : nPu M1 n r q f mt := by
    unfold nPu nMt
    rw [f1.1 401 (by decide)]
    exact hm
  have h2 := nPu_step h1 f2 (nMt_fr h1.2.2.2.2 f2 (by omega)) (by omega)
  obtain ⟨M3, y2, gd, dS, dM, df, d3, d4, d5⟩ := hR.2 L xs d x M2 0 none h2 w2
  rw [Nat.zero_add] at gd
  have hrun : Rs L xs (d + 6) 251 0 [some (.ref (400)), none, none] [] (M2) x = some (.inl (some (.int (nI k))), M3, x) := by
    simp only [s251_0, s251_1i, s251_1r, s251_1n]
    rw [gd]
    simp only [s251_20, s251_21]
  refine ⟨M1, M2, M3, g1, g2, hrun, dS.1.1, fun v => ?_⟩
  obtain ⟨M4, g4, w4, f4⟩ := g184 (L := L) (xs := xs) (d := d + 5) (x := x) (M := M3) (z := v)
  have e402 : M3.1 402 = M1.1 402 := by rw [df.1.1 402 (by decide), f2.1.1 402 (by decide)]
  refine ⟨M4, g4, fun k hk => by rw [w4 k hk, e402, w1 k hk], ?_⟩
  exact qf_trans (qf_mono f1 (fun a ha => Or.inr ha)) (qf_trans (qf_mono f2.1 (fun a ha => Or.inl ha)) (qf_trans (qf_mono df.1 (fun a ha => Or.inl ha)) (qf_mono f4 (fun a ha => Or.inl ha))))
end QL
