/-! undo, restore. -/
theorem qREL_bk {M M1 M2 : qxM} {G : qGs} (hR : qREL M) (hb : M.1 10 10 = bI true) (h10 : ∀ k, k ≠ 7 → k ≠ 8 → M1.1 10 k = M.1 10 k) (c1 : ∀ a, a ≠ 10 → ¬ qTf 100 a → M1.1 a = M.1 a)
    (d2 : ∀ k, k ≠ 0 → k ≠ 7 → M2.1 400 k = M1.1 400 k) (d5 : ∀ a, a ≠ 400 → a ≠ 401 → M2.1 a = M1.1 a) (n1 : cT 100 M1 G) (n2 : mT M2 G) (n3 : gG G) (n4 : 1 ≤ G.1.1) (hU : rUndo M2) : qREL M2 := by
  obtain ⟨⟨b, b1, b2, b0, b3⟩, ⟨⟨g, hg⟩, ⟨g', hg'⟩⟩, u, ⟨sv, v1, v2, v3⟩, ⟨n, p1, p2, p3, p4, p5, p6⟩, ⟨k, k1, k2, k3, k4⟩⟩ := hR
  have hbt : b = true := by
    cases b with
    | true => rfl
    | false =>
      rw [b1] at hb
      exact absurd hb (by decide)
  subst hbt
  have low : ∀ a, a < 400 → M2.1 a = M1.1 a := fun a ha => d5 a (by omega) (by omega)
  have far : ∀ a, a ≠ 10 → ¬ qTf 100 a → a ≠ 400 → a ≠ 401 → M2.1 a = M.1 a := fun a h1 h2 h3 h4 => by rw [d5 a h3 h4, c1 a h1 h2]
  have m400 : M1.1 400 = M.1 400 := c1 400 (by decide) (by unfold qTf; omega)
  have hcT1 : cT 100 M2 G := cT_fr n1 (fun a ha hb => low a (by omega))
  refine ⟨⟨true, ?_, ?_, ?_, ?_⟩, ⟨⟨G.2.2.2.2, hcT1.2.2⟩, ⟨g', ?_⟩⟩, hU, ⟨sv, v1, ?_, ?_⟩, ⟨n, p1, ?_, ?_, ?_, ?_, ?_⟩, ⟨k, k1, ?_, ?_, ?_⟩⟩
  · rw [low 10 (by decide), h10 10 (by decide) (by decide), b1]
  · rw [d2 6 (by decide) (by decide), m400, b2]
  · intro h
    exact absurd h (by decide)
  · intro _
    exact qKept_now n3 n4 hcT1 n2
  · have hf : qf (fun a => ¬ (113 ≤ a ∧ a < 140)) (M.1, M2.2) M2 := ⟨fun a ha => by
      have := Classical.not_not.mp ha
      exact far a (by omega) (by unfold qTf; omega) (by omega) (by omega), rfl⟩
    exact qS_fr (M := (M.1, M2.2)) hg' hf (by omega)
  · rw [low 10 (by decide), h10 9 (by decide) (by decide), v2]
  · intro k hk
    obtain ⟨w1, w2⟩ := v3 k hk
    refine ⟨by rw [far 405 (by decide) (by unfold qTf; omega) (by decide) (by decide), w1], fun hb => ?_⟩
    exact qKept_fr (w2 hb) (fun a ha hb => far a (by omega) (by unfold qTf; omega) (by omega) (by omega)) (fun k hk => by rw [far 404 (by decide) (by unfold qTf; omega) (by decide) (by decide)])
  · rw [far 20 (by decide) (by unfold qTf; omega) (by decide) (by decide), p2]
  · rw [d2 9 (by decide) (by decide), m400, p3]
  · intro i hi
    rw [far 21 (by decide) (by unfold qTf; omega) (by decide) (by decide), far 406 (by decide) (by unfold qTf; omega) (by decide) (by decide)]
    exact p4 i hi
  · rw [far 20 (by decide) (by unfold qTf; omega) (by decide) (by decide), d2 10 (by decide) (by decide), m400, p5]
  · rw [far 20 (by decide) (by unfold qTf; omega) (by decide) (by decide), d2 11 (by decide) (by decide), m400, p6]
  · rw [far 30 (by decide) (by unfold qTf; omega) (by decide) (by decide), k2]
  · rw [d2 21 (by decide) (by decide), m400, k3]
  · intro i hi
    rw [far 31 (by decide) (by unfold qTf; omega) (by decide) (by decide), far 410 (by decide) (by unfold qTf; omega) (by decide) (by decide), k4 i hi]
section QL
variable {L : Nat} {xs : Nat → Int32} {d x : Nat} {M : qxM}
theorem j155 (hR : qREL M) : qPair L xs (d + 40) 155 [some (.ref 10)] 330 [some (.ref 400)] ke0 M := by
  obtain ⟨k1, k2, k3⟩ := qx_m400
  obtain ⟨c, E, hc8, hE8, hE, hc, hc7, hk⟩ := hR.2.2.1
  by_cases h0 : c = 0
  · have hz : (nI c = 0) = True := by rw [h0]; decide
    have hz2 : (nI c ≤ 0) = True := by rw [h0]; decide
    refine qPair_of hR 1 0 (by decide) ?_ ?_
    · rw [if_neg (by decide)]
      simp only [s155_0, s155_1, s155_4, s155_7, qx_m10, hc, hz, List.length_cons, List.length_nil, Nat.zero_le, Nat.reduceAdd, Nat.reduceLeDiff, Option.bind_some, qx_kn_v, qx_kn_n, Nat.add_zero, Bool.false_eq_true, ↓reduceIte]
      rfl
    · intro o
      refine ⟨nI 0, ?_, fun h => absurd h (by decide)⟩
      have h1 : ∀ d, Rs L xs d 180 0 [some (.ref 400), some (.int (nI 0)), some (.int (nI 1)), some (.int (nI 1))] [] (M.1, o) 0 = some (.inl (some (.int (bI false))), qx_up (M.1, o) 400 0 (nI 1), 0) := fun d => a180 false true true
      simp only [s330_0, s330_1, s330_2, s330_5, s330_8, s330_9, s330_12, s330_13, s330_14, s330_15, s330_18, s330_21, s330_22, k1, hc7, hz2, h1, qbf, List.length_cons, List.length_nil, Nat.zero_le, Nat.reduceAdd, Nat.reduceLeDiff, Option.bind_some, qx_kn_v, qx_kn_n, Nat.add_zero, Bool.false_eq_true, ↓reduceIte]
  · have hbt : M.1 10 10 = bI true := by
      obtain ⟨b, b1, b2, b0, b3⟩ := hR.1
      cases b with
      | true => exact b1
      | false =>
        have := (b0 rfl).2.1
        rw [hc7] at this
        exact absurd ((nI_eq (by omega) (by decide)).mp this) h0
    have hnz : ¬ nI c = 0 := nI_ne0 (by omega) (by omega)
    have hnle : ¬ nI c ≤ 0 := nI_nle (by omega) (by omega)
    obtain ⟨E1, hE1, hE18⟩ : ∃ E1, E1 = (if E = 0 then 7 else E - 1) ∧ E1 < 8 := ⟨_, rfl, by split <;> omega⟩
    have hslot : (E + 8 - c + (c - 1)) % 8 = E1 := by
      rw [hE1]
      split <;> omega
    have hkept := hk (c - 1) (by omega)
    rw [hslot] at hkept
    obtain ⟨G, g1, g2, g3, g4⟩ := hkept
    have hTo := qx_Te hE18
    let Ma := qx_up (qx_up M 10 7 (nI E1)) 10 8 (nI (c - 1))
    have fa : qf (fun a => a = 10) M Ma := qf_trans (qf_up _ _ _ _ rfl) (qf_up _ _ _ _ rfl)
    have g3' : cT (140 + 20 * E1) Ma G := cT_fr g3 (fun a ha hb => fa.1 a (by omega))
    obtain ⟨Mb, gb, cb, fb⟩ := g74 (L := L) (xs := xs) (d := d + 36) (x := 0) (s := 100) (o := 140 + 20 * E1) (M := Ma) qx_T100 hTo (by omega) g3' g1.2.2.1.2.2
    have eb10 : Mb.1 10 = Ma.1 10 := fb.1 10 (by unfold qTf; omega)
    have hb8 : Mb.1 10 8 = nI (c - 1) := by
      rw [eb10]
      show (qx_up (qx_up M 10 7 (nI E1)) 10 8 (nI (c - 1))).1 10 8 = _
      simp [qx_up_at]
    have hb7 : Mb.1 10 7 = nI E1 := by
      rw [eb10]
      show (qx_up (qx_up M 10 7 (nI E1)) 10 8 (nI (c - 1))).1 10 7 = _
      simp [qx_up_at]
    have hbk : ∀ k, k ≠ 7 → k ≠ 8 → Mb.1 10 k = M.1 10 k := fun k h7 h8 => by
      rw [eb10]
      show (qx_up (qx_up M 10 7 (nI E1)) 10 8 (nI (c - 1))).1 10 k = _
      rw [qx_up_at, if_neg (by omega), qx_up_at, if_neg (by omega)]
    have hbf : ∀ a, a ≠ 10 → ¬ qTf 100 a → Mb.1 a = M.1 a := fun a h1 h2 => by rw [fb.1 a h2, fa.1 a h1]
    have hsub : nI c - nI 1 = nI (c - 1) := pk_sub (by omega)
    refine ⟨0, nI (c - 1), Mb, ?_, by decide, fun o => ?_⟩
    · rw [if_pos rfl]
      have hx8 : ∀ v, (qx_up M 10 7 v).1 10 8 = nI c := fun v => by rw [qx_up_at, if_neg (by omega), hc]
      have hx7 : ∀ v, (qx_up (qx_up M 10 7 (nI E1)) 10 8 v).1 10 7 = nI E1 := fun v => by simp [qx_up_at]
      have gb' : Rs L xs (d + 39) 74 0 [some (.ref 100), some (.ref (140 + 20 * E1))] [] (qx_up (qx_up M 10 7 (nI E1)) 10 8 (nI (c - 1))) 0 = some (.inl none, Mb, 0) := gb
      by_cases hE0 : E = 0
      · have hle : (nI E ≤ 0) = True := by rw [hE0]; decide
        have h7 : nI 7 = nI E1 := by rw [hE1, if_pos hE0]
        simp only [s155_0, s155_1, s155_4, s155_7, s155_10r, s155_10i, s155_18, s155_19, s155_20, s155_23, s155_26, s155_27, s155_30, s155_31, s155_32, s155_35, s155_37, s155_40, s155_41r, s155_41i, s155_42, s155_45, s155_46, s155_47, s155_50, s155_51, s155_54, s155_55, s155_56, s155_59, s155_60, s155_63, s155_66, s155_69, s155_70, s155_73, qx_m10, qx_T100.1, hTo.1, hc, hnz, hE, hle, h7, hx8, hx7, hsub, a167e hE18, gb', hb8, List.length_cons, List.length_nil, Nat.zero_le, Nat.reduceAdd, Nat.reduceLeDiff, Option.bind_some, qx_kn_v, qx_kn_n, Nat.add_zero, Bool.false_eq_true, ↓reduceIte]
      · have hle : ¬ nI E ≤ 0 := nI_nle (by omega) (by omega)
        have h7 : nI E - nI 1 = nI E1 := by rw [hE1, if_neg hE0]; exact pk_sub (by omega)
        simp only [s155_0, s155_1, s155_4, s155_7, s155_10r, s155_10i, s155_18, s155_19, s155_20, s155_23, s155_26, s155_27, s155_30, s155_31, s155_32, s155_35, s155_37, s155_40, s155_41r, s155_41i, s155_42, s155_45, s155_46, s155_47, s155_50, s155_51, s155_54, s155_55, s155_56, s155_59, s155_60, s155_63, s155_66, s155_69, s155_70, s155_73, qx_m10, qx_T100.1, hTo.1, hc, hnz, hE, hle, h7, hx8, hx7, hsub, a167e hE18, gb', hb8, List.length_cons, List.length_nil, Nat.zero_le, Nat.reduceAdd, Nat.reduceLeDiff, Option.bind_some, qx_kn_v, qx_kn_n, Nat.add_zero, Bool.false_eq_true, ↓reduceIte]
    · have e400 : Mb.1 400 = M.1 400 := hbf 400 (by decide) (by unfold qTf; omega)
      have e403 : Mb.1 403 = M.1 403 := hbf 403 (by decide) (by unfold qTf; omega)
      let Mc := qx_up (qx_up (Mb.1, o) 400 0 (nI 0)) 400 7 (nI (c - 1))
      have fc : qf (fun a => a = 400) (Mb.1, o) Mc := qf_trans (qf_up _ _ _ _ rfl) (qf_up _ _ _ _ rfl)
      obtain ⟨_, ⟨y1, y2⟩, _⟩ := qx_m4
      obtain ⟨Md, gd, wd, _, fd⟩ := g182 (L := L) (xs := xs) (d := d + 39) (x := 0) (i := (c - 1) * 335) (j := 0) (M := Mc) y1 y2 k2 k3 (by omega) (by decide) (by decide) (by decide) (by decide)
      have hd4 : ∀ k, Md.1 400 k = Mc.1 400 k := fun k => by rw [fd.1 400 (by decide)]
      have hd47 : Md.1 400 7 = nI (c - 1) := by
        rw [hd4]
        show (qx_up (qx_up (Mb.1, o) 400 0 (nI 0)) 400 7 (nI (c - 1))).1 400 7 = _
        simp [qx_up_at]
      have hmT : mT Md G := g4 Md (fun k hk => by
        have := wd k hk
        rw [Nat.zero_add] at this
        rw [this, fc.1 403 (by decide)]
        show Mb.1 403 _ = _
        rw [e403, Nat.mul_comm])
      refine ⟨nI (c - 1), Md, ?_, fd.2.trans fc.2, fun _ => rfl, ?_, ?_, fun a h1 h2 => by
        rw [fd.1 a (by omega), fc.1 a (by omega)]
        exact hbf a (by omega) (by unfold qTf; omega)⟩
      · have h1 : ∀ d, Rs L xs d 180 0 [some (.ref 400), some (.int (nI 1)), some (.int (nI 1)), some (.int (nI 1))] [] (Mb.1, o) 0 = some (.inl (some (.int (bI true))), qx_up (Mb.1, o) 400 0 (nI 0), 0) := fun d => a180 true true true
        have hc7' : Mb.1 400 7 = nI c := by rw [e400, hc7]
        have hx7 : (qx_up (Mb.1, o) 400 0 (nI 0)).1 400 7 = nI c := by rw [qx_up_at, if_neg (by omega)]; exact hc7'
        have hy7 : (qx_up (qx_up (Mb.1, o) 400 0 (nI 0)) 400 7 (nI (c - 1))).1 400 7 = nI (c - 1) := by simp [qx_up_at]
        have gd' : Rs L xs (d + 39) 182 0 [some (.ref 403), some (.int (nI ((c - 1) * 335))), some (.ref 401), some (.int (nI 0)), none] [] (qx_up (qx_up (Mb.1, o) 400 0 (nI 0)) 400 7 (nI (c - 1))) 0 = some (.inl none, Md, 0) := gd
        simp only [s330_0, s330_1, s330_2, s330_5, s330_8, s330_9, s330_12, s330_13, s330_14, s330_15, s330_18, s330_21, s330_22, s330_23, s330_24r, s330_24i, s330_25, s330_28, s330_29, s330_30, s330_33, s330_34, s330_37, s330_38, s330_41, s330_44, s330_45, s330_46, s330_49, s330_50, s330_53, s330_54, s330_57, k1, k2, y1, hc7', hnle, h1, qbt, hx7, hsub, hy7, pk_mul, gd', hd47, List.length_cons, List.length_nil, Nat.zero_le, Nat.reduceAdd, Nat.reduceLeDiff, Option.bind_some, qx_kn_v, qx_kn_n, Nat.add_zero, Bool.false_eq_true, ↓reduceIte]
      · rw [hd4]
        show (qx_up (qx_up (Mb.1, o) 400 0 (nI 0)) 400 7 (nI (c - 1))).1 400 0 = _
        simp [qx_up_at]
      · refine qREL_bk (M1 := Mb) hR hbt hbk hbf ?_ ?_ cb hmT g1 g2 ⟨c - 1, E1, by omega, hE18, ?_, ?_, hd47, ?_⟩
        · intro k h0 h7
          rw [hd4]
          show (qx_up (qx_up (Mb.1, o) 400 0 (nI 0)) 400 7 (nI (c - 1))).1 400 k = _
          rw [qx_up_at, if_neg (by omega), qx_up_at, if_neg (by omega)]
        · intro a h1 h2
          rw [fd.1 a h2, fc.1 a h1]
        · rw [fd.1 10 (by decide), fc.1 10 (by decide)]
          exact hb7
        · rw [fd.1 10 (by decide), fc.1 10 (by decide)]
          exact hb8
        · intro j hj
          have hs : (E1 + 8 - (c - 1) + j) % 8 = (E + 8 - c + j) % 8 := by
            rw [hE1]
            split <;> omega
          rw [hs]
          have hlt : (E + 8 - c + j) % 8 < 8 := Nat.mod_lt _ (by decide)
          refine qKept_fr (hk j (by omega)) (fun a ha hb => ?_) (fun k hk => ?_)
          · rw [fd.1 a (by omega), fc.1 a (by omega)]
            exact hbf a (by omega) (by unfold qTf; omega)
          · rw [fd.1 403 (by decide), fc.1 403 (by decide)]
            show Mb.1 403 _ = _
            rw [e403]
end QL
