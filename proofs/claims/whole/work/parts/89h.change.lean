/-! restore, save. -/
def ke20 (k : Nat) : String := if k = 1 then qx_ex 2 else if k = 2 then qx_ex 0 else ""
theorem qx_m405 : qx_kd 404 = 0 ∧ qx_ln 404 = 670 ∧ qx_kd 405 = 2 ∧ qx_ln 405 = 2 := by decide +kernel
section QL
variable {L : Nat} {xs : Nat → Int32} {d x : Nat} {M : qxM}
theorem a178s (z : Int32) : Rs L xs (d) 178 0 [some (.int (z)), some (.int (nI 0)), some (.int (nI 1))] [] (M) x = some (.inl (some (.int (bI (!decide (qOut 2 z))))), M, x) := a178k (k := 1) (by decide) z
theorem z181a (w : Bool) : Rs L xs (d + 1) 181 0 [some (.ref 400), some (.int (bI false)), some (.int (nI 0))] [] M x = some (.inl (some (.int (bI false))), qx_up M 400 0 (nI 1), x) := a181 false false
theorem z181b : Rs L xs (d + 1) 181 0 [some (.ref 400), some (.int (bI true)), some (.int (nI 0))] [] M x = some (.inl (some (.int (bI false))), qx_up M 400 0 (nI 2), x) := a181 true false
theorem z181c : Rs L xs (d + 1) 181 0 [some (.ref 400), some (.int (bI true)), some (.int (nI 1))] [] M x = some (.inl (some (.int (bI true))), qx_up M 400 0 (nI 0), x) := a181 true true
theorem j158 (hR : qREL M) (z : Int32) : qPair L xs (d + 40) 158 [some (.ref 10), some (.int z)] 333 [some (.ref 400), some (.int z), none] ke20 M := by
  obtain ⟨k1, k2, k3⟩ := qx_m400
  obtain ⟨y1, y2, y3, y4⟩ := qx_m405
  obtain ⟨sv, v1, v2, v3⟩ := hR.2.2.2.1
  by_cases hz : qOut 2 z
  · refine qPair_of hR 1 0 (by decide) ?_ ?_
    · rw [if_neg (by decide)]
      simp only [s158_0, s158_1, s158_2, qx_m10, a164t hz, List.length_cons, List.length_nil, Nat.zero_le, Nat.reduceAdd, Nat.reduceLeDiff, Option.bind_some, qx_kn_v, qx_kn_n, Nat.add_zero, Bool.false_eq_true, ↓reduceIte]
      exact qx_kn_t rfl rfl rfl
    · intro o
      refine ⟨nI 0, ?_, fun h => absurd h (by decide)⟩
      have h1 := fun d => a178s (L := L) (xs := xs) (d := d) (x := 0) (M := (M.1, o)) z
      rw [decide_eq_true hz] at h1
      have h2 := fun d => z181a (L := L) (xs := xs) (d := d) (x := 0) (M := (M.1, o)) false
      simp only [s333_0, s333_1, s333_2, s333_3, s333_6i, s333_6r, s333_6n, s333_7, s333_8, s333_9, s333_10, s333_13, s333_14, s333_17, s333_18, s333_18z, s333_19, s333_22, s333_23, s333_26, s333_27, s333_30, s333_33, s333_34, k1, h1, Bool.not_true, qbf, h2, List.length_cons, List.length_nil, Nat.zero_le, Nat.reduceAdd, Nat.reduceLeDiff, Option.bind_some, qx_kn_v, qx_kn_n, Nat.add_zero, Bool.false_eq_true, ↓reduceIte]
  · obtain ⟨p, p1, p2⟩ := qOut_not (by decide) hz
    subst p2
    have hslot := fun (d x : Nat) => a164 (L := L) (xs := xs) (d := d) (x := x) (M := M) p1
    obtain ⟨w1, w2⟩ := v3 p p1
    have hj : qx_ib (nI p) 2 = true := qx_ib_of p1 (by decide)
    have hcl : (nI p).toNatClampNeg = p := nI_clamp (by omega)
    have hin : ∀ (F : qxM) (d : Nat), Rs L xs d 178 0 [some (.int (nI p)), some (.int (nI 0)), some (.int (nI 1))] [] F 0 = some (.inl (some (.int (bI true))), F, 0) := fun F d => by
      have h := a178s (L := L) (xs := xs) (d := d) (x := 0) (M := F) (nI p)
      rw [decide_eq_false hz] at h
      exact h
    cases hb : sv.testBit p
    · rw [hb] at w1
      refine qPair_of hR 2 0 (by decide) ?_ ?_
      · rw [if_neg (by decide)]
        simp only [s158_0, s158_1, s158_2, s158_5, s158_6, s158_9, s158_10, s158_13, s158_16, qx_m10, hslot, v2, m170 (show sv < 2 ^ 31 by omega) (show p < 31 by omega), hb, qbf, List.length_cons, List.length_nil, Nat.zero_le, Nat.reduceAdd, Nat.reduceLeDiff, Option.bind_some, qx_kn_v, qx_kn_n, Nat.add_zero, Bool.false_eq_true, ↓reduceIte]
        rfl
      · intro o
        refine ⟨nI 0, ?_, fun h => absurd h (by decide)⟩
        have h2 := fun d => z181b (L := L) (xs := xs) (d := d) (x := 0) (M := (M.1, o))
        simp only [s333_0, s333_1, s333_2, s333_3, s333_6i, s333_6r, s333_6n, s333_7, s333_8, s333_9, s333_10, s333_13, s333_14, s333_17, s333_18, s333_18z, s333_19, s333_22, s333_23, s333_26, s333_27, s333_30, s333_33, s333_34, k1, hin, qbt, y3, y4, hj, hcl, w1, qbf, h2, List.length_cons, List.length_nil, Nat.zero_le, Nat.reduceAdd, Nat.reduceLeDiff, Option.bind_some, qx_kn_v, qx_kn_n, Nat.add_zero, Bool.false_eq_true, ↓reduceIte]
    · rw [hb] at w1
      have hbt : M.1 10 10 = bI true := by
        obtain ⟨b, b1, b2, b0, b3⟩ := hR.1
        cases b with
        | true => exact b1
        | false =>
          have := (b0 rfl).2.2.1
          rw [v2] at this
          have h0 : sv = 0 := (nI_eq (by omega) (by decide)).mp this
          rw [h0, Nat.zero_testBit] at hb
          exact absurd hb (by decide)
      obtain ⟨G, g1, g2, g3, g4⟩ := w2 hb
      have hTo := qx_Ts p1
      obtain ⟨c, E, hc8, hE8, hE, hc, hc7⟩ := qREL_ring hR
      obtain ⟨Mb, gb, cb, fb⟩ := g74 (L := L) (xs := xs) (d := d + 36) (x := 0) (s := 100) (o := 300 + 20 * p) qx_T100 hTo (by omega) g3 g1.2.2.1.2.2
      have fc : qf (fun a => a = 10) Mb (qx_up Mb 10 8 (nI 0)) := qf_up _ _ _ _ rfl
      have cc : cT 100 (qx_up Mb 10 8 (nI 0)) G := cT_fr cb (fun a ha hb => fc.1 a (by omega))
      have eb10 : Mb.1 10 = M.1 10 := fb.1 10 (by unfold qTf; omega)
      have hP : qx_P 101 := qx_T100.2.1
      refine ⟨0, nI (qm_np G.1.1 G.2.2.1), qx_up Mb 10 8 (nI 0), ?_, by decide, fun o => ?_⟩
      · rw [if_pos rfl]
        simp only [s158_0, s158_1, s158_2, s158_5, s158_6, s158_9, s158_10, s158_13, s158_16, s158_19r, s158_19i, s158_27, s158_28, s158_31, s158_32, s158_33, s158_36, s158_37, s158_40, s158_43, s158_44, s158_45, s158_48, s158_49, s158_52, s158_55, s158_58, qx_m10, qx_T100.1, hTo.1, hP.1, hslot, v2, m170 (show sv < 2 ^ 31 by omega) (show p < 31 by omega), hb, qbt, a167s p1, gb, g48 hP g1.1.1 cc.1.1 cc.1.2.2.2.2, List.length_cons, List.length_nil, Nat.zero_le, Nat.reduceAdd, Nat.reduceLeDiff, Option.bind_some, qx_kn_v, qx_kn_n, Nat.add_zero, Bool.false_eq_true, ↓reduceIte]
      · have hM1 : ∀ a, a ≠ 10 → ¬ qTf 100 a → (qx_up Mb 10 8 (nI 0)).1 a = M.1 a := fun a h1 h2 => by rw [fc.1 a h1, fb.1 a h2]
        have h10 : ∀ k, k ≠ 8 → (qx_up Mb 10 8 (nI 0)).1 10 k = M.1 10 k := fun k h => by rw [qx_up_at, if_neg (by omega), eb10]
        have h108 : (qx_up Mb 10 8 (nI 0)).1 10 8 = nI 0 := by simp [qx_up_at]
        generalize qx_up Mb 10 8 (nI 0) = Mz at cc hM1 fc h10 h108
        have e405 : Mz.1 405 p = bI true := by rw [hM1 405 (by decide) (by unfold qTf; omega), w1]
        let Mc := qx_up (Mz.1, o) 400 0 (nI 0)
        have fcc : qf (fun a => a = 400) (Mz.1, o) Mc := qf_up _ _ _ _ rfl
        obtain ⟨Md, gd, wd, _, fd⟩ := g182 (L := L) (xs := xs) (d := d + 39) (x := 0) (i := p * 335) (j := 0) (M := Mc) y1 y2 k2 k3 (by omega) (by decide) (by decide) (by decide) (by decide)
        have hmT : mT Md G := g4 Md (fun k hk => by
          have := wd k hk
          rw [Nat.zero_add] at this
          rw [this, fcc.1 404 (by decide)]
          show Mz.1 404 _ = _
          rw [hM1 404 (by decide) (by unfold qTf; omega), Nat.mul_comm])
        have ff : qf (fun a => a = 400) Md (qx_up Md 400 7 (nI 0)) := qf_up _ _ _ _ rfl
        have hmT2 : mT (qx_up Md 400 7 (nI 0)) G := mT_cong g1 hmT (fun k _ => by rw [ff.1 401 (by decide)])
        refine ⟨nI (qm_np G.1.1 G.2.2.1), qx_up Md 400 7 (nI 0), ?_, ff.2.trans (fd.2.trans fcc.2), fun _ => rfl, ?_, ?_, fun a h1 h2 => by
          rw [ff.1 a (by omega), fd.1 a (by omega), fcc.1 a (by omega)]
          exact hM1 a (by omega) (by unfold qTf; omega)⟩
        · have h2 := fun d => z181c (L := L) (xs := xs) (d := d) (x := 0) (M := (Mz.1, o))
          have h405 : (Mz.1, o).1 405 p = bI true := e405
          have gd' : Rs L xs (d + 39) 182 0 [some (.ref 404), some (.int (nI (p * 335))), some (.ref 401), some (.int (nI 0)), none] [] (qx_up (Mz.1, o) 400 0 (nI 0)) 0 = some (.inl none, Md, 0) := gd
          have h224 := fun d => g224 (L := L) (xs := xs) (d := d) (x := 0) (M := qx_up Md 400 7 (nI 0)) g1.1.1 hmT2.1.1 hmT2.1.2.2.2.2
          simp only [s333_0, s333_1, s333_2, s333_3, s333_6i, s333_6r, s333_6n, s333_7, s333_8, s333_9, s333_10, s333_13, s333_14, s333_17, s333_18, s333_18z, s333_19, s333_22, s333_23, s333_26, s333_27, s333_30, s333_33, s333_34, s333_35, s333_36, s333_39, s333_40, s333_43, s333_44, s333_45, s333_48, s333_49, s333_52, s333_53, s333_54, s333_57, s333_58, s333_61, k1, k2, y1, hin, qbt, y3, y4, hj, hcl, e405, h2, pk_mul, gd', h224, List.length_cons, List.length_nil, Nat.zero_le, Nat.reduceAdd, Nat.reduceLeDiff, Option.bind_some, qx_kn_v, qx_kn_n, Nat.add_zero, Bool.false_eq_true, ↓reduceIte]
        · rw [qx_up_at, if_neg (by omega), fd.1 400 (by decide)]
          show (qx_up (Mz.1, o) 400 0 (nI 0)).1 400 0 = _
          simp [qx_up_at]
        · have hd4 : ∀ k, k ≠ 7 → (qx_up Md 400 7 (nI 0)).1 400 k = (qx_up (Mz.1, o) 400 0 (nI 0)).1 400 k := fun k h => by
            rw [qx_up_at, if_neg (by omega), fd.1 400 (by decide)]
          have hlow : ∀ a, a ≠ 400 → a ≠ 401 → (qx_up Md 400 7 (nI 0)).1 a = Mz.1 a := fun a h1 h2 => by
            rw [ff.1 a h1, fd.1 a h2, fcc.1 a h1]
          refine qREL_bk (M1 := Mz) hR hbt (fun k _ h8 => h10 k h8) hM1 ?_ hlow cc hmT2 g1 g2 ⟨0, E, by decide, hE8, ?_, ?_, ?_, fun j hj => absurd hj (Nat.not_lt_zero j)⟩
          · intro k h0 h7
            rw [hd4 k h7, qx_up_at, if_neg (by omega)]
          · rw [hlow 10 (by decide) (by decide), h10 7 (by decide), hE]
          · rw [hlow 10 (by decide) (by decide), h108]
          · simp [qx_up_at]
theorem j157 (hR : qREL M) (z : Int32) : qPair L xs (d + 40) 157 [some (.ref 10), some (.int z)] 332 [some (.ref 400), some (.int z)] ke02 M := by
  obtain ⟨k1, k2, k3⟩ := qx_m400
  obtain ⟨y1, y2, y3, y4⟩ := qx_m405
  have h178 := fun (o : (Nat → Int64) × (Nat → UInt64)) d => a178s (L := L) (xs := xs) (d := d) (x := 0) (M := (M.1, o)) z
  rcases qREL_now hR with ⟨b1, b2, b3, b4⟩ | ⟨b1, b2, G, hG, hn1, hcT, hmT⟩
  · refine qPair_of hR 1 0 (by decide) ?_ ?_
    · rw [if_neg (by decide)]
      simp only [s157_0, s157_1, qx_m10, a159t b1, List.length_cons, List.length_nil, Nat.zero_le, Nat.reduceAdd, Nat.reduceLeDiff, Option.bind_some, qx_kn_v, qx_kn_n, Nat.add_zero, Bool.false_eq_true, ↓reduceIte]
      exact qx_kn_t rfl rfl rfl
    · intro o
      refine ⟨nI 0, ?_, fun h => absurd h (by decide)⟩
      have h3 := fun d => c181a (L := L) (xs := xs) (d := d) (x := 0) (M := (M.1, o)) (!decide (qOut 2 z))
      simp only [s332_0, s332_1, s332_2, s332_5, s332_6, s332_7, s332_8, s332_11, s332_14, s332_17, s332_18, k1, b2, h178, h3, qbf, List.length_cons, List.length_nil, Nat.zero_le, Nat.reduceAdd, Nat.reduceLeDiff, Option.bind_some, qx_kn_v, qx_kn_n, Nat.add_zero, Bool.false_eq_true, ↓reduceIte]
  · by_cases hz : qOut 2 z
    · refine qPair_of hR 2 0 (by decide) ?_ ?_
      · rw [if_neg (by decide)]
        simp only [s157_0, s157_1, s157_4, s157_5, s157_6, qx_m10, a159 b1, a164t hz, List.length_cons, List.length_nil, Nat.zero_le, Nat.reduceAdd, Nat.reduceLeDiff, Option.bind_some, qx_kn_v, qx_kn_n, Nat.add_zero, Bool.false_eq_true, ↓reduceIte]
        exact qx_kn_t rfl rfl rfl
      · intro o
        refine ⟨nI 0, ?_, fun h => absurd h (by decide)⟩
        have h1 := fun d => h178 o d
        rw [decide_eq_true hz] at h1
        have h3 := fun d => c181b (L := L) (xs := xs) (d := d) (x := 0) (M := (M.1, o))
        simp only [s332_0, s332_1, s332_2, s332_5, s332_6, s332_7, s332_8, s332_11, s332_14, s332_17, s332_18, k1, b2, h1, Bool.not_true, h3, qbf, List.length_cons, List.length_nil, Nat.zero_le, Nat.reduceAdd, Nat.reduceLeDiff, Option.bind_some, qx_kn_v, qx_kn_n, Nat.add_zero, Bool.false_eq_true, ↓reduceIte]
    · obtain ⟨p, p1, p2⟩ := qOut_not (by decide) hz
      subst p2
      have hslot := fun (d x : Nat) => a164 (L := L) (xs := xs) (d := d) (x := x) (M := M) p1
      have hTo := qx_Ts p1
      obtain ⟨⟨b, r1, r2, r0, r3⟩, ⟨⟨gg, hgg⟩, ⟨gt, hgt⟩⟩, ⟨c, E, c1, c2, c3, c4, c5, c6⟩, ⟨sv, v1, v2, v3⟩, ⟨n, q1, q2, q3, q4, q5, q6⟩, ⟨kk, t1, t2, t3, t4⟩⟩ := id hR
      obtain ⟨Ma, ga, ca, fa⟩ := g74 (L := L) (xs := xs) (d := d + 36) (x := 0) (s := 300 + 20 * p) (o := 100) hTo qx_T100 (by omega) hcT hG.2.2.1.2.2
      have fb : qf (fun a => a = 10) Ma (qx_up Ma 10 9 (nI (sv ||| 2 ^ p))) := qf_up _ _ _ _ rfl
      have ea10 : Ma.1 10 = M.1 10 := fa.1 10 (by unfold qTf; omega)
      have hb1 : ∀ a, a ≠ 10 → ¬ qTf (300 + 20 * p) a → (qx_up Ma 10 9 (nI (sv ||| 2 ^ p))).1 a = M.1 a := fun a h1 h2 => by rw [fb.1 a h1, fa.1 a h2]
      have hcc : cT (300 + 20 * p) (qx_up Ma 10 9 (nI (sv ||| 2 ^ p))) G := cT_fr ca (fun a ha hb => fb.1 a (by omega))
      have hc1 : cT 100 (qx_up Ma 10 9 (nI (sv ||| 2 ^ p))) G := cT_fr hcT (fun a ha hb => hb1 a (by omega) (by unfold qTf; omega))
      have h10 : ∀ k, k ≠ 9 → (qx_up Ma 10 9 (nI (sv ||| 2 ^ p))).1 10 k = M.1 10 k := fun k h => by rw [qx_up_at, if_neg (by omega), ea10]
      have h109 : (qx_up Ma 10 9 (nI (sv ||| 2 ^ p))).1 10 9 = nI (sv ||| 2 ^ p) := by simp [qx_up_at]
      have hP : qx_P 101 := qx_T100.2.1
      have hv9 : Ma.1 10 9 = nI sv := by rw [ea10, v2]
      refine ⟨0, nI (qm_np G.1.1 G.2.2.1), qx_up Ma 10 9 (nI (sv ||| 2 ^ p)), ?_, by decide, fun o => ?_⟩
      · rw [if_pos rfl]
        simp only [s157_0, s157_1, s157_4, s157_5, s157_6, s157_9, s157_10, s157_11, s157_14, s157_15, s157_18, s157_19, s157_22, s157_25, s157_26r, s157_26i, s157_27, s157_30, s157_31, s157_34, s157_35, s157_38, s157_39, s157_42, s157_45, s157_48, qx_m10, qx_T100.1, hTo.1, hP.1, a159 b1, hslot, a167s p1, ga, hv9, m169 (show p < 31 by omega), qb_or, g48 hP hG.1.1 hc1.1.1 hc1.1.2.2.2.2, List.length_cons, List.length_nil, Nat.zero_le, Nat.reduceAdd, Nat.reduceLeDiff, Option.bind_some, qx_kn_v, qx_kn_n, Nat.add_zero, Bool.false_eq_true, ↓reduceIte]
      · generalize qx_up Ma 10 9 (nI (sv ||| 2 ^ p)) = Mz at fb hb1 hcc hc1 h10 h109
        have hup : ∀ a, 400 ≤ a → Mz.1 a = M.1 a := fun a ha => hb1 a (by omega) (by unfold qTf; omega)
        have fcc : qf (fun a => a = 400) (Mz.1, o) (qx_up (Mz.1, o) 400 0 (nI 0)) := qf_up _ _ _ _ rfl
        obtain ⟨Md, gd, wd, ud, fd⟩ := g182 (L := L) (xs := xs) (d := d + 39) (x := 0) (i := 0) (j := p * 335) (M := qx_up (Mz.1, o) 400 0 (nI 0)) k2 k3 y1 y2 (by decide) (by omega) (by decide) (by decide) (by decide)
        have ff : qf (fun a => a = 405) Md (qx_up Md 405 p (nI 1)) := qf_up _ _ _ _ rfl
        have e401 : ∀ k, (qx_up Md 405 p (nI 1)).1 401 k = M.1 401 k := fun k => by
          rw [ff.1 401 (by decide), fd.1 401 (by decide), fcc.1 401 (by decide)]
          show Mz.1 401 k = _
          rw [hup 401 (by decide)]
        have hmT2 : mT (qx_up Md 405 p (nI 1)) G := mT_cong hG hmT (fun k _ => e401 k)
        have hlow : ∀ a, a ≠ 400 → a ≠ 404 → a ≠ 405 → (qx_up Md 405 p (nI 1)).1 a = Mz.1 a := fun a h1 h2 h3 => by
          rw [ff.1 a h3, fd.1 a h2, fcc.1 a h1]
        have h400 : ∀ k, (qx_up Md 405 p (nI 1)).1 400 k = (qx_up (Mz.1, o) 400 0 (nI 0)).1 400 k := fun k => by
          rw [ff.1 400 (by decide), fd.1 400 (by decide)]
        have h400k : ∀ k, k ≠ 0 → (qx_up Md 405 p (nI 1)).1 400 k = M.1 400 k := fun k h => by
          rw [h400, qx_up_at, if_neg (by omega)]
          show Mz.1 400 k = _
          rw [hup 400 (by decide)]
        refine ⟨nI (qm_np G.1.1 G.2.2.1), qx_up Md 405 p (nI 1), ?_, ff.2.trans (fd.2.trans fcc.2), fun _ => rfl, ?_, ?_, fun a h1 h2 => by
          rw [hlow a (by omega) (by omega) (by omega)]
          exact hb1 a (by omega) (by unfold qTf; omega)⟩
        · have h6 : Mz.1 400 6 = bI true := by rw [hup 400 (by decide), b2]
          have h1 := fun d => a178s (L := L) (xs := xs) (d := d) (x := 0) (M := (Mz.1, o)) (nI p)
          rw [decide_eq_false hz] at h1
          have h3 := fun d => c181c (L := L) (xs := xs) (d := d) (x := 0) (M := (Mz.1, o))
          have hj : qx_ib (nI p) 2 = true := qx_ib_of p1 (by decide)
          have hcl : (nI p).toNatClampNeg = p := nI_clamp (by omega)
          have h224 := fun d => g224 (L := L) (xs := xs) (d := d) (x := 0) (M := qx_up Md 405 p (nI 1)) hG.1.1 hmT2.1.1 hmT2.1.2.2.2.2
          simp only [s332_0, s332_1, s332_2, s332_5, s332_6, s332_7, s332_8, s332_11, s332_14, s332_17, s332_18, s332_19, s332_20, s332_23, s332_24, s332_25, s332_28, s332_29, s332_32, s332_33, s332_36, s332_37, s332_40, s332_41, s332_42, s332_42z, s332_43, s332_44, s332_47, k1, k2, y1, y3, y4, h6, h1, Bool.not_false, h3, qbt, pk_mul, gd, hj, hcl, qx_z1, h224, List.length_cons, List.length_nil, Nat.zero_le, Nat.reduceAdd, Nat.reduceLeDiff, Option.bind_some, qx_kn_v, qx_kn_n, Nat.add_zero, Bool.false_eq_true, ↓reduceIte]
        · rw [h400]
          simp [qx_up_at]
        · refine ⟨⟨true, ?_, ?_, fun h => absurd h (by decide), fun _ => ?_⟩, ⟨⟨G.2.2.2.2, ?_⟩, ⟨gt, ?_⟩⟩, ⟨c, E, c1, c2, ?_, ?_, ?_, ?_⟩, ⟨sv ||| 2 ^ p, ?_, ?_, ?_⟩, ⟨n, q1, ?_, ?_, ?_, ?_, ?_⟩, ⟨kk, t1, ?_, ?_, ?_⟩⟩
          · rw [hlow 10 (by decide) (by decide) (by decide), h10 10 (by decide), b1]
          · rw [h400k 6 (by decide), b2]
          · exact qKept_now hG hn1 (cT_fr hc1 (fun a ha hb => hlow a (by omega) (by omega) (by omega))) hmT2
          · exact (cT_fr hc1 (fun a ha hb => hlow a (by omega) (by omega) (by omega))).2.2
          · have hf : qf (fun a => ¬ (113 ≤ a ∧ a < 140)) (M.1, (qx_up Md 405 p (nI 1)).2) (qx_up Md 405 p (nI 1)) := ⟨fun a ha => by
              have := Classical.not_not.mp ha
              rw [hlow a (by omega) (by omega) (by omega)]
              exact hb1 a (by omega) (by unfold qTf; omega), rfl⟩
            exact qS_fr (M := (M.1, (qx_up Md 405 p (nI 1)).2)) hgt hf (by omega)
          · rw [hlow 10 (by decide) (by decide) (by decide), h10 7 (by decide), c3]
          · rw [hlow 10 (by decide) (by decide) (by decide), h10 8 (by decide), c4]
          · rw [h400k 7 (by decide), c5]
          · intro j hj
            have hlt : (E + 8 - c + j) % 8 < 8 := Nat.mod_lt _ (by decide)
            refine qKept_fr (c6 j hj) (fun a ha hb => ?_) (fun k hk => ?_)
            · rw [hlow a (by omega) (by omega) (by omega)]
              exact hb1 a (by omega) (by unfold qTf; omega)
            · rw [hlow 403 (by decide) (by decide) (by decide), hup 403 (by decide)]
          · exact Nat.or_lt_two_pow (n := 2) v1 (Nat.pow_lt_pow_right (by decide) p1)
          · rw [hlow 10 (by decide) (by decide) (by decide), h109]
          · intro k hk
            obtain ⟨w1, w2⟩ := v3 k hk
            rw [Nat.testBit_or, qb_two]
            by_cases hkp : p = k
            · subst hkp
              refine ⟨?_, fun _ => ?_⟩
              · rw [qx_up_at, if_pos ⟨rfl, rfl⟩]
                simp
                rfl
              · refine qKept_of hG hn1 (cT_fr hcc (fun a ha hb => hlow a (by omega) (by omega) (by omega))) hmT (fun k hk => ?_)
                rw [ff.1 404 (by decide), Nat.mul_comm, wd k hk, Nat.zero_add, fcc.1 401 (by decide)]
                show Mz.1 401 k = _
                rw [hup 401 (by decide)]
            · refine ⟨?_, fun hb => ?_⟩
              · rw [qx_up_at, if_neg (fun w => hkp w.2.symm), fd.1 405 (by decide), fcc.1 405 (by decide)]
                show Mz.1 405 k = _
                rw [hup 405 (by decide), w1]
                simp [hkp]
              · have hb2 : sv.testBit k = true := by simpa [hkp] using hb
                refine qKept_fr (w2 hb2) (fun a ha hb => ?_) (fun i hi => ?_)
                · rw [hlow a (by omega) (by omega) (by omega)]
                  exact hb1 a (by omega) (by unfold qTf; omega)
                · rw [ff.1 404 (by decide), ud _ (by omega), fcc.1 404 (by decide)]
                  show Mz.1 404 _ = _
                  rw [hup 404 (by decide)]
          · rw [hlow 20 (by decide) (by decide) (by decide), hb1 20 (by decide) (by unfold qTf; omega), q2]
          · rw [h400k 9 (by decide), q3]
          · intro i hi
            rw [hlow 21 (by decide) (by decide) (by decide), hb1 21 (by decide) (by unfold qTf; omega), hlow 406 (by decide) (by decide) (by decide), hup 406 (by decide)]
            exact q4 i hi
          · rw [hlow 20 (by decide) (by decide) (by decide), hb1 20 (by decide) (by unfold qTf; omega), h400k 10 (by decide), q5]
          · rw [hlow 20 (by decide) (by decide) (by decide), hb1 20 (by decide) (by unfold qTf; omega), h400k 11 (by decide), q6]
          · rw [hlow 30 (by decide) (by decide) (by decide), hb1 30 (by decide) (by unfold qTf; omega), t2]
          · rw [h400k 21 (by decide), t3]
          · intro i hi
            rw [hlow 31 (by decide) (by decide) (by decide), hb1 31 (by decide) (by unfold qTf; omega), hlow 410 (by decide) (by decide) (by decide), hup 410 (by decide), t4 i hi]
end QL
