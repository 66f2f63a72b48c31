/-! The search goes on to its end. -/
def qx_T (s : Nat) : Prop := qx_kd s = 14 ∧ qx_P (s + 1) ∧ qx_Z (s + 4)
theorem qPu_step {u t : Nat} {M M' : qxM} {n r q : Nat} {f mt mt' : Nat → Nat} {P : Nat → Prop} (h : qPu u M n r q f mt) (hf : qf P M M') (hm : qMt u M' mt') (h1 : ¬ P u) (h2 : ¬ P (u + 1)) : qPu u M' n r q f mt' := by
  obtain ⟨a1, a2, a3, a4, a5⟩ := h
  unfold qPu
  rw [hf.1 u h1, hf.1 _ h2]
  exact ⟨a1, a2, a3, a4, hm⟩
theorem nPu_step {M M' : qxM} {n r q : Nat} {f mt mt' : Nat → Nat} {R : Nat → Prop} (h : nPu M n r q f mt) (hf : mf R M M') (hm : nMt M' mt') (hR : ∀ j, R j → 3 ≤ j ∧ j < 7 ∨ 21 ≤ j) : nPu M' n r q f mt' := by
  obtain ⟨a1, a2, a3, a4, a5⟩ := h
  refine ⟨?_, ?_, ?_, ?_, hm⟩
  · rw [hf.2 _ (fun z => by have := hR _ z; omega), a1]
  · rw [hf.2 _ (fun z => by have := hR _ z; omega), a2]
  · rw [hf.2 _ (fun z => by have := hR _ z; omega), a3]
  · intro p hp
    rw [hf.2 _ (fun z => by have := hR _ z; omega), a4 p hp]
def qRun (n r q : Nat) (f mt : Nat → Nat) (g : qSg) (k : Nat) (mt' : Nat → Nat) (g' : qSg) : Prop :=
  (∀ (L : Nat) (xs : Nat → Int32) (d x s : Nat) (M : qxM) (z1 z2 : Int32) (i : Nat), qx_T s → qPu (s + 1) M n r q f mt → cS (s + 4) M g → i + k < 1000 →
    ∃ M', Rs L xs (d + 5) 77 18 [some (.ref s), some (.int z1), some (.int z2), some (.int (nI i))] [] M x = Rs L xs (d + 5) 77 54 [some (.ref s), some (.int z1), some (.int z2), some (.int (nI (i + k)))] [] M' x ∧ cS (s + 4) M' g' ∧ qMt (s + 1) M' mt' ∧ qf (fun a => s + 3 ≤ a ∧ a ≤ s + 12) M M') ∧
  (∀ (L : Nat) (xs : Nat → Int32) (d x : Nat) (M : qxM) (c : Nat) (a2 : Option Value), nPu M n r q f mt → mS M g →
    ∃ M' b2, Rs L xs (d + 6) 251 2 [some (.ref 400), some (.int (nI c)), a2] [] M x = Rs L xs (d + 6) 251 20 [some (.ref 400), some (.int (nI (c + k))), b2] [] M' x ∧ mS M' g' ∧ nMt M' mt' ∧ mf (fun j => 3 ≤ j ∧ j ≤ 5 ∨ 21 ≤ j) M M' ∧
      M'.1 401 3 = M.1 401 3 + nI (if g'.1.1 = 2 then 1 else 0) ∧ M'.1 401 4 = M.1 401 4 + nI (if g'.1.1 = 3 then 1 else 0) ∧ M'.1 401 5 = M.1 401 5 + nI (g'.1.2.2.2 - g.1.2.2.2))
section QL
variable {L : Nat} {xs : Nat → Int32} {d x : Nat} {M : qxM}
theorem g250 {st : Nat} (h : M.1 401 35 = nI st) (hs : st < 4) : Rs L xs (d) 250 0 [some (.ref (400))] [] (M) x = some (.inl (some (.int (bI (decide (st = 1))))), M, x) := by
  obtain ⟨k1, k2, k3⟩ := qx_m400
  have h1 : (nI st = nI 1) = (st = 1) := qi_eq (by omega) (by decide)
  by_cases z : st = 1
  · simp only [s250_0, s250_1, s250_4, s250_6, s250_7, s250_8, s250_11, s250_12, s250_15, s250_16, k1, k2, k3, h, h1, z, decide_true, bI_z, bI_t, (qn_c (35) (by omega)).1, (qn_c (35) (by omega)).2, List.length_cons, List.length_nil, Nat.zero_le, Nat.reduceAdd, Nat.reduceLeDiff, Option.bind_some, qx_kn_v, qx_kn_n, Nat.add_zero, Bool.false_eq_true, ↓reduceIte]
  · simp only [s250_0, s250_1, s250_4, s250_6, s250_7, s250_8, s250_11, s250_12, s250_15, s250_16, k1, k2, k3, h, h1, z, decide_false, bI_z, bI_f, (qn_c (35) (by omega)).1, (qn_c (35) (by omega)).2, List.length_cons, List.length_nil, Nat.zero_le, Nat.reduceAdd, Nat.reduceLeDiff, Option.bind_some, qx_kn_v, qx_kn_n, Nat.add_zero, Bool.false_eq_true, ↓reduceIte]
end QL
theorem q_runs {n r q : Nat} {f : Nat → Nat} : ∀ (m : Nat) (mt : Nat → Nat) (g : qSg), gmu g < m → qp_ok n r q f mt → gT n mt g → g.1.1 = 1 →
    ∃ k mt' g', k ≤ m ∧ qm_ok n mt' ∧ gT n mt' g' ∧ (g'.1.1 = 2 ∨ g'.1.1 = 3) ∧ g'.1.2.1 = g.1.2.1 ∧ g'.1.2.2.1 = g.1.2.2.1 + k ∧ g.1.2.2.2 ≤ g'.1.2.2.2 ∧ g'.1.2.2.2 ≤ g.1.2.2.2 + k ∧ qRun n r q f mt g k mt' g' := by
  intro m
  induction m with
  | zero => intro mt g h; omega
  | succ m ih =>
    rintro mt ⟨⟨st, rt, sp, bm⟩, ⟨ou, inn, qb, e, as⟩, qa, bs, lk, nr, fr, wy⟩ hmu hp hT hst
    obtain ⟨T1, ⟨mt0, tm, T2, T3⟩, T4⟩ := hT
    dsimp only at hst T1 T3 T4
    subst hst
    have hm0 : mt0 = mt := T3 (by decide)
    rw [hm0] at T2
    have hG : qg_ok n rt mt ou inn qb e as qa tm bs lk wy := T2
    have hqe : qb < e := T4 rfl
    obtain ⟨c, mt1, g1, b1, b2, b3, b4, b5, b6, b7, b8, b9, b10⟩ := q_adv (sp := sp) (bm := bm) (nr := nr) (fr := fr) hp hG hqe
    have hp1 : qp_ok n r q f mt1 := by
      obtain ⟨p1, p2, p3, p4, p5, p6⟩ := hp
      exact ⟨p1, p2, p3, p4, p5, b2⟩
    by_cases hs1 : g1.1.1 = 1
    · have hmu1 := b8 hs1
      obtain ⟨k, mt', g', c1, c2, c3, c4, c5, c6, c7, c8, c9, c10⟩ := ih mt1 g1 (by
        have h : gmu ((1, rt, sp, bm), (ou, inn, qb, e, as), qa, bs, lk, nr, fr, wy) = 15 * (14 - qb) + (14 - as) := rfl
        omega) hp1 b3 hs1
      refine ⟨k + 1, mt', g', by omega, c2, c3, c4, ?_, ?_, ?_, ?_, ?_, ?_⟩
      · rw [c5, b4]
      · rw [c6, b5]
        show sp + 1 + k = sp + (k + 1)
        omega
      · show bm ≤ _
        omega
      · show _ ≤ bm + (k + 1)
        omega
      · intro L xs d x s M z1 z2 i hT hu hS hi
        obtain ⟨t1, t2, t3⟩ := hT
        have h1 : ¬ nI 1000 ≤ nI i := nI_ge (by omega) (by decide)
        obtain ⟨M1, e1, e2, e3, e4⟩ := b9 L xs d 0 (s + 4) (s + 1) M t3 t2 (by omega) hu hS
        have e5 := qf_mono e4 (Q := fun a => s + 3 ≤ a ∧ a ≤ s + 12) (fun a ha => by unfold qSf at ha; omega)
        obtain ⟨M2, f1, f2, f3, f4⟩ := c9 L xs d x s M1 z1 z2 (i + 1) ⟨t1, t2, t3⟩ (qPu_step (t := s + 4) hu e5 e3 (by omega) (by omega)) e2 (by omega)
        refine ⟨M2, ?_, f2, f3, qf_trans e5 f4⟩
        have hs0 : M.1 (s + 4) 0 = nI 1 := hS.1.1
        simp only [s77_18, s77_19, s77_22, s77_25, s77_26, s77_29, s77_32, s77_33, s77_36, s77_37, s77_40, s77_41, s77_44, s77_47, s77_48i, s77_48r, s77_48n, t1, t2.1, t3.1, h1, hs0, eq_self, e1, nI_add, List.length_cons, List.length_nil, Nat.zero_le, Nat.reduceAdd, Nat.reduceLeDiff, Option.bind_some, qx_kn_v, qx_kn_n, Nat.add_zero, Bool.false_eq_true, ↓reduceIte]
        rw [s77_51, f1, show i + 1 + k = i + (k + 1) by omega]
      · intro L xs d x M c0 a2 hu hS
        have h35 : M.1 401 35 = nI 1 := hS.1.1
        obtain ⟨M1, e1, e2, e3, e4, e5, e6, e7⟩ := b10 L xs d 0 M hu hS
        obtain ⟨M2, w2, f1, f2, f3, f4, f5, f6, f7⟩ := c10 L xs d x M1 (c0 + 1) (some (.int (nI c))) (nPu_step hu e4 e3 (by omega)) e2
        refine ⟨M2, w2, ?_, f2, f3, mf_trans e4 f4, ?_, ?_, ?_⟩
        · simp only [s251_2, s251_3, s251_6, s251_9, s251_10, s251_13i, s251_13r, s251_13n, s251_14i, s251_14r, s251_14n, qx_m400.1, g250 h35 (by decide), e1, decide_true, bI_0, Bool.true_eq_false, nI_add, List.length_cons, List.length_nil, Nat.zero_le, Nat.reduceAdd, Nat.reduceLeDiff, Option.bind_some, qx_kn_v, qx_kn_n, Nat.add_zero, Bool.false_eq_true, ↓reduceIte]
          rw [s251_17, f1, show c0 + 1 + k = c0 + (k + 1) by omega]
        · rw [f5, e5, hs1]
          rw [if_neg (show ¬ 1 = 2 by decide), qi_a0]
        · rw [f6, e6, hs1]
          rw [if_neg (show ¬ 1 = 3 by decide), qi_a0]
        · rw [f7, e7, Int32.add_assoc, nI_add]
          congr 2
          show _ = _ - bm
          omega
    · have hs2 : g1.1.1 = 2 ∨ g1.1.1 = 3 := by
        rcases b3.1 with z | z
        · exact absurd z hs1
        · exact z
      refine ⟨1, mt1, g1, by omega, b2, b3, hs2, b4, b5, b6, b7, ?_, ?_⟩
      · intro L xs d x s M z1 z2 i hT hu hS hi
        obtain ⟨t1, t2, t3⟩ := hT
        have h1 : ¬ nI 1000 ≤ nI i := nI_ge (by omega) (by decide)
        have h2 : ¬ nI 1000 ≤ nI (i + 1) := nI_ge (by omega) (by decide)
        obtain ⟨M1, e1, e2, e3, e4⟩ := b9 L xs d 0 (s + 4) (s + 1) M t3 t2 (by omega) hu hS
        refine ⟨M1, ?_, e2, e3, qf_mono e4 (fun a ha => by unfold qSf at ha; omega)⟩
        have hs0 : M.1 (s + 4) 0 = nI 1 := hS.1.1
        have hs9 : M1.1 (s + 4) 0 = nI g1.1.1 := e2.1.1
        have hs8 : (nI g1.1.1 = nI 1) = False := by
          rw [qi_eq (by omega) (by decide)]
          exact eq_false hs1
        simp only [s77_18, s77_19, s77_22, s77_25, s77_26, s77_29, s77_32, s77_33, s77_36, s77_37, s77_40, s77_41, s77_44, s77_47, s77_48i, s77_48r, s77_48n, t1, t2.1, t3.1, h1, hs0, eq_self, e1, nI_add, List.length_cons, List.length_nil, Nat.zero_le, Nat.reduceAdd, Nat.reduceLeDiff, Option.bind_some, qx_kn_v, qx_kn_n, Nat.add_zero, Bool.false_eq_true, ↓reduceIte]
        rw [s77_51]
        simp only [s77_18, s77_19, s77_22, s77_25, s77_26, s77_29, s77_32, s77_33, t1, t2.1, t3.1, h2, hs9, hs8, List.length_cons, List.length_nil, Nat.zero_le, Nat.reduceAdd, Nat.reduceLeDiff, Option.bind_some, qx_kn_v, qx_kn_n, Nat.add_zero, Bool.false_eq_true, ↓reduceIte]
      · intro L xs d x M c0 a2 hu hS
        have h35 : M.1 401 35 = nI 1 := hS.1.1
        obtain ⟨M1, e1, e2, e3, e4, e5, e6, e7⟩ := b10 L xs d 0 M hu hS
        have h36 : M1.1 401 35 = nI g1.1.1 := e2.1.1
        have hd : decide (g1.1.1 = 1) = false := decide_eq_false hs1
        refine ⟨M1, some (.int (nI c)), ?_, e2, e3, e4, e5, e6, e7⟩
        simp only [s251_2, s251_3, s251_6, s251_9, s251_10, s251_13i, s251_13r, s251_13n, s251_14i, s251_14r, s251_14n, qx_m400.1, g250 h35 (by decide), e1, decide_true, bI_0, Bool.true_eq_false, nI_add, List.length_cons, List.length_nil, Nat.zero_le, Nat.reduceAdd, Nat.reduceLeDiff, Option.bind_some, qx_kn_v, qx_kn_n, Nat.add_zero, Bool.false_eq_true, ↓reduceIte]
        rw [s251_17]
        simp only [s251_2, s251_3, s251_6, qx_m400.1, g250 h36 (by omega), hd, bI_0, List.length_cons, List.length_nil, Nat.zero_le, Nat.reduceAdd, Nat.reduceLeDiff, Option.bind_some, qx_kn_v, qx_kn_n, Nat.add_zero, Bool.false_eq_true, ↓reduceIte]
