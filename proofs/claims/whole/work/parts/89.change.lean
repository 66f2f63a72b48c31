/-! Changes: step, run, seek. -/
def kC (M M1 : qxM) (E c : Nat) (G0 : qGs) : Prop := M1.1 10 7 = nI (qRing E) ∧ M1.1 10 8 = nI (qNew c) ∧ (∀ k, k ≠ 7 → k ≠ 8 → M1.1 10 k = M.1 10 k) ∧ cT (140 + 20 * E) M1 G0 ∧ (∀ a, a ≠ 10 → ¬ qTf (140 + 20 * E) a → ¬ qTf 100 a → M1.1 a = M.1 a)
def kM (M1 M2 : qxM) (c : Nat) : Prop := M2.1 400 7 = nI (qNew c) ∧ (∀ k, k ≠ 0 → k ≠ 7 → M2.1 400 k = M1.1 400 k) ∧ M2.1 400 0 = nI 0 ∧
  (∀ k, k < 335 → M2.1 403 (335 * (if c = 8 then 7 else c) + k) = M1.1 401 k) ∧ (∀ j k, j < (if c = 8 then 7 else c) → k < 335 → M2.1 403 (335 * j + k) = M1.1 403 (335 * (if c = 8 then j + 1 else j) + k)) ∧ (∀ a, a ≠ 400 → a ≠ 401 → a ≠ 403 → M2.1 a = M1.1 a)
theorem kC_fr {M M1 M2 : qxM} {E c : Nat} {G0 : qGs} (hE : E < 8) (h : kC M M1 E c G0) (hf : qf (qTf 100) M1 M2) : kC M M2 E c G0 := by
  obtain ⟨h1, h2, h3, h4, h5⟩ := h
  have e10 : M2.1 10 = M1.1 10 := hf.1 10 (by unfold qTf; omega)
  refine ⟨by rw [e10, h1], by rw [e10, h2], fun k a b => by rw [e10, h3 k a b], cT_fr h4 (fun a ha hb => hf.1 a (by unfold qTf; omega)), fun a ha hb hc => by rw [hf.1 a hc, h5 a ha hb hc]⟩
theorem kM_fr {M1 M2 M3 : qxM} {c : Nat} (h : kM M1 M2 c) (hf : qf (fun a => a = 401) M2 M3) : kM M1 M3 c := by
  obtain ⟨h1, h2, h3, h4, h5, h6⟩ := h
  have e : ∀ a, a ≠ 401 → M3.1 a = M2.1 a := fun a ha => hf.1 a ha
  refine ⟨by rw [e 400 (by decide), h1], fun k a b => by rw [e 400 (by decide), h2 k a b], by rw [e 400 (by decide), h3], fun k hk => by rw [e 403 (by decide), h4 k hk], fun j k hj hk => by rw [e 403 (by decide), h5 j k hj hk], fun a ha hb hc => by rw [e a hb, h6 a ha hb hc]⟩
section QL
variable {L : Nat} {xs : Nat → Int32} {d x : Nat}
theorem kC_of {M : qxM} {c E : Nat} {G : qGs} (hE : M.1 10 7 = nI E) (hE8 : E < 8) (hc : M.1 10 8 = nI c) (hc8 : c ≤ 8) (h : cT 100 M G) (he : G.2.2.2.2.2.1.2.2.2.1 ≤ 14) :
    ∃ M', Rs L xs (d + 4) 166 0 [some (.ref (10))] [] (M) x = some (.inl (none), M', x) ∧ kC M M' E c G ∧ cT 100 M' G := by
  obtain ⟨M1, g1, w1, w2, w3, w4, f1⟩ := a166 (L := L) (xs := xs) (d := d) (x := x) hE hE8 hc hc8 h he
  refine ⟨M1, g1, ⟨w1, w2, w3, w4, fun a h1 h2 _ => f1.1 a (by rintro (q | q); exact h1 q; exact h2 q)⟩, cT_fr h (fun a ha hb => f1.1 a (by unfold qTf; omega))⟩
theorem kM_of {M : qxM} {c : Nat} (hc : M.1 400 7 = nI c) (hc8 : c ≤ 8) : ∃ M', Rs L xs (d + 1) 318 0 [some (.ref (400)), none] [] (qx_up M 400 0 (nI 0)) x = some (.inl (none), M', x) ∧ kM M M' c ∧ (∀ k, M'.1 401 k = M.1 401 k) ∧ M'.2 = M.2 := by
  obtain ⟨M1, g1, w1, w2, w3, w4, f1⟩ := g318 (L := L) (xs := xs) (d := d) (x := x) (M := qx_up M 400 0 (nI 0)) (c := c) (by rw [qx_up_at, if_neg (by omega), hc]) hc8
  have e : ∀ a, a ≠ 400 → (qx_up M 400 0 (nI 0)).1 a = M.1 a := fun a ha => qx_up_ne M 0 (nI 0) ha
  refine ⟨M1, g1, ⟨w1, ?_, ?_, ?_, ?_, ?_⟩, ?_, f1.2⟩
  · intro k h0 h7
    rw [w2 k h7, qx_up_at, if_neg (by omega)]
  · rw [w2 0 (by decide), qx_up_at, if_pos ⟨rfl, rfl⟩]
  · intro k hk
    rw [w3 k hk, e 401 (by decide)]
  · intro j k hj hk
    rw [w4 j k hj hk, e 403 (by decide)]
  · intro a h0 h1 h3
    rw [f1.1 a (by omega), e a h0]
  · intro k
    rw [f1.1 401 (by decide), e 401 (by decide)]
end QL
theorem qPair_chg {L : Nat} {xs : Nat → Int32} {d Y Z : Nat} {as zs : List (Option Value)} {ke : Nat → String} {M : qxM} {c E : Nat} {G0 G1 : qGs} (hR : qREL M) (hE8 : E < 8) (hc8 : c ≤ 8) (hE : M.1 10 7 = nI E) (hc : M.1 10 8 = nI c)
    (hld : M.1 10 10 = bI true) (hmt : mT M G0) (hg0 : gG G0) (hn0 : 1 ≤ G0.1.1) (v : Int32) {M1 : qxM}
    (h1 : Rs L xs d Y 0 as [] M 0 = some (.inl (some (.int v)), M1, 0)) (hC : kC M M1 E c G0) (hT : cT 100 M1 G1)
    (h2 : ∀ o, ∃ M2, Rs L xs d Z 0 zs [] (M1.1, o) 0 = some (.inl (some (.int v)), M2, 0) ∧ M2.2 = o ∧ kM (M1.1, o) M2 c ∧ mT M2 G1) (hg1 : gG G1) (hn1 : 1 ≤ G1.1.1) : qPair L xs d Y as Z zs ke M := by
  refine ⟨0, v, M1, by rw [h1, if_pos rfl], by decide, fun o => ?_⟩
  obtain ⟨M2, e1, e2, ⟨d1, d2, d0, d3, d4, d5⟩, e4⟩ := h2 o
  obtain ⟨c1, c2, c3, c4, c5⟩ := hC
  exact ⟨v, M2, e1, e2, fun _ => rfl, d0, qREL_chg hR hE8 hc8 hE hc hld hmt hg0 hn0 c1 c2 c3 c4 c5 d1 d2 d3 d4 d5 hT e4 hg1 hn1, fun a h1 h2 => by
    rw [d5 a (by omega) (by omega) (by omega)]
    exact c5 a (by omega) (by unfold qTf; omega) (by unfold qTf; omega)⟩
theorem kC_401 {M M1 : qxM} {E c : Nat} {G0 : qGs} (hE : E < 8) (h : kC M M1 E c G0) : M1.1 401 = M.1 401 ∧ M1.1 400 = M.1 400 := ⟨h.2.2.2.2 401 (by decide) (by unfold qTf; omega) (by unfold qTf; omega), h.2.2.2.2 400 (by decide) (by unfold qTf; omega) (by unfold qTf; omega)⟩
theorem gG_T {n r q : Nat} {f mt : Nat → Nat} {s : Int32 × Int32 × Int32 × Int32} {g : qSg} (hp : qp_ok n r q f mt) (h : gT n mt g) : gG ((n, r, q), f, mt, s, g) := by
  obtain ⟨b1, b2, b3, b4, b5⟩ := gT_b h
  exact ⟨hp, Or.inr h, ⟨b1, b2, b3⟩, b4⟩
theorem qp_wm {n r q : Nat} {f mt mt' : Nat → Nat} (hp : qp_ok n r q f mt) (h : qm_ok n mt') : qp_ok n r q f mt' := ⟨hp.1, hp.2.1, hp.2.2.1, hp.2.2.2.1, hp.2.2.2.2.1, h⟩
section QL
variable {L : Nat} {xs : Nat → Int32} {d x : Nat}
/-- what a change of the search needs -/
theorem jgo {Y Z : Nat} {M : qxM} (hR : qREL M) {as zs : List (Option Value)}
    (ht : ∀ (d : Nat) (E : String), (∀ d, Rs L xs (d + 1) 165 0 [some (.ref 10)] [] M 0 = some (.inr E, M, 1)) → Rs L xs (d + 40) Y 0 as [] M 0 = some (.inr E, M, 1))
    (hm : ∀ (d : Nat) (o : (Nat → Int64) × (Nat → UInt64)) (b : Bool) (M' : qxM) (st : Nat), M.1 401 35 = nI st → st < 4 → M.1 400 6 = bI b → (b && decide (st = 1)) = false → Rs L xs (d + 40) Z 0 zs [] (M.1, o) 0 = some (.inl (some (.int (nI 0))), qx_up (M.1, o) 400 0 (nI (qC3 b (decide (st = 1)) true)), 0))
    (ok : M.1 10 10 = bI true → M.1 104 0 = nI 1 → qPair L xs (d + 40) Y as Z zs ke01 M) : qPair L xs (d + 40) Y as Z zs ke01 M := by
  rcases qREL_cmp hR with ⟨b1, b2, b3, b4⟩ | ⟨b1, b2, n, r, q, f, mt, s1, s2, s3, s4, st, rt, sp, bm, ou, inn, qb, e, as', qa, bs, lk, nr, fr, wy, hp, hn1, hT, hou, hinn, he14, hst4, hu, ⟨a1, a2, a3, a4⟩, hS, hmm, ⟨m1, m2, m3, m4⟩, h35, hN⟩
  · refine qPair_of hR 1 0 (by decide) ?_ ?_
    · rw [if_neg (by decide)]
      exact ht d _ (fun d => a165t b1)
    · intro o
      exact ⟨nI 0, hm d o false M 0 b4 (by decide) b2 rfl, fun h => absurd h (by decide)⟩
  · have hst0 : M.1 104 0 = nI st := hS.1.1
    by_cases hs : st = 1
    · rw [hs] at hst0
      exact ok b1 hst0
    · refine qPair_of hR 2 0 (by decide) ?_ ?_
      · rw [if_neg (by decide)]
        exact ht d _ (fun d => a165o b1 hst0 hst4 hs)
      · intro o
        have := hm d o true M st h35 hst4 b2 (by rw [decide_eq_false hs]; rfl)
        rw [decide_eq_false hs] at this
        exact ⟨nI 0, this, fun h => absurd h (by decide)⟩
theorem j146 {M : qxM} (hR : qREL M) : qPair L xs (d + 40) 146 [some (.ref 10)] 321 [some (.ref 400)] ke01 M := by
  obtain ⟨k1, k2, k3⟩ := qx_m400
  refine jgo hR ?_ ?_ ?_
  · intro d E h
    simp only [s146_0, s146_1, qx_m10, h, List.length_cons, List.length_nil, Nat.zero_le, Nat.reduceAdd, Nat.reduceLeDiff, Option.bind_some, qx_kn_v, qx_kn_n, Nat.add_zero, Bool.false_eq_true, ↓reduceIte]
    exact qx_kn_t rfl rfl rfl
  · intro d o b M' st h35 hs4 hb hf
    have h1 := fun d => g250 (L := L) (xs := xs) (d := d) (x := 0) (M := (M.1, o)) (show _ = nI st from h35) hs4
    have h2 := fun d => a181 (L := L) (xs := xs) (d := d) (x := 0) (M := (M.1, o)) b (decide (st = 1))
    have h3 : decide (qC3 b (decide (st = 1)) true = 0) = false := by
      cases b
      · rfl
      · rw [Bool.true_and] at hf
        rw [hf]
        rfl
    rw [h3] at h2
    simp only [s321_0, s321_1, s321_2, s321_5, s321_6, s321_9, s321_12, s321_15, s321_16, k1, hb, h1, h2, bI_z, qbf, List.length_cons, List.length_nil, Nat.zero_le, Nat.reduceAdd, Nat.reduceLeDiff, Option.bind_some, qx_kn_v, qx_kn_n, Nat.add_zero, Bool.false_eq_true, ↓reduceIte]
  · intro hl hs1
    obtain ⟨c, E, hc8, hE8, hE, hc, hc7⟩ := qREL_ring hR
    rcases qREL_now hR with ⟨b1, _⟩ | ⟨b1, b2, ⟨⟨n, r, q⟩, f, mt, ⟨s1, s2, s3, s4⟩, ⟨⟨st, rt, sp, bm⟩, ⟨ou, inn, qb, e, as⟩, qa, bs, lk, nr, fr, wy⟩⟩, hG, hn1, hcT, hmT⟩
    · rw [b1] at hl
      exact absurd hl (by decide)
    · have hst : st = 1 := by
        have h1 : M.1 104 0 = nI st := hcT.2.2.1.1
        rw [h1] at hs1
        exact (nI_eq (by have := hG.2.2.2; dsimp only at this; omega) (by decide)).mp hs1
      subst hst
      have hp : qp_ok n r q f mt := hG.1
      have hgt : gT n mt ((1, rt, sp, bm), (ou, inn, qb, e, as), qa, bs, lk, nr, fr, wy) := hG.2.1.resolve_left (show ¬ (1 = 0) by decide)
      obtain ⟨T1, ⟨mt0, tm, T2, T3⟩, T4⟩ := hgt
      have hm0 : mt0 = mt := T3 (show ¬ (1 = 2) by decide)
      rw [hm0] at T2
      have hGo : qg_ok n rt mt ou inn qb e as qa tm bs lk wy := T2
      have hqe : qb < e := T4 rfl
      obtain ⟨z, mt1, g1, b1', b2', b3', b4', b5', b6', b7', b8', b9', b10'⟩ := q_adv (sp := sp) (bm := bm) (nr := nr) (fr := fr) hp hGo hqe
      have hp1 := qp_wm hp b2'
      obtain ⟨Ma, ga, kC1, cTa⟩ := kC_of (L := L) (xs := xs) (d := d + 35) (x := 0) hE hE8 hc hc8 hcT hG.2.2.1.2.2
      obtain ⟨Mb, gb, cTb, fb⟩ := g76 (L := L) (xs := xs) (d := d + 34) (x := 0) (z := z) (g' := g1) (mt' := mt1) qx_T100 cTa b6' (gT_b b3').2.2.2.1 (fun L xs d x t u M h1 h2 h3 h4 h5 => b9' L xs d x t u M h1 h2 h3 h4 h5)
      have kC2 := kC_fr hE8 kC1 fb
      obtain ⟨e401, e400⟩ := kC_401 hE8 kC2
      refine qPair_chg (M1 := Mb) hR hE8 hc8 hE hc b1 hmT hG hn1 (nI z) ?_ kC2 cTb ?_ (gG_T hp1 b3') hn1
      · simp only [s146_0, s146_1, s146_4, s146_5, s146_8, s146_9, s146_12, s146_15, qx_m10, qx_T100.1, a165 b1 hs1, ga, gb, List.length_cons, List.length_nil, Nat.zero_le, Nat.reduceAdd, Nat.reduceLeDiff, Option.bind_some, qx_kn_v, qx_kn_n, Nat.add_zero, Bool.false_eq_true, ↓reduceIte]
      · intro o
        have h6 : (Mb.1, o).1 400 6 = bI true := by
          show Mb.1 400 6 = bI true
          rw [e400, b2]
        have h35 : (Mb.1, o).1 401 35 = nI 1 := by
          show Mb.1 401 35 = nI 1
          rw [e401]
          exact hmT.2.2.1
        obtain ⟨Mc, gc, kM1, w401, wo⟩ := kM_of (L := L) (xs := xs) (d := d + 38) (x := 0) (M := (Mb.1, o)) (c := c) (by show Mb.1 400 7 = nI c; rw [e400, hc7]) hc8
        have hmc : mT Mc ((n, r, q), f, mt, (s1, s2, s3, s4), ((1, rt, sp, bm), (ou, inn, qb, e, as), qa, bs, lk, nr, fr, wy)) := mT_cong hG hmT (fun k _ => by rw [w401 k]; show Mb.1 401 k = _; rw [e401])
        obtain ⟨Md, gd, dS, dM, df, d3, d4, d5⟩ := b10' L xs (d + 34) 0 Mc hmc.1 (hmc.2.2.2 (show 1 ≠ 0 by decide))
        refine ⟨Md, ?_, ?_, kM_fr kM1 df.1, ?_⟩
        · have h1 := fun d => g250 (L := L) (xs := xs) (d := d) (x := 0) h35 (by decide)
          have h2 := fun d => c181c (L := L) (xs := xs) (d := d) (x := 0) (M := (Mb.1, o))
          simp only [decide_true] at h1
          rw [show (Mb.1, o).1 400 6 = Mb.1 400 6 from rfl] at h6
          simp only [s321_0, s321_1, s321_2, s321_5, s321_6, s321_9, s321_12, s321_15, s321_16, s321_17, s321_18, s321_21, s321_22, s321_25, k1, h6, h1, h2, qbt, gc, gd, List.length_cons, List.length_nil, Nat.zero_le, Nat.reduceAdd, Nat.reduceLeDiff, Option.bind_some, qx_kn_v, qx_kn_n, Nat.add_zero, Bool.false_eq_true, ↓reduceIte]
        · rw [df.1.2, wo]
        · refine ⟨nPu_step hmc.1 df dM (by omega), ⟨?_, ?_, ?_, ?_⟩, dS.1.1, fun _ => dS⟩
          · rw [d3, hmc.2.1.1]
          · rw [d4, hmc.2.1.2.1]
          · rw [d5, hmc.2.1.2.2.1]
          · rw [df.2 6 (by omega), hmc.2.1.2.2.2]
end QL
