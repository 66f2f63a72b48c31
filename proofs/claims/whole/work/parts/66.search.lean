/-! Search: leaving, growing, a blossom. -/
section QL
variable {L : Nat} {xs : Nat → Int32} {d x : Nat} {t u rt : Nat} {M : qxM}
theorem qS_fr {st sp bm ou inn qb e as : Nat} {qa bs lk nr fr : Nat → Nat} {wy : Nat → List Nat} {M' : qxM} {P : Nat → Prop} (h : qS t M st rt sp bm ou inn qb e as qa bs lk nr fr wy) (hf : qf P M M') (hP : ∀ a, P a → a < t ∨ t + 8 < a) :
    qS t M' st rt sp bm ou inn qb e as qa bs lk nr fr wy := by
  have hn : ∀ j, j ≤ 8 → ¬ P (t + j) := fun j hj q => by
    have := hP _ q
    omega
  have h0 : M'.1 t = M.1 t := hf.1 t (hn 0 (by decide))
  obtain ⟨s1, s2, s3, s4, s5, s6, s7⟩ := h
  refine ⟨?_, ?_, ?_, ?_, ?_, ?_, ?_⟩
  · unfold qS1 at s1 ⊢
    rw [h0]
    exact s1
  · intro j hj
    rw [hf.1 _ (hn 1 (by decide))]
    exact s2 j hj
  · intro p hp
    rw [hf.1 _ (hn 2 (by decide))]
    exact s3 p hp
  · intro p hp
    rw [hf.1 _ (hn 3 (by decide))]
    exact s4 p hp
  · intro p hp
    rw [hf.1 _ (hn 4 (by decide))]
    exact s5 p hp
  · intro p hp
    rw [hf.1 _ (hn 5 (by decide))]
    exact s6 p hp
  · exact qW_fr s7 hf (hn 7 (by decide)) (hn 8 (by decide))
/-- a number of the search itself is set -/
theorem qS_t {st sp bm ou inn qb e as : Nat} {st' rt' sp' bm' ou' inn' qb' e' as' : Nat} {qa bs lk nr fr : Nat → Nat} {wy : Nat → List Nat} {k : Nat} {v : Int32} (h : qS t M st rt sp bm ou inn qb e as qa bs lk nr fr wy)
    (h1 : qS1 t (qx_up M t k v) st' rt' sp' bm' ou' inn' qb' e' as') (he : e' ≤ e) : qS t (qx_up M t k v) st' rt' sp' bm' ou' inn' qb' e' as' qa bs lk nr fr wy := by
  have hf : qf (fun a => a = t) M (qx_up M t k v) := qf_up _ _ _ _ rfl
  obtain ⟨s1, s2, s3, s4, s5, s6, s7⟩ := h
  refine ⟨h1, ?_, ?_, ?_, ?_, ?_, ?_⟩
  · intro j hj
    rw [hf.1 _ (by omega)]
    exact s2 j (by omega)
  · intro p hp
    rw [hf.1 _ (by omega)]
    exact s3 p hp
  · intro p hp
    rw [hf.1 _ (by omega)]
    exact s4 p hp
  · intro p hp
    rw [hf.1 _ (by omega)]
    exact s5 p hp
  · intro p hp
    rw [hf.1 _ (by omega)]
    exact s6 p hp
  · exact qW_fr s7 hf (by omega) (by omega)
theorem g65a {st sp bm ou inn qb e as : Nat} {qa bs lk nr fr : Nat → Nat} {wy : Nat → List Nat} (hZ : qx_Z t) (h : qS t M st rt sp bm ou inn qb e as qa bs lk nr fr wy) (he : qb + 1 < e) (he2 : e ≤ 14) :
    ∃ M', Rs L xs (d + 1) 65 0 [some (.ref (t))] [] (M) x = some (.inl (some (.int (nI 5))), M', x) ∧ qS t M' st rt sp bm ou inn (qb + 1) e 0 qa bs lk nr fr wy ∧ qf (qSf t) M M' := by
  have h0 := h
  obtain ⟨⟨t0, t1, t2, t3, t4, t5, t6, t7, t8⟩, s⟩ := h
  have hs1 : qS t (qx_up M t 6 (nI (qb + 1))) st rt sp bm ou inn (qb + 1) e as qa bs lk nr fr wy := by
    refine qS_t h0 ?_ (Nat.le_refl _)
    unfold qS1
    simp [qx_up_at, t0, t1, t2, t3, t4, t5, t7, t8]
  have hs2 : qS t (qx_up (qx_up M t 6 (nI (qb + 1))) t 8 (nI 0)) st rt sp bm ou inn (qb + 1) e 0 qa bs lk nr fr wy := by
    refine qS_t hs1 ?_ (Nat.le_refl _)
    unfold qS1
    simp [qx_up_at, t0, t1, t2, t3, t4, t5, t7]
  have a7 := hs2.1.2.2.2.2.2.2.2.1
  have a6 := hs2.1.2.2.2.2.2.2.1
  have hc : ¬ nI (e - (qb + 1)) ≤ 0 := nI_nle (by omega) (by omega)
  have hsub : nI e - nI (qb + 1) = nI (e - (qb + 1)) := by
    have h1 := nI_add (e - (qb + 1)) (qb + 1)
    rw [show e - (qb + 1) + (qb + 1) = e by omega] at h1
    rw [← h1, Int32.add_sub_cancel]
  refine ⟨_, ?_, hs2, qf_trans (qf_up _ _ _ _ ⟨by omega, by omega⟩) (qf_up _ _ _ _ ⟨by omega, by omega⟩)⟩
  simp only [s65_0, s65_1r, s65_1i, s65_2, s65_5, s65_6, s65_7, s65_10, s65_11, s65_12, s65_15, s65_16, s65_19, s65_22, s65_23, s65_24, s65_25, s65_26, s65_29, s65_30, hZ.1, t6, nI_add, m60 hZ, a7, a6, hsub, hc, List.length_cons, List.length_nil, Nat.zero_le, Nat.reduceAdd, Nat.reduceLeDiff, Option.bind_some, qx_kn_v, qx_kn_n, Nat.add_zero, ↓reduceIte]
theorem g65b {st sp bm ou inn qb e as : Nat} {qa bs lk nr fr : Nat → Nat} {wy : Nat → List Nat} (hZ : qx_Z t) (h : qS t M st rt sp bm ou inn qb e as qa bs lk nr fr wy) (he : qb + 1 = e) (he2 : e ≤ 14) :
    ∃ M', Rs L xs (d + 1) 65 0 [some (.ref (t))] [] (M) x = some (.inl (some (.int (nI 4))), M', x) ∧ qS t M' 3 rt sp bm ou inn (qb + 1) e 0 qa bs lk nr fr wy ∧ qf (qSf t) M M' := by
  have h0 := h
  obtain ⟨⟨t0, t1, t2, t3, t4, t5, t6, t7, t8⟩, s⟩ := h
  have hs1 : qS t (qx_up M t 6 (nI (qb + 1))) st rt sp bm ou inn (qb + 1) e as qa bs lk nr fr wy := by
    refine qS_t h0 ?_ (Nat.le_refl _)
    unfold qS1
    simp [qx_up_at, t0, t1, t2, t3, t4, t5, t7, t8]
  have hs2 : qS t (qx_up (qx_up M t 6 (nI (qb + 1))) t 8 (nI 0)) st rt sp bm ou inn (qb + 1) e 0 qa bs lk nr fr wy := by
    refine qS_t hs1 ?_ (Nat.le_refl _)
    unfold qS1
    simp [qx_up_at, t0, t1, t2, t3, t4, t5, t7]
  have hs3 : qS t (qx_up (qx_up (qx_up M t 6 (nI (qb + 1))) t 8 (nI 0)) t 0 (nI 3)) 3 rt sp bm ou inn (qb + 1) e 0 qa bs lk nr fr wy := by
    refine qS_t hs2 ?_ (Nat.le_refl _)
    unfold qS1
    simp [qx_up_at, t1, t2, t3, t4, t5, t7]
  have a7 := hs2.1.2.2.2.2.2.2.2.1
  have a6 := hs2.1.2.2.2.2.2.2.1
  have hc : (nI (e - (qb + 1)) ≤ 0) = True := by
    rw [show e - (qb + 1) = 0 by omega]
    decide
  have hsub : nI e - nI (qb + 1) = nI (e - (qb + 1)) := by
    have h1 := nI_add (e - (qb + 1)) (qb + 1)
    rw [show e - (qb + 1) + (qb + 1) = e by omega] at h1
    rw [← h1, Int32.add_sub_cancel]
  refine ⟨_, ?_, hs3, qf_trans (qf_up _ _ _ _ ⟨by omega, by omega⟩) (qf_trans (qf_up _ _ _ _ ⟨by omega, by omega⟩) (qf_up _ _ _ _ ⟨by omega, by omega⟩))⟩
  simp only [s65_0, s65_1r, s65_1i, s65_2, s65_5, s65_6, s65_7, s65_10, s65_11, s65_12, s65_15, s65_16, s65_19, s65_22, s65_23, s65_24, s65_25, s65_26, s65_29, s65_30, hZ.1, t6, nI_add, m60 hZ, a7, a6, hsub, hc, List.length_cons, List.length_nil, Nat.zero_le, Nat.reduceAdd, Nat.reduceLeDiff, Option.bind_some, qx_kn_v, qx_kn_n, Nat.add_zero, ↓reduceIte]
theorem g67 {v w y st sp bm ou inn qb e as : Nat} {qa bs lk nr fr : Nat → Nat} {wy : Nat → List Nat} (hZ : qx_Z t) (h : qS t M st rt sp bm ou inn qb e as qa bs lk nr fr wy) (hv : v < 14) (hw : w < 14) (hy : y < 14) (he : e < 14) (hyv : y ≠ v) (hwy : wy y = []) (hl : (wy v).length + 2 ≤ 14) :
    ∃ M', Rs L xs (d + 3) 67 0 [some (.ref (t)), some (.int (nI v)), some (.int (nI w)), some (.int (nI y))] [] (M) x = some (.inl (none), M', x) ∧ qS t M' st rt sp bm (ou ||| 2 ^ y) (qb_dif (inn ||| 2 ^ w) (2 ^ y)) qb (e + 1) as (qu qa e y) bs (qu lk w v) nr fr (qu wy y (y :: w :: wy v)) ∧ qf (qSf t) M M' := by
  have h0 := h
  have k3 := hZ.2.1 3 (by decide) (by decide)
  obtain ⟨⟨t0, t1, t2, t3, t4, t5, t6, t7, t8⟩, s2, s3, s4, s5, s6, s7⟩ := h
  have fa : qf (fun a => a = t ∨ a = t + 3) M (qx_up (qx_up M t 5 (nI (inn ||| 2 ^ w))) (t + 3) w (nI v)) := qf_trans (qf_up _ _ _ _ (Or.inl rfl)) (qf_up _ _ _ _ (Or.inr rfl))
  obtain ⟨M2, g2, b4, b5, b7, bk, bq, bq2, f2⟩ := g66 (L := L) (xs := xs) (d := d + 1) (x := 0) (M := qx_up (qx_up M t 5 (nI (inn ||| 2 ^ w))) (t + 3) w (nI v)) (o := ou) (i := inn ||| 2 ^ w) (e := e) hZ hy (by simp [qx_up_at, t4]) (by simp [qx_up_at]) (by simp [qx_up_at, t7]) he
  have w2 := qW_fr (qW_fr s7 fa (by omega) (by omega)) f2 (by omega) (by omega)
  obtain ⟨M3, g3, w3, f3⟩ := g89 (L := L) (xs := xs) (d := d + 1) (x := 0) (q := y) (M := M2) hZ.2.2 hy w2 (by rw [hwy]; simp)
  rw [hwy, List.nil_append] at w3
  obtain ⟨M4, g4, w4, f4⟩ := g89 (L := L) (xs := xs) (d := d + 1) (x := 0) (q := w) (M := M3) hZ.2.2 hy w3 (by rw [qu_eq]; simp)
  rw [qu_eq, qu_twice] at w4
  obtain ⟨M5, g5, w5, f5⟩ := g90 (L := L) (xs := xs) (d := d) (x := 0) (M := M4) hZ.2.2 hy hv hyv w4 (by rw [qu_eq, qu_ne _ _ (Ne.symm hyv)]; simp; omega)
  rw [qu_eq, qu_twice, qu_ne _ _ (Ne.symm hyv)] at w5
  have fA : qf (qWf (t + 6)) M2 M5 := qf_trans f3 (qf_trans f4 f5)
  have cA : ∀ a, a ≤ t + 6 → M5.1 a = M2.1 a := fun a ha => fA.1 a (by unfold qWf; omega)
  refine ⟨M5, ?_, ⟨?_, ?_, ?_, ?_, ?_, ?_, w5⟩, ?_⟩
  · simp only [s67_0, s67_1r, s67_1i, s67_2, s67_5, s67_6, s67_9, s67_10, s67_13, s67_14, s67_17, s67_18, s67_19, s67_22, s67_23, s67_24, s67_27, s67_28, s67_31, s67_32, s67_33, s67_36, s67_37, s67_40, s67_41, s67_42, s67_45, s67_46, s67_49, s67_50, s67_51, s67_54, hZ.1, hZ.2.2.1, t5, m169 (show w < 31 by omega), qb_or, m174 k3.1 k3.2 hw (by decide), g2, g3, g4, g5, List.length_cons, List.length_nil, Nat.zero_le, Nat.reduceAdd, Nat.reduceLeDiff, Option.bind_some, qx_kn_v, qx_kn_n, Nat.add_zero, ↓reduceIte]
  · unfold qS1
    rw [cA t (by omega), b4, b5, b7, bk 0 (by decide) (by decide) (by decide), bk 1 (by decide) (by decide) (by decide), bk 2 (by decide) (by decide) (by decide), bk 3 (by decide) (by decide) (by decide), bk 6 (by decide) (by decide) (by decide), bk 8 (by decide) (by decide) (by decide)]
    simp [qx_up_at, t0, t1, t2, t3, t6, t8]
  · intro j hj
    rw [cA _ (by omega)]
    by_cases z : j = e
    · rw [z, bq, qu_eq]
    · rw [bq2 j z, qu_ne _ _ z, fa.1 _ (by omega), s2 j (by omega)]
  · intro p hp
    rw [cA _ (by omega), f2.1 _ (by omega), fa.1 _ (by omega)]
    exact s3 p hp
  · intro p hp
    rw [cA _ (by omega), f2.1 _ (by omega), qx_up_at]
    by_cases z : p = w
    · rw [if_pos ⟨rfl, z⟩, z, qu_eq, qz_lt hv]
    · rw [if_neg (by omega), qu_ne _ _ z, qx_up_at, if_neg (by omega), s4 p hp]
  · intro p hp
    rw [cA _ (by omega), f2.1 _ (by omega), fa.1 _ (by omega)]
    exact s5 p hp
  · intro p hp
    rw [cA _ (by omega), f2.1 _ (by omega), fa.1 _ (by omega)]
    exact s6 p hp
  · exact qf_trans (qf_mono fa (fun a ha => by unfold qSf; omega)) (qf_trans (qf_mono f2 (fun a ha => by unfold qSf; omega)) (qf_mono fA (fun a ha => by unfold qWf at ha; unfold qSf; omega)))
/-- those whose bases change -/
def qs_me (bs : Nat → Nat) (B1 B2 : List Nat) (tp ma : Nat) : Nat := qs_fo (fun c => qb_of (fun q => bs q == c) 14) B1 (qb_of (fun q => bs q == tp) 14) ||| qs_fo (fun c => qb_of (fun q => bs q == c) 14) B2 (qb_of (fun q => bs q == tp) 14) ||| ma
theorem qs_me_bit {bs : Nat → Nat} {B1 B2 : List Nat} {tp ma p : Nat} (hp : p < 14) : (qs_me bs B1 B2 tp ma).testBit p = true ↔ ma.testBit p = true ∨ bs p = tp ∨ bs p ∈ B1 ∨ bs p ∈ B2 := by
  unfold qs_me
  simp only [Nat.testBit_or, Bool.or_eq_true, qs_fo_bit, qb_of_bit, hp, decide_true, Bool.true_and, List.any_eq_true, beq_iff_eq]
  constructor
  · rintro (((h | ⟨c, c1, c2⟩) | (h | ⟨c, c1, c2⟩)) | h)
    · exact Or.inr (Or.inl h)
    · exact Or.inr (Or.inr (Or.inl (c2 ▸ c1)))
    · exact Or.inr (Or.inl h)
    · exact Or.inr (Or.inr (Or.inr (c2 ▸ c1)))
    · exact Or.inl h
  · rintro (h | h | h | h)
    · exact Or.inr h
    · exact Or.inl (Or.inl (Or.inl h))
    · exact Or.inl (Or.inl (Or.inr ⟨_, h, rfl⟩))
    · exact Or.inl (Or.inr (Or.inr ⟨_, h, rfl⟩))
theorem qs_me_lt {bs : Nat → Nat} {B1 B2 : List Nat} {tp ma : Nat} (h : ma < 16384) : qs_me bs B1 B2 tp ma < 16384 := by
  unfold qs_me
  exact Nat.or_lt_two_pow (n := 14) (Nat.or_lt_two_pow (n := 14) (qs_fo_lt (n := 14) _ _ (qb_of_lt _ _) (fun c _ => qb_of_lt _ _)) (qs_fo_lt (n := 14) _ _ (qb_of_lt _ _) (fun c _ => qb_of_lt _ _))) h
theorem g68 {n v w st sp bm ou inn qb e as tp ma : Nat} {mt qa tm bs lk nr fr : Nat → Nat} {wy : Nat → List Nat} (hZ : qx_Z t) (hP : qx_P u) (hut : u + 2 < t) (hG : qg_ok n rt mt ou inn qb e as qa tm bs lk wy) (hv : qO ou v) (hw : qO ou w)
    (h : qS t M st rt sp bm ou inn qb e as qa bs lk nr fr wy) (hm : qMt u M mt)
    (htp : tp = qs_top (qs_up mt bs lk) (qs_fo (fun c => 2 ^ c) (qs_row (qs_up mt bs lk) rt 14 (bs w)) 0).testBit 14 (bs v))
    (hma : ma = qs_fo (fun c => 2 ^ mt c) (qs_bel (qs_up mt bs lk) tp 14 (bs v)) 0 ||| qs_fo (fun c => 2 ^ mt c) (qs_bel (qs_up mt bs lk) tp 14 (bs w)) 0) :
    ∃ M', Rs L xs (d + 3) 68 0 [some (.ref (t)), some (.ref (u)), some (.int (nI v)), some (.int (nI w)), none, none, none, none] [] (M) x = some (.inl (none), M', x) ∧
      qS t M' st rt sp (bm + 1) (ou ||| qb_of ma.testBit 14) (qb_dif inn (qb_of ma.testBit 14)) qb (e + fb_ct ma.testBit 14) as (qs_en ma.testBit e qa 14) (qs_bn (qs_me bs (qs_bel (qs_up mt bs lk) tp 14 (bs v)) (qs_bel (qs_up mt bs lk) tp 14 (bs w)) tp ma).testBit bs tp 14) lk
        (qs_st mt w (qs_bel (qs_up mt bs lk) tp 14 (bs w)) (qs_st mt v (qs_bel (qs_up mt bs lk) tp 14 (bs v)) nr)) (qs_st mt v (qs_bel (qs_up mt bs lk) tp 14 (bs w)) (qs_st mt w (qs_bel (qs_up mt bs lk) tp 14 (bs v)) fr))
        (qs_wn ma.testBit wy (qs_st mt w (qs_bel (qs_up mt bs lk) tp 14 (bs w)) (qs_st mt v (qs_bel (qs_up mt bs lk) tp 14 (bs v)) nr)) (qs_st mt v (qs_bel (qs_up mt bs lk) tp 14 (bs w)) (qs_st mt w (qs_bel (qs_up mt bs lk) tp 14 (bs v)) fr)) 14) ∧ qf (qSf t) M M' := by
  have hC := qg_cl hG
  have hb2 : ∀ p, p < 14 → bs p < 14 := fun p hp => qg_bs hG hp
  obtain ⟨c1, c2, c3, c4⟩ := qg_meet hG hv hw htp
  have hmlt : ma < 2 ^ n := (qg_shrink hG hv hw htp hma (me := qs_me bs (qs_bel (qs_up mt bs lk) tp 14 (bs v)) (qs_bel (qs_up mt bs lk) tp 14 (bs w)) tp ma) (nr := nr) (fr := fr) (fun p hp => qs_me_bit hp)).1
  have h14 : 2 ^ n ≤ 2 ^ 14 := Nat.pow_le_pow_right (by decide) hG.1
  obtain ⟨q1, q2, q3, q4⟩ := qg_shrink hG hv hw htp hma (nr := nr) (fr := fr) (me := qs_me bs (qs_bel (qs_up mt bs lk) tp 14 (bs v)) (qs_bel (qs_up mt bs lk) tp 14 (bs w)) tp ma) (fun p hp => qs_me_bit hp)
  have hG2 := hG
  obtain ⟨h1, h2, h3, h4, h5, h6, a1, a2, a3, a4, a5, a6, a7, a8, a9⟩ := hG
  have bv := a1 v hv
  have bw := a1 w hw
  have hv14 : v < 14 := by omega
  have hw14 : w < 14 := by omega
  have ht14 : tp < 14 := by omega
  obtain ⟨⟨t0, t1, t2, t3, t4, t5, t6, t7, t8⟩, s2, s3, s4, s5, s6, s7⟩ := h
  have hs1 : qS t (qx_up M t 3 (nI (bm + 1))) st rt sp (bm + 1) ou inn qb e as qa bs lk nr fr wy := by
    refine qS_t ⟨⟨t0, t1, t2, t3, t4, t5, t6, t7, t8⟩, s2, s3, s4, s5, s6, s7⟩ ?_ (Nat.le_refl _)
    unfold qS1
    simp [qx_up_at, t0, t1, t2, t4, t5, t6, t7, t8]
  have f0 : qf (qSf t) M (qx_up M t 3 (nI (bm + 1))) := qf_up _ _ _ _ ⟨by omega, by omega⟩
  have hm1 := qMt_fr hm f0 (by unfold qSf; omega)
  obtain ⟨r1, r2, r3, r4, r5, r6, r7⟩ := hs1
  have g70' := g70 (L := L) (xs := xs) (d := d) (x := 0) (M := qx_up M t 3 (nI (bm + 1))) hZ hP hC hm1 r3 r4 hv14 hw14 ⟨bv.2.2.2.2.1, bv.2.2.2.2.2.1⟩ ⟨bw.2.2.2.2.1, bw.2.2.2.2.2.1⟩
  rw [← htp] at g70'
  obtain ⟨M2, g2, n2, p2, f2⟩ := g71 (L := L) (xs := xs) (d := d) (x := 0) hZ hP hut hC hv14 hw14 ht14 ⟨bv.2.2.2.2.1, bv.2.2.2.2.2.1⟩ c1 hm1 r3 r4 r5 r6
  have hm2 := qMt_fr hm1 f2 (by omega)
  have b2 : qB t M2 bs := fun p hp => by rw [f2.1 _ (by omega)]; exact r3 p hp
  have l2 : qLk t M2 lk := fun p hp => by rw [f2.1 _ (by omega)]; exact r4 p hp
  obtain ⟨M3, g3, n3, p3, f3⟩ := g71 (L := L) (xs := xs) (d := d) (x := 0) hZ hP hut hC hw14 hv14 ht14 ⟨bw.2.2.2.2.1, bw.2.2.2.2.2.1⟩ c2 hm2 b2 l2 n2 p2
  have hm3 := qMt_fr hm2 f3 (by omega)
  have b3 : qB t M3 bs := fun p hp => by rw [f3.1 _ (by omega)]; exact b2 p hp
  have l3 : qLk t M3 lk := fun p hp => by rw [f3.1 _ (by omega)]; exact l2 p hp
  have g4 := g72 (L := L) (xs := xs) (d := d) (x := 0) hZ hP hC hm3 b3 hb2 l3 hv14 ht14 ⟨bv.2.2.2.2.1, bv.2.2.2.2.2.1⟩ c1
  have g5 := g72 (L := L) (xs := xs) (d := d) (x := 0) hZ hP hC hm3 b3 hb2 l3 hw14 ht14 ⟨bw.2.2.2.2.1, bw.2.2.2.2.2.1⟩ c2
  have f23 := qf_trans f2 f3
  have hS3 : qS t M3 st rt sp (bm + 1) (ou ||| qb_of ma.testBit 0) (qb_dif inn (qb_of ma.testBit 0)) qb (e + fb_ct ma.testBit 0) as (qs_en ma.testBit e qa 0) (qs_bn (qs_me bs (qs_bel (qs_up mt bs lk) tp 14 (bs v)) (qs_bel (qs_up mt bs lk) tp 14 (bs w)) tp ma).testBit bs tp 0) lk
        (qs_st mt w (qs_bel (qs_up mt bs lk) tp 14 (bs w)) (qs_st mt v (qs_bel (qs_up mt bs lk) tp 14 (bs v)) nr)) (qs_st mt v (qs_bel (qs_up mt bs lk) tp 14 (bs w)) (qs_st mt w (qs_bel (qs_up mt bs lk) tp 14 (bs v)) fr))
        (qs_wn ma.testBit wy (qs_st mt w (qs_bel (qs_up mt bs lk) tp 14 (bs w)) (qs_st mt v (qs_bel (qs_up mt bs lk) tp 14 (bs v)) nr)) (qs_st mt v (qs_bel (qs_up mt bs lk) tp 14 (bs w)) (qs_st mt w (qs_bel (qs_up mt bs lk) tp 14 (bs v)) fr)) 0) := by
    have e1 : ou ||| qb_of ma.testBit 0 = ou := Nat.or_zero _
    have e2 : qb_dif inn (qb_of ma.testBit 0) = inn := by unfold qb_dif qb_of; simp
    have e3 : ∀ me, qs_bn me bs tp 0 = bs := fun me => funext fun q => if_neg (by omega)
    have e4 : ∀ nr fr, qs_wn ma.testBit wy nr fr 0 = wy := fun nr fr => funext fun q => if_neg (by omega)
    rw [e1, e2, e3, e4]
    refine ⟨?_, ?_, b3, l3, n3, p3, ?_⟩
    · unfold qS1 at r1 ⊢
      rw [f23.1 t (by omega)]
      exact r1
    · intro j hj
      rw [f23.1 _ (by omega)]
      exact r2 j hj
    · exact qW_fr r7 f23 (by omega) (by omega)
  obtain ⟨M4, g6, hS4, f4⟩ := g68l (L := L) (xs := xs) (d := d) (x := x) (u := u) (v := v) (w := w) hZ (show ma < 16384 by omega) (qs_me_lt (show ma < 16384 by omega)) ht14 q3 q2 14 0 M3 (by omega) hS3
  refine ⟨M4, ?_, hS4, qf_trans f0 (qf_trans (qf_mono f23 (fun a ha => by unfold qSf; omega)) f4)⟩
  simp only [s68_0, s68_1r, s68_1i, s68_2, s68_5, s68_6, s68_7, s68_10, s68_11, s68_12, s68_13, s68_14, s68_17i, s68_17r, s68_17n, s68_19, s68_20, s68_21, s68_22, s68_23, s68_25, s68_28, s68_29, s68_30, s68_31, s68_32, s68_34, s68_37, s68_38i, s68_38r, s68_38n, s68_40, s68_41, s68_42, s68_43, s68_45, s68_48, s68_49, s68_50, s68_51, s68_53, s68_56, s68_57, s68_59, s68_60i, s68_60r, s68_60n, s68_62, s68_63i, s68_63r, s68_63n, s68_67, s68_69, s68_72, s68_74, s68_76, s68_79, s68_82, s68_83, s68_86, s68_88, s68_90, s68_93, s68_95, s68_97, s68_100, s68_103, s68_104, s68_106, s68_109, s68_110, s68_113, s68_115, s68_116, s68_119, s68_121, s68_124, s68_127, s68_128, s68_131, s68_133, s68_134, s68_137, s68_139, s68_142, s68_145i, s68_145r, s68_145n, s68_151, hZ.1, hP.1, t3, nI_add, g70', g2, g3, g4, g5, qb_or, ← hma, List.length_cons, List.length_nil, Nat.zero_le, Nat.reduceAdd, Nat.reduceLeDiff, Option.bind_some, qx_kn_v, qx_kn_n, Nat.add_zero, ↓reduceIte]
  exact g6
end QL
