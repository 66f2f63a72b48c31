/-! A step of the search, of the class and of the Model at once: all cases. -/
theorem qs_nx_bit (s : Nat) : ∀ (k i : Nat), i + k = 14 → qs_nx s k i < 14 → s.testBit (qs_nx s k i) = true ∧ i ≤ qs_nx s k i
  | 0, i, _, h => absurd h (show ¬ 14 < 14 by decide)
  | k + 1, i, hi, h => by
    rw [qs_nx] at h ⊢
    by_cases q : s.testBit i = true
    · rw [if_pos q]
      exact ⟨q, Nat.le_refl _⟩
    · rw [if_neg q] at h ⊢
      have := qs_nx_bit s k (i + 1) (by omega) h
      exact ⟨this.1, by omega⟩
theorem qp_al_ltn {r q s p n : Nat} (hs : s < 2 ^ n) : qp_al r q s p < 2 ^ n := by
  unfold qp_al
  split
  · exact hs
  · split
    · exact qb_dif_le hs
    · exact Nat.lt_of_le_of_lt Nat.and_le_left hs
/-- the step: the class's and the Model's -/
def qAdv (n r q : Nat) (f mt : Nat → Nat) (rt sp bm ou inn qb e as : Nat) (qa bs lk nr fr : Nat → Nat) (wy : Nat → List Nat) (c : Nat) (mt' : Nat → Nat) (g' : qSg) : Prop :=
  (∀ (L : Nat) (xs : Nat → Int32) (d x t u : Nat) (M : qxM), qx_Z t → qx_P u → u + 2 < t → qPu u M n r q f mt → qS t M 1 rt sp bm ou inn qb e as qa bs lk nr fr wy →
    ∃ M', Rs L xs (d + 4) 64 0 [some (.ref (t)), some (.ref (u)), none, none] [] (M) x = some (.inl (some (.int (nI c))), M', x) ∧ cS t M' g' ∧ qMt u M' mt' ∧ qf (fun a => qSf t a ∨ a = u + 2) M M') ∧
  (∀ (L : Nat) (xs : Nat → Int32) (d x : Nat) (M : qxM), nPu M n r q f mt → nS M 1 rt sp bm ou inn qb e as qa bs lk nr fr wy →
    ∃ M', Rs L xs (d + 5) 249 0 [some (.ref (400)), none, none] [] (M) x = some (.inl (some (.int (nI c))), M', x) ∧ mS M' g' ∧ nMt M' mt' ∧ mf (fun j => 3 ≤ j ∧ j ≤ 5 ∨ 21 ≤ j) M M' ∧
      M'.1 401 3 = M.1 401 3 + nI (if g'.1.1 = 2 then 1 else 0) ∧ M'.1 401 4 = M.1 401 4 + nI (if g'.1.1 = 3 then 1 else 0) ∧ M'.1 401 5 = M.1 401 5 + nI (g'.1.2.2.2 - bm))
theorem qi_a0 (z : Int32) : z + nI 0 = z := Int32.add_zero z
theorem nPu_mt {M M' : qxM} {n r q : Nat} {f mt : Nat → Nat} {R : Nat → Prop} (h : nPu M n r q f mt) (hf : mf R M M') (hR : ∀ j, R j → 35 ≤ j ∨ 3 ≤ j ∧ j ≤ 5) : nMt M' mt := nMt_fr h.2.2.2.2 hf (fun j hj => by have := hR j hj; omega)
section QA
variable {n r q : Nat} {f mt : Nat → Nat} {rt sp bm ou inn qb e as : Nat} {qa tm bs lk nr fr : Nat → Nat} {wy : Nat → List Nat}
/-- nobody is left to be asked -/
theorem q_adv1 (hp : qp_ok n r q f mt) (hG : qg_ok n rt mt ou inn qb e as qa tm bs lk wy) (hqe : qb < e) (he : e ≤ 14) (hv : qa qb < 14) (hw : ¬ qs_nx (qp_al r q (f (qa qb)) (qa qb)) (14 - as) as < 14) :
    qAdv n r q f mt rt sp bm ou inn qb e as qa bs lk nr fr wy (if qb + 1 < e then 5 else 4) mt ((if qb + 1 < e then 1 else 3, rt, sp + 1, bm), (ou, inn, qb + 1, e, 0), qa, bs, lk, nr, fr, wy) := by
  have ha := hG.2.2.2.2.2.1
  refine ⟨?_, ?_⟩
  · intro L xs d x t u M hZ hP hut hu hS
    obtain ⟨M1, g1, s1, f1⟩ := g64p (L := L) (xs := xs) (d := d) (x := x) hZ hP hut hp hu hS hqe he ha hv
    rw [qz_ge hw] at g1
    have m1 := qMt_fr hu.2.2.2.2 f1 (by omega)
    by_cases z : qb + 1 < e
    · rw [if_pos z, if_pos z]
      obtain ⟨M2, g2, s2, f2⟩ := g65a (L := L) (xs := xs) (d := d + 2) (x := 0) hZ s1 z he
      refine ⟨M2, ?_, s2, qMt_fr m1 f2 (by unfold qSf; omega), qf_trans (qf_mono f1 (fun a ha => Or.inl (by unfold qSf; omega))) (qf_mono f2 (fun a ha => Or.inl ha))⟩
      rw [g1]
      simp only [s64_22, s64_23, s64_24, s64_27, s64_28, s64_31, hZ.1, g2, eq_self, List.length_cons, List.length_nil, Nat.zero_le, Nat.reduceAdd, Nat.reduceLeDiff, Option.bind_some, qx_kn_v, qx_kn_n, Nat.add_zero, Bool.false_eq_true, ↓reduceIte]
    · rw [if_neg z, if_neg z]
      obtain ⟨M2, g2, s2, f2⟩ := g65b (L := L) (xs := xs) (d := d + 2) (x := 0) hZ s1 (by omega) he
      refine ⟨M2, ?_, s2, qMt_fr m1 f2 (by unfold qSf; omega), qf_trans (qf_mono f1 (fun a ha => Or.inl (by unfold qSf; omega))) (qf_mono f2 (fun a ha => Or.inl ha))⟩
      rw [g1]
      simp only [s64_22, s64_23, s64_24, s64_27, s64_28, s64_31, hZ.1, g2, eq_self, List.length_cons, List.length_nil, Nat.zero_le, Nat.reduceAdd, Nat.reduceLeDiff, Option.bind_some, qx_kn_v, qx_kn_n, Nat.add_zero, Bool.false_eq_true, ↓reduceIte]
  · intro L xs d x M hu hS
    obtain ⟨M1, g1, s1, f1⟩ := g249p (L := L) (xs := xs) (d := d) (x := x) hp hu hS hqe ha hv
    rw [qz_ge hw] at g1
    by_cases z : qb + 1 < e
    · rw [if_pos z, if_pos z]
      obtain ⟨M2, g2, s2, f2⟩ := g241b (L := L) (xs := xs) (d := d + 4) (x := 0) z he s1
      have f12 := mf_trans (mf_mono f1 (fun j hj => (show 35 ≤ j ∧ j < 55 by omega))) (mf_mono f2 (fun j hj => (show 35 ≤ j ∧ j < 55 by omega)))
      refine ⟨M2, ?_, s2, nPu_mt hu f12 (by omega), mf_mono f12 (fun j hj => by omega), ?_, ?_, ?_⟩
      · rw [g1]
        simp only [s249_24, s249_25, s249_26, s249_29, s249_30, s249_33, qx_m400.1, g2, eq_self, List.length_cons, List.length_nil, Nat.zero_le, Nat.reduceAdd, Nat.reduceLeDiff, Option.bind_some, qx_kn_v, qx_kn_n, Nat.add_zero, Bool.false_eq_true, ↓reduceIte]
      · rw [f12.2 _ (by omega)]
        exact (qi_a0 _).symm
      · rw [f12.2 _ (by omega)]
        exact (qi_a0 _).symm
      · rw [f12.2 _ (by omega)]
        dsimp only
        rw [Nat.sub_self]
        exact (qi_a0 _).symm
    · rw [if_neg z, if_neg z]
      obtain ⟨M2, g2, s2, f2, h4⟩ := g241c (L := L) (xs := xs) (d := d + 4) (x := 0) (by omega) he s1
      have f12 := mf_trans (mf_mono f1 (fun j hj => (show j = 4 ∨ 35 ≤ j by omega))) f2
      refine ⟨M2, ?_, s2, nPu_mt hu f12 (by omega), mf_mono f12 (fun j hj => by omega), ?_, ?_, ?_⟩
      · rw [g1]
        simp only [s249_24, s249_25, s249_26, s249_29, s249_30, s249_33, qx_m400.1, g2, eq_self, List.length_cons, List.length_nil, Nat.zero_le, Nat.reduceAdd, Nat.reduceLeDiff, Option.bind_some, qx_kn_v, qx_kn_n, Nat.add_zero, Bool.false_eq_true, ↓reduceIte]
      · rw [f12.2 _ (by omega)]
        exact (qi_a0 _).symm
      · rw [h4, f1.2 _ (by omega)]
        rfl
      · rw [f12.2 _ (by omega)]
        dsimp only
        rw [Nat.sub_self]
        exact (qi_a0 _).symm
theorem qs_lb2 (hG : qg_ok n rt mt ou inn qb e as qa tm bs lk wy) (w : Nat) : (nI (qs_lb ou inn w) = nI 2) = (inn.testBit w = true) ∧ (nI (qs_lb ou inn w) = nI 1) = (ou.testBit w = true) := by
  have h1 := hG.2.2.2.2.2.2.1 w
  unfold qO at h1
  unfold qs_lb
  cases h : ou.testBit w <;> cases h2 : inn.testBit w
  · constructor <;> simp <;> decide
  · constructor <;> simp <;> decide
  · constructor <;> simp <;> decide
  · exact absurd h2 (h1 h).2.1
theorem q_adv2 (hp : qp_ok n r q f mt) (hG : qg_ok n rt mt ou inn qb e as qa tm bs lk wy) (hqe : qb < e) (he : e ≤ 14) (hv : qa qb < 14) {w : Nat} (hwq : qs_nx (qp_al r q (f (qa qb)) (qa qb)) (14 - as) as = w) (hw : w < 14) (hc : inn.testBit w = true ∨ bs (qa qb) = bs w) :
    qAdv n r q f mt rt sp bm ou inn qb e as qa bs lk nr fr wy 0 mt ((1, rt, sp + 1, bm), (ou, inn, qb, e, w + 1), qa, bs, lk, nr, fr, wy) := by
  have ha := hG.2.2.2.2.2.1
  have hb2 : ∀ p, p < 14 → bs p < 14 := fun p hp => qg_bs hG hp
  have hi14 := hG.2.2.2.1
  refine ⟨?_, ?_⟩
  · intro L xs d x t u M hZ hP hut hu hS
    obtain ⟨M1, g1, s1, f1⟩ := g64p (L := L) (xs := xs) (d := d) (x := x) hZ hP hut hp hu hS hqe he ha hv
    rw [hwq, qz_lt hw] at g1
    obtain ⟨M2, g2, s2, f2⟩ := g64q (L := L) (xs := xs) (d := d) (x := x) (u := u) (v := qa qb) hZ s1 hw
    have f12 := qf_trans f1 f2
    refine ⟨M2, ?_, s2, qMt_fr hu.2.2.2.2 f12 (by omega), qf_mono f12 (fun a ha => Or.inl (by unfold qSf; omega))⟩
    rw [g1, g2]
    have t5 := s2.1.2.2.2.2.2.1
    have tb : ∀ p, p < 14 → M2.1 (t + 2) p = nI (bs p) := s2.2.2.1
    by_cases z : inn.testBit w = true
    · simp only [s64_39, s64_40, s64_43, s64_44, s64_47, s64_50, s64_51, s64_52, s64_55, s64_56, s64_57, s64_60, s64_63, s64_64, hZ.1, t5, m170 (show inn < 2 ^ 31 by omega) (show w < 31 by omega), z, bI_0, Bool.true_eq_false, List.length_cons, List.length_nil, Nat.zero_le, Nat.reduceAdd, Nat.reduceLeDiff, Option.bind_some, qx_kn_v, qx_kn_n, Nat.add_zero, Bool.false_eq_true, ↓reduceIte]
    · have z2 : inn.testBit w = false := by simpa using z
      have z3 : bs (qa qb) = bs w := by
        rcases hc with hc | hc
        · exact absurd hc z
        · exact hc
      simp only [s64_39, s64_40, s64_43, s64_44, s64_47, s64_50, s64_51, s64_52, s64_55, s64_56, s64_57, s64_60, s64_63, s64_64, hZ.1, t5, m170 (show inn < 2 ^ 31 by omega) (show w < 31 by omega), z2, bI_0, m58 hZ hv, m58 hZ hw, tb _ hv, tb _ hw, z3, eq_self, List.length_cons, List.length_nil, Nat.zero_le, Nat.reduceAdd, Nat.reduceLeDiff, Option.bind_some, qx_kn_v, qx_kn_n, Nat.add_zero, Bool.false_eq_true, ↓reduceIte]
  · intro L xs d x M hu hS
    obtain ⟨M1, g1, s1, f1⟩ := g249p (L := L) (xs := xs) (d := d) (x := x) hp hu hS hqe ha hv
    rw [hwq, qz_lt hw] at g1
    obtain ⟨M2, g2, s2, f2⟩ := g249q (L := L) (xs := xs) (d := d) (x := x) (v := qa qb) s1 hw
    have f12 := mf_trans (mf_mono f1 (fun j hj => (show 35 ≤ j ∧ j < 55 by omega))) (mf_mono f2 (fun j hj => (show 35 ≤ j ∧ j < 55 by omega)))
    obtain ⟨k1, k2, k3⟩ := qx_m400
    have tl := s2.2.2.1 w hw
    have tb : ∀ p, p < 14 → M2.1 401 (69 + p) = nI (bs p) := s2.2.2.2.1
    obtain ⟨l1, l2⟩ := qs_lb2 hG w
    refine ⟨M2, ?_, s2, nPu_mt hu f12 (by omega), mf_mono f12 (fun j hj => by omega), ?_, ?_, ?_⟩
    · rw [g1, g2]
      by_cases z : inn.testBit w = true
      · simp only [s249_44, s249_45, s249_48, s249_50, s249_51, s249_52, s249_53, s249_54, s249_57, s249_58, s249_61, s249_63, s249_64, s249_65, s249_66, s249_67, s249_70, s249_72, s249_73, s249_74, s249_75, s249_78, s249_79, k1, k2, k3, nI_add, tl, l1, z, (qn_c (55 + w) (by omega)).1, (qn_c (55 + w) (by omega)).2, List.length_cons, List.length_nil, Nat.zero_le, Nat.reduceAdd, Nat.reduceLeDiff, Option.bind_some, qx_kn_v, qx_kn_n, Nat.add_zero, Bool.false_eq_true, ↓reduceIte]
      · have z3 : bs (qa qb) = bs w := by
          rcases hc with hc | hc
          · exact absurd hc z
          · exact hc
        simp only [s249_44, s249_45, s249_48, s249_50, s249_51, s249_52, s249_53, s249_54, s249_57, s249_58, s249_61, s249_63, s249_64, s249_65, s249_66, s249_67, s249_70, s249_72, s249_73, s249_74, s249_75, s249_78, s249_79, k1, k2, k3, nI_add, tl, l1, z, tb _ hv, tb _ hw, z3, eq_self, (qn_c (55 + w) (by omega)).1, (qn_c (55 + w) (by omega)).2, (qn_c (69 + w) (by omega)).1, (qn_c (69 + w) (by omega)).2, (qn_c (69 + qa qb) (by omega)).1, (qn_c (69 + qa qb) (by omega)).2, List.length_cons, List.length_nil, Nat.zero_le, Nat.reduceAdd, Nat.reduceLeDiff, Option.bind_some, qx_kn_v, qx_kn_n, Nat.add_zero, Bool.false_eq_true, ↓reduceIte]
    · rw [f12.2 _ (by omega)]
      exact (qi_a0 _).symm
    · rw [f12.2 _ (by omega)]
      exact (qi_a0 _).symm
    · rw [f12.2 _ (by omega)]
      dsimp only
      rw [Nat.sub_self]
      exact (qi_a0 _).symm
theorem q_adv3 (hp : qp_ok n r q f mt) (hG : qg_ok n rt mt ou inn qb e as qa tm bs lk wy) (hqe : qb < e) (he : e ≤ 14) (hvO : qO ou (qa qb)) (hv : qa qb < 14) {w : Nat} (hwq : qs_nx (qp_al r q (f (qa qb)) (qa qb)) (14 - as) as = w) (hw : w < 14) (hc1 : inn.testBit w = false) (hc2 : ¬ bs (qa qb) = bs w) (hwO : qO ou w) {tp ma : Nat}
    (htp : tp = qs_top (qs_up mt bs lk) (qs_fo (fun c => 2 ^ c) (qs_row (qs_up mt bs lk) rt 14 (bs w)) 0).testBit 14 (bs (qa qb)))
    (hma : ma = qs_fo (fun c => 2 ^ mt c) (qs_bel (qs_up mt bs lk) tp 14 (bs (qa qb))) 0 ||| qs_fo (fun c => 2 ^ mt c) (qs_bel (qs_up mt bs lk) tp 14 (bs w)) 0) :
    qAdv n r q f mt rt sp bm ou inn qb e as qa bs lk nr fr wy 2 mt ((1, rt, sp + 1, bm + 1), (ou ||| qb_of ma.testBit 14, qb_dif inn (qb_of ma.testBit 14), qb, e + fb_ct ma.testBit 14, w + 1), qs_en ma.testBit e qa 14, qs_bn (qs_me bs (qs_bel (qs_up mt bs lk) tp 14 (bs (qa qb))) (qs_bel (qs_up mt bs lk) tp 14 (bs w)) tp ma).testBit bs tp 14, lk,
        qs_st mt w (qs_bel (qs_up mt bs lk) tp 14 (bs w)) (qs_st mt (qa qb) (qs_bel (qs_up mt bs lk) tp 14 (bs (qa qb))) nr), qs_st mt (qa qb) (qs_bel (qs_up mt bs lk) tp 14 (bs w)) (qs_st mt w (qs_bel (qs_up mt bs lk) tp 14 (bs (qa qb))) fr),
        qs_wn ma.testBit wy (qs_st mt w (qs_bel (qs_up mt bs lk) tp 14 (bs w)) (qs_st mt (qa qb) (qs_bel (qs_up mt bs lk) tp 14 (bs (qa qb))) nr)) (qs_st mt (qa qb) (qs_bel (qs_up mt bs lk) tp 14 (bs w)) (qs_st mt w (qs_bel (qs_up mt bs lk) tp 14 (bs (qa qb))) fr)) 14) := by
  have ha := hG.2.2.2.2.2.1
  have hb2 : ∀ p, p < 14 → bs p < 14 := fun p hp => qg_bs hG hp
  have hi14 := hG.2.2.2.1
  have ho14 := hG.2.2.1
  have hwO2 : ou.testBit w = true := hwO
  have hG' : qg_ok n rt mt ou inn qb e (w + 1) qa tm bs lk wy := by
    obtain ⟨h1, h2, h3, h4, h5, h6, h7⟩ := hG
    exact ⟨h1, h2, h3, h4, h5, by omega, h7⟩
  have hne : ¬ nI (bs (qa qb)) = nI (bs w) := fun z => hc2 ((nI_eq (by have := hb2 _ hv; omega) (by have := hb2 _ hw; omega)).mp z)
  have hne2 : ¬ nI (bs w) = nI (bs (qa qb)) := fun z => hne z.symm
  refine ⟨?_, ?_⟩
  · intro L xs d x t u M hZ hP hut hu hS
    obtain ⟨M1, g1, s1, f1⟩ := g64p (L := L) (xs := xs) (d := d) (x := x) hZ hP hut hp hu hS hqe he ha hv
    rw [hwq, qz_lt hw] at g1
    obtain ⟨M2, g2, s2, f2⟩ := g64q (L := L) (xs := xs) (d := d) (x := x) (u := u) (v := qa qb) hZ s1 hw
    have f12 := qf_trans f1 f2
    have m2 := qMt_fr hu.2.2.2.2 f12 (by omega)
    obtain ⟨M3, g3, s3, f3⟩ := g68 (L := L) (xs := xs) (d := d) (x := 0) hZ hP hut hG' hvO hwO s2 m2 htp hma
    refine ⟨M3, ?_, s3, qMt_fr m2 f3 (by unfold qSf; omega), qf_trans (qf_mono f12 (fun a ha => Or.inl (by unfold qSf; omega))) (qf_mono f3 (fun a ha => Or.inl ha))⟩
    have t5 := s2.1.2.2.2.2.2.1
    have t4 := s2.1.2.2.2.2.1
    have tb : ∀ p, p < 14 → M2.1 (t + 2) p = nI (bs p) := s2.2.2.1
    rw [g1, g2]
    simp only [s64_39, s64_40, s64_43, s64_44, s64_47, s64_50, s64_51, s64_52, s64_55, s64_56, s64_57, s64_60, s64_63, s64_64, s64_65, s64_66, s64_69, s64_70, s64_73, s64_76, s64_77, s64_78, s64_79, s64_80, s64_83, s64_84, hZ.1, hP.1, t5, t4, m170 (show inn < 2 ^ 31 by omega) (show w < 31 by omega), m170 (show ou < 2 ^ 31 by omega) (show w < 31 by omega), hc1, hwO2, bI_0, Bool.true_eq_false, m58 hZ hv, m58 hZ hw, tb _ hv, tb _ hw, hne, g3, List.length_cons, List.length_nil, Nat.zero_le, Nat.reduceAdd, Nat.reduceLeDiff, Option.bind_some, qx_kn_v, qx_kn_n, Nat.add_zero, Bool.false_eq_true, ↓reduceIte]
  · intro L xs d x M hu hS
    obtain ⟨M1, g1, s1, f1⟩ := g249p (L := L) (xs := xs) (d := d) (x := x) hp hu hS hqe ha hv
    rw [hwq, qz_lt hw] at g1
    obtain ⟨M2, g2, s2, f2⟩ := g249q (L := L) (xs := xs) (d := d) (x := x) (v := qa qb) s1 hw
    have f12 := mf_trans (mf_mono f1 (fun j hj => (show 35 ≤ j ∧ j < 55 by omega))) (mf_mono f2 (fun j hj => (show 35 ≤ j ∧ j < 55 by omega)))
    obtain ⟨k1, k2, k3⟩ := qx_m400
    have tl := s2.2.2.1 w hw
    have tb : ∀ p, p < 14 → M2.1 401 (69 + p) = nI (bs p) := s2.2.2.2.1
    obtain ⟨l1, l2⟩ := qs_lb2 hG w
    have l1' : ¬ inn.testBit w = true := by rw [hc1]; decide
    have m2 := nPu_mt hu f12 (by omega)
    obtain ⟨M3, g3, s3, f3, h5⟩ := g248 (L := L) (xs := xs) (d := d + 1) (x := 0) hG' hvO hwO s2 m2 (by rw [f12.2 0 (by omega)]; exact hu.1) htp hma
    refine ⟨M3, ?_, s3, ?_, mf_trans (mf_mono f12 (fun j hj => by omega)) (mf_mono f3 (fun j hj => by omega)), ?_, ?_, ?_⟩
    · rw [g1, g2]
      simp only [s249_44, s249_45, s249_48, s249_50, s249_51, s249_52, s249_53, s249_54, s249_57, s249_58, s249_61, s249_63, s249_64, s249_65, s249_66, s249_67, s249_70, s249_72, s249_73, s249_74, s249_75, s249_78, s249_79, s249_80, s249_81, s249_84, s249_86, s249_87, s249_88, s249_89, s249_90, s249_93, s249_94, s249_95, s249_96, s249_99, k1, k2, k3, nI_add, tl, l1, l1', l2, hwO2, tb _ hv, tb _ hw, hne2, g3, (qn_c (55 + w) (by omega)).1, (qn_c (55 + w) (by omega)).2, (qn_c (69 + w) (by omega)).1, (qn_c (69 + w) (by omega)).2, (qn_c (69 + qa qb) (by omega)).1, (qn_c (69 + qa qb) (by omega)).2, List.length_cons, List.length_nil, Nat.zero_le, Nat.reduceAdd, Nat.reduceLeDiff, Option.bind_some, qx_kn_v, qx_kn_n, Nat.add_zero, Bool.false_eq_true, ↓reduceIte]
    · exact nMt_fr m2 f3 (by omega)
    · rw [f3.2 _ (by omega), f12.2 _ (by omega)]
      exact (qi_a0 _).symm
    · rw [f3.2 _ (by omega), f12.2 _ (by omega)]
      exact (qi_a0 _).symm
    · rw [h5, f12.2 _ (by omega)]
      dsimp only
      rw [Nat.add_sub_cancel_left]
theorem q_adv4 (hp : qp_ok n r q f mt) (hG : qg_ok n rt mt ou inn qb e as qa tm bs lk wy) (hqe : qb < e) (he : e ≤ 14) (hvO : qO ou (qa qb)) (hv : qa qb < 14) {w : Nat} (hwq : qs_nx (qp_al r q (f (qa qb)) (qa qb)) (14 - as) as = w) (hw : w < 14) (hwn : w < n) (hc1 : inn.testBit w = false) (hc2 : ¬ bs (qa qb) = bs w) (hwO : ou.testBit w = false) (hfree : ¬ mt w < 14) :
    ∃ mt', qm_ok n mt' ∧ qAdv n r q f mt rt sp bm ou inn qb e as qa bs lk nr fr wy 3 mt' ((2, rt, sp + 1, bm), (ou, inn, qb, e, w + 1), qa, bs, lk, nr, fr, wy) := by
  have ha := hG.2.2.2.2.2.1
  have hb2 : ∀ p, p < 14 → bs p < 14 := fun p hp => qg_bs hG hp
  have hi14 := hG.2.2.2.1
  have ho14 := hG.2.2.1
  have hne : ¬ nI (bs (qa qb)) = nI (bs w) := fun z => hc2 ((nI_eq (by have := hb2 _ hv; omega) (by have := hb2 _ hw; omega)).mp z)
  have hne2 : ¬ nI (bs w) = nI (bs (qa qb)) := fun z => hne z.symm
  obtain ⟨rr, r1, r2, r3, r4, r5, r6⟩ := qs_turn hG.1 hG.2.1 hG.2.2.2.2.2.2 hvO
  obtain ⟨d1, d2⟩ := List.nodup_cons.mp r3
  have hvw : qa qb ≠ w := fun z => by
    have h := hvO
    unfold qO at h
    rw [z, hwO] at h
    exact absurd h (by decide)
  have hwr : w ∉ rr := fun z => by
    rcases (r4 w (List.mem_cons_of_mem _ z)).2 with h | h
    · unfold qO at h
      rw [hwO] at h
      exact absurd h (by decide)
    · unfold qO at h
      rw [hc1] at h
      exact absurd h (by decide)
  have hrl : ∀ a, a ∈ rr → a < 14 := fun a ha => by
    have := (r4 a (List.mem_cons_of_mem _ ha)).1
    have := hG.1
    omega
  have hgw : ¬ qs_jn (qu mt (qa qb) 14) rr w < 14 := by
    rw [qs_jn_out _ _ _ hwr, qu_ne _ _ (Ne.symm hvw)]
    exact hfree
  have hmt' := qm_join hG.1 r5 (r4 _ List.mem_cons_self).1 hwn hvw (by rw [r6]; decide) hgw
  have heq : qs_jn (qu (qu mt (qa qb) w) w (qa qb)) rr = qu (qu (qs_jn (qu mt (qa qb) 14) rr) (qa qb) w) w (qa qb) := by
    rw [qs_jn_qu _ _ _ _ hwr, qs_jn_qu _ _ _ _ d1, qs_jn_qu _ _ _ _ d1, qu_twice]
  refine ⟨_, hmt', ?_, ?_⟩
  · intro L xs d x t u M hZ hP hut hu hS
    obtain ⟨M1, g1, s1, f1⟩ := g64p (L := L) (xs := xs) (d := d) (x := x) hZ hP hut hp hu hS hqe he ha hv
    rw [hwq, qz_lt hw] at g1
    obtain ⟨M2, g2, s2, f2⟩ := g64q (L := L) (xs := xs) (d := d) (x := x) (u := u) (v := qa qb) hZ s1 hw
    have f12 := qf_trans f1 f2
    have m2 := qMt_fr hu.2.2.2.2 f12 (by omega)
    obtain ⟨M3, g3, m3, f3⟩ := g52 (L := L) (xs := xs) (d := d + 1) (x := 0) (t := t + 6) hP hZ.2.2 hv (by omega) (by omega) r1 r2 hrl m2 s2.2.2.2.2.2.2
    obtain ⟨M4, g4, m4, f4⟩ := g49 (L := L) (xs := xs) (d := d + 2) (x := 0) hP hv hw m3
    have f34 := qf_trans f3 f4
    have s4 := qS_fr s2 f34 (fun a ha => by omega)
    have s5 : qS t (qx_up M4 t 0 (nI 2)) 2 rt (sp + 1) bm ou inn qb e (w + 1) qa bs lk nr fr wy := by
      refine qS_t s4 ?_ (Nat.le_refl _)
      obtain ⟨t0, t1, t2, t3, t4, t5, t6, t7, t8⟩ := s4.1
      unfold qS1
      simp [qx_up_at, t1, t2, t3, t4, t5, t6, t7, t8]
    have f5 : qf (fun a => a = t) M4 (qx_up M4 t 0 (nI 2)) := qf_up _ _ _ _ rfl
    have t5 := s2.1.2.2.2.2.2.1
    have t4 := s2.1.2.2.2.2.1
    have tb : ∀ p, p < 14 → M2.1 (t + 2) p = nI (bs p) := s2.2.2.1
    have hmw := m2 w hw
    rw [qz_ge hfree] at hmw
    refine ⟨_, ?_, s5, qMt_fr m4 f5 (by omega), qf_trans (qf_mono f12 (fun a ha => Or.inl (by unfold qSf; omega))) (qf_trans (qf_mono f34 (fun a ha => Or.inr ha)) (qf_mono f5 (fun a ha => Or.inl (by unfold qSf; omega))))⟩
    rw [g1, g2]
    simp only [s64_39, s64_40, s64_43, s64_44, s64_47, s64_50, s64_51, s64_52, s64_55, s64_56, s64_57, s64_60, s64_63, s64_64, s64_65, s64_66, s64_69, s64_70, s64_73, s64_76, s64_77, s64_78, s64_79, s64_80, s64_83, s64_84, s64_85, s64_86, s64_87, s64_90, s64_93, s64_94, s64_95, s64_98, s64_99, s64_102, s64_103, s64_104, s64_105, s64_108, s64_109, s64_110, s64_113, s64_114, hZ.1, hZ.2.2.1, hP.1, t5, t4, m170 (show inn < 2 ^ 31 by omega) (show w < 31 by omega), m170 (show ou < 2 ^ 31 by omega) (show w < 31 by omega), hc1, hwO, bI_0, Bool.true_eq_false, m58 hZ hv, m58 hZ hw, tb _ hv, tb _ hw, hne, m47 hP hw, hmw, decide_true, g3, g4, List.length_cons, List.length_nil, Nat.zero_le, Nat.reduceAdd, Nat.reduceLeDiff, Option.bind_some, qx_kn_v, qx_kn_n, Nat.add_zero, Bool.false_eq_true, ↓reduceIte]
  · intro L xs d x M hu hS
    obtain ⟨M1, g1, s1, f1⟩ := g249p (L := L) (xs := xs) (d := d) (x := x) hp hu hS hqe ha hv
    rw [hwq, qz_lt hw] at g1
    obtain ⟨M2, g2, s2, f2⟩ := g249q (L := L) (xs := xs) (d := d) (x := x) (v := qa qb) s1 hw
    have f12 := mf_trans (mf_mono f1 (fun j hj => (show 35 ≤ j ∧ j < 55 by omega))) (mf_mono f2 (fun j hj => (show 35 ≤ j ∧ j < 55 by omega)))
    obtain ⟨k1, k2, k3⟩ := qx_m400
    have tl := s2.2.2.1 w hw
    have tb : ∀ p, p < 14 → M2.1 401 (69 + p) = nI (bs p) := s2.2.2.2.1
    obtain ⟨l1, l2⟩ := qs_lb2 hG w
    have l1' : ¬ inn.testBit w = true := by rw [hc1]; decide
    have l2' : ¬ ou.testBit w = true := by rw [hwO]; decide
    have m2 := nPu_mt hu f12 (by omega)
    have hmw := m2 w hw
    rw [qz_ge hfree] at hmw
    obtain ⟨M3, g3, s3, m3, f3, h3⟩ := g242 (L := L) (xs := xs) (d := d + 3) (x := 0) hv hw s2 m2 r1 r2 hrl
    rw [heq] at m3
    refine ⟨M3, ?_, s3, m3, mf_trans (mf_mono f12 (fun j hj => by omega)) (mf_mono f3 (fun j hj => by omega)), ?_, ?_, ?_⟩
    · rw [g1, g2]
      simp only [s249_44, s249_45, s249_48, s249_50, s249_51, s249_52, s249_53, s249_54, s249_57, s249_58, s249_61, s249_63, s249_64, s249_65, s249_66, s249_67, s249_70, s249_72, s249_73, s249_74, s249_75, s249_78, s249_79, s249_80, s249_81, s249_84, s249_86, s249_87, s249_88, s249_89, s249_90, s249_93, s249_94, s249_95, s249_96, s249_99, s249_100, s249_101, s249_102, s249_105, s249_106, s249_109, s249_110, s249_111, s249_112, s249_115, s249_118, s249_119, s249_120, s249_121, s249_124, k1, k2, k3, nI_add, tl, l1, l1', l2, l2', tb _ hv, tb _ hw, hne2, m213 hw, hmw, eq_self, g3, (qn_c (55 + w) (by omega)).1, (qn_c (55 + w) (by omega)).2, (qn_c (69 + w) (by omega)).1, (qn_c (69 + w) (by omega)).2, (qn_c (69 + qa qb) (by omega)).1, (qn_c (69 + qa qb) (by omega)).2, List.length_cons, List.length_nil, Nat.zero_le, Nat.reduceAdd, Nat.reduceLeDiff, Option.bind_some, qx_kn_v, qx_kn_n, Nat.add_zero, Bool.false_eq_true, ↓reduceIte]
    · rw [h3, f12.2 _ (by omega)]
      rfl
    · rw [f3.2 _ (by omega), f12.2 _ (by omega)]
      exact (qi_a0 _).symm
    · rw [f3.2 _ (by omega), f12.2 _ (by omega)]
      dsimp only
      rw [Nat.sub_self]
      exact (qi_a0 _).symm
theorem q_adv5 (hp : qp_ok n r q f mt) (hG : qg_ok n rt mt ou inn qb e as qa tm bs lk wy) (hqe : qb < e) (he : e < 14) (hvO : qO ou (qa qb)) (hv : qa qb < 14) {w : Nat} (hwq : qs_nx (qp_al r q (f (qa qb)) (qa qb)) (14 - as) as = w) (hw : w < 14) (hc1 : inn.testBit w = false) (hc2 : ¬ bs (qa qb) = bs w) (hwO : ou.testBit w = false) (hm14 : mt w < 14)
    (hmv : mt w ≠ qa qb) (hmw : w ≠ mt w) (hwy : wy (mt w) = []) (hl : (wy (qa qb)).length + 2 ≤ 14) :
    qAdv n r q f mt rt sp bm ou inn qb e as qa bs lk nr fr wy 1 mt ((1, rt, sp + 1, bm), (ou ||| 2 ^ mt w, qb_dif (inn ||| 2 ^ w) (2 ^ mt w), qb, e + 1, w + 1), qu qa e (mt w), bs, qu lk w (qa qb), nr, fr, qu wy (mt w) (mt w :: w :: wy (qa qb))) := by
  have ha := hG.2.2.2.2.2.1
  have hb2 : ∀ p, p < 14 → bs p < 14 := fun p hp => qg_bs hG hp
  have hi14 := hG.2.2.2.1
  have ho14 := hG.2.2.1
  have hne : ¬ nI (bs (qa qb)) = nI (bs w) := fun z => hc2 ((nI_eq (by have := hb2 _ hv; omega) (by have := hb2 _ hw; omega)).mp z)
  have hne2 : ¬ nI (bs w) = nI (bs (qa qb)) := fun z => hne z.symm
  refine ⟨?_, ?_⟩
  · intro L xs d x t u M hZ hP hut hu hS
    obtain ⟨M1, g1, s1, f1⟩ := g64p (L := L) (xs := xs) (d := d) (x := x) hZ hP hut hp hu hS hqe (by omega) ha hv
    rw [hwq, qz_lt hw] at g1
    obtain ⟨M2, g2, s2, f2⟩ := g64q (L := L) (xs := xs) (d := d) (x := x) (u := u) (v := qa qb) hZ s1 hw
    have f12 := qf_trans f1 f2
    have m2 := qMt_fr hu.2.2.2.2 f12 (by omega)
    obtain ⟨M3, g3, s3, f3⟩ := g67 (L := L) (xs := xs) (d := d) (x := 0) hZ s2 hv hw hm14 he hmv hwy hl
    have t5 := s2.1.2.2.2.2.2.1
    have t4 := s2.1.2.2.2.2.1
    have tb : ∀ p, p < 14 → M2.1 (t + 2) p = nI (bs p) := s2.2.2.1
    have hmw2 := m2 w hw
    have hnn : ¬ M2.1 (u + 2) w = -1 := by rw [hmw2, qz_n1]; omega
    have hnn2 : decide (M2.1 (u + 2) w = -1) = false := decide_eq_false hnn
    rw [qz_lt hm14] at hmw2
    refine ⟨M3, ?_, s3, qMt_fr m2 f3 (by unfold qSf; omega), qf_trans (qf_mono f12 (fun a ha => Or.inl (by unfold qSf; omega))) (qf_mono f3 (fun a ha => Or.inl ha))⟩
    rw [g1, g2]
    simp only [s64_39, s64_40, s64_43, s64_44, s64_47, s64_50, s64_51, s64_52, s64_55, s64_56, s64_57, s64_60, s64_63, s64_64, s64_65, s64_66, s64_69, s64_70, s64_73, s64_76, s64_77, s64_78, s64_79, s64_80, s64_83, s64_84, s64_85, s64_86, s64_87, s64_90, s64_115, s64_116, s64_117, s64_118, s64_119, s64_120, s64_123, s64_126, s64_127, hZ.1, hP.1, t5, t4, m170 (show inn < 2 ^ 31 by omega) (show w < 31 by omega), m170 (show ou < 2 ^ 31 by omega) (show w < 31 by omega), hc1, hwO, bI_0, m58 hZ hv, m58 hZ hw, tb _ hv, tb _ hw, hne, m47 hP hw, hnn2, m46 hP hw, List.length_cons, List.length_nil, Nat.zero_le, Nat.reduceAdd, Nat.reduceLeDiff, Option.bind_some, qx_kn_v, qx_kn_n, Nat.add_zero, Bool.false_eq_true, ↓reduceIte]
    rw [hmw2]
    simp only [s64_115, s64_116, s64_117, s64_118, s64_119, s64_120, s64_123, s64_126, s64_127, hZ.1, hP.1, m46 hP hw, g3, List.length_cons, List.length_nil, Nat.zero_le, Nat.reduceAdd, Nat.reduceLeDiff, Option.bind_some, qx_kn_v, qx_kn_n, Nat.add_zero, Bool.false_eq_true, ↓reduceIte]
  · intro L xs d x M hu hS
    obtain ⟨M1, g1, s1, f1⟩ := g249p (L := L) (xs := xs) (d := d) (x := x) hp hu hS hqe ha hv
    rw [hwq, qz_lt hw] at g1
    obtain ⟨M2, g2, s2, f2⟩ := g249q (L := L) (xs := xs) (d := d) (x := x) (v := qa qb) s1 hw
    have f12 := mf_trans (mf_mono f1 (fun j hj => (show 35 ≤ j ∧ j < 55 by omega))) (mf_mono f2 (fun j hj => (show 35 ≤ j ∧ j < 55 by omega)))
    obtain ⟨k1, k2, k3⟩ := qx_m400
    have tl := s2.2.2.1 w hw
    have tb : ∀ p, p < 14 → M2.1 401 (69 + p) = nI (bs p) := s2.2.2.2.1
    obtain ⟨l1, l2⟩ := qs_lb2 hG w
    have l1' : ¬ inn.testBit w = true := by rw [hc1]; decide
    have l2' : ¬ ou.testBit w = true := by rw [hwO]; decide
    have m2 := nPu_mt hu f12 (by omega)
    have hmw2 := m2 w hw
    have hnn : ¬ M2.1 401 (21 + w) = -1 := by rw [hmw2, qz_n1]; omega
    obtain ⟨M3, g3, s3, f3⟩ := g243 (L := L) (xs := xs) (d := d + 2) (x := 0) s2 m2 rfl hv hw hm14 (by omega) he hmv hmw hwy hl hwO
    refine ⟨M3, ?_, s3, nMt_fr m2 f3 (by omega), mf_trans (mf_mono f12 (fun j hj => by omega)) (mf_mono f3 (fun j hj => by omega)), ?_, ?_, ?_⟩
    · rw [g1, g2]
      simp only [s249_44, s249_45, s249_48, s249_50, s249_51, s249_52, s249_53, s249_54, s249_57, s249_58, s249_61, s249_63, s249_64, s249_65, s249_66, s249_67, s249_70, s249_72, s249_73, s249_74, s249_75, s249_78, s249_79, s249_80, s249_81, s249_84, s249_86, s249_87, s249_88, s249_89, s249_90, s249_93, s249_94, s249_95, s249_96, s249_99, s249_100, s249_101, s249_102, s249_105, s249_106, s249_109, s249_110, s249_111, s249_112, s249_115, s249_118, s249_119, s249_120, s249_121, s249_124, k1, k2, k3, nI_add, tl, l1, l1', l2, l2', tb _ hv, tb _ hw, hne2, m213 hw, hnn, g3, (qn_c (55 + w) (by omega)).1, (qn_c (55 + w) (by omega)).2, (qn_c (69 + w) (by omega)).1, (qn_c (69 + w) (by omega)).2, (qn_c (69 + qa qb) (by omega)).1, (qn_c (69 + qa qb) (by omega)).2, List.length_cons, List.length_nil, Nat.zero_le, Nat.reduceAdd, Nat.reduceLeDiff, Option.bind_some, qx_kn_v, qx_kn_n, Nat.add_zero, Bool.false_eq_true, ↓reduceIte]
    · rw [f3.2 _ (by omega), f12.2 _ (by omega)]
      exact (qi_a0 _).symm
    · rw [f3.2 _ (by omega), f12.2 _ (by omega)]
      exact (qi_a0 _).symm
    · rw [f3.2 _ (by omega), f12.2 _ (by omega)]
      dsimp only
      rw [Nat.sub_self]
      exact (qi_a0 _).symm
end QA
