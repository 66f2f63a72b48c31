/-! A pupil that has a mate keeps one through a search. -/
theorem qs_jn_lt : ∀ (l : List Nat) (mt : Nat → Nat) (j : Nat), (∀ a, a ∈ l → a < 14) → mt j < 14 → qs_jn mt l j < 14
  | [], _, _, _, h => h
  | [_], _, _, _, h => h
  | b :: c :: t, mt, j, hl, h => by
    rw [qs_jn]
    refine qs_jn_lt t _ j (fun a ha => hl a (List.mem_cons_of_mem _ (List.mem_cons_of_mem _ ha))) ?_
    by_cases z1 : j = c
    · rw [z1, qu_eq]
      exact hl b List.mem_cons_self
    · rw [qu_ne _ _ z1]
      by_cases z2 : j = b
      · rw [z2, qu_eq]
        exact hl c (List.mem_cons_of_mem _ List.mem_cons_self)
      · rw [qu_ne _ _ z2]
        exact h
section QA
variable {n r q : Nat} {f mt : Nat → Nat} {rt sp bm ou inn qb e as : Nat} {qa tm bs lk nr fr : Nat → Nat} {wy : Nat → List Nat}
theorem q_adv4k (hp : qp_ok n r q f mt) (hG : qg_ok n rt mt ou inn qb e as qa tm bs lk wy) (hqe : qb < e) (he : e ≤ 14) (hvO : qO ou (qa qb)) (hv : qa qb < 14) {w : Nat} (hwq : qs_nx (qp_al r q (f (qa qb)) (qa qb)) (14 - as) as = w) (hw : w < 14) (hwn : w < n) (hc1 : inn.testBit w = false) (hc2 : ¬ bs (qa qb) = bs w) (hwO : ou.testBit w = false) (hfree : ¬ mt w < 14) :
    ∃ mt', (qm_ok n mt' ∧ ∀ j, mt j < 14 → mt' j < 14) ∧ qAdv n r q f mt rt sp bm ou inn qb e as qa bs lk nr fr wy 3 mt' ((2, rt, sp + 1, bm), (ou, inn, qb, e, w + 1), qa, bs, lk, nr, fr, wy) := by
  have ha := hG.2.2.2.2.2.1
  have hb2 : ∀ p, p < 14 → bs p < 14 := fun p hp => qg_bs hG hp
  have hi14 := hG.2.2.2.1
  have ho14 := hG.2.2.1
  have hne : ¬ nI (bs (qa qb)) = nI (bs w) := fun z => hc2 ((nI_eq (by have := hb2 _ hv; omega) (by have := hb2 _ hw; omega)).mp z)
  have hne2 : ¬ nI (bs w) = nI (bs (qa qb)) := fun z => hne z.symm
  obtain ⟨rr, r1, r2, r3, r4, r5, r6⟩ := qs_turn hG.1 hG.2.1 hG.2.2.2.2.2.2 hvO
  obtain ⟨d1, d2⟩ := List.nodup_cons.mp r3
  have hvw : qa qb ≠ w := fun z => by
    have h := hvO
    unfold qO at h
    rw [z, hwO] at h
    exact absurd h (by decide)
  have hwr : w ∉ rr := fun z => by
    rcases (r4 w (List.mem_cons_of_mem _ z)).2 with h | h
    · unfold qO at h
      rw [hwO] at h
      exact absurd h (by decide)
    · unfold qO at h
      rw [hc1] at h
      exact absurd h (by decide)
  have hrl : ∀ a, a ∈ rr → a < 14 := fun a ha => by
    have := (r4 a (List.mem_cons_of_mem _ ha)).1
    have := hG.1
    omega
  have hgw : ¬ qs_jn (qu mt (qa qb) 14) rr w < 14 := by
    rw [qs_jn_out _ _ _ hwr, qu_ne _ _ (Ne.symm hvw)]
    exact hfree
  have hmt' := qm_join hG.1 r5 (r4 _ List.mem_cons_self).1 hwn hvw (by rw [r6]; decide) hgw
  have heq : qs_jn (qu (qu mt (qa qb) w) w (qa qb)) rr = qu (qu (qs_jn (qu mt (qa qb) 14) rr) (qa qb) w) w (qa qb) := by
    rw [qs_jn_qu _ _ _ _ hwr, qs_jn_qu _ _ _ _ d1, qs_jn_qu _ _ _ _ d1, qu_twice]
  have hkp : ∀ j, mt j < 14 → qu (qu (qs_jn (qu mt (qa qb) 14) rr) (qa qb) w) w (qa qb) j < 14 := by
    intro j hj
    by_cases z1 : j = w
    · rw [z1, qu_eq]
      exact hv
    · rw [qu_ne _ _ z1]
      by_cases z2 : j = qa qb
      · rw [z2, qu_eq]
        exact hw
      · rw [qu_ne _ _ z2]
        exact qs_jn_lt _ _ _ hrl (by rw [qu_ne _ _ z2]; exact hj)
  refine ⟨_, ⟨hmt', hkp⟩, ?_, ?_⟩
  · intro L xs d x t u M hZ hP hut hu hS
    obtain ⟨M1, g1, s1, f1⟩ := g64p (L := L) (xs := xs) (d := d) (x := x) hZ hP hut hp hu hS hqe he ha hv
    rw [hwq, qz_lt hw] at g1
    obtain ⟨M2, g2, s2, f2⟩ := g64q (L := L) (xs := xs) (d := d) (x := x) (u := u) (v := qa qb) hZ s1 hw
    have f12 := qf_trans f1 f2
    have m2 := qMt_fr hu.2.2.2.2 f12 (by omega)
    obtain ⟨M3, g3, m3, f3⟩ := g52 (L := L) (xs := xs) (d := d + 1) (x := 0) (t := t + 6) hP hZ.2.2 hv (by omega) (by omega) r1 r2 hrl m2 s2.2.2.2.2.2.2
    obtain ⟨M4, g4, m4, f4⟩ := g49 (L := L) (xs := xs) (d := d + 2) (x := 0) hP hv hw m3
    have f34 := qf_trans f3 f4
    have s4 := qS_fr s2 f34 (fun a ha => by omega)
    have s5 : qS t (qx_up M4 t 0 (nI 2)) 2 rt (sp + 1) bm ou inn qb e (w + 1) qa bs lk nr fr wy := by
      refine qS_t s4 ?_ (Nat.le_refl _)
      obtain ⟨t0, t1, t2, t3, t4, t5, t6, t7, t8⟩ := s4.1
      unfold qS1
      simp [qx_up_at, t1, t2, t3, t4, t5, t6, t7, t8]
    have f5 : qf (fun a => a = t) M4 (qx_up M4 t 0 (nI 2)) := qf_up _ _ _ _ rfl
    have t5 := s2.1.2.2.2.2.2.1
    have t4 := s2.1.2.2.2.2.1
    have tb : ∀ p, p < 14 → M2.1 (t + 2) p = nI (bs p) := s2.2.2.1
    have hmw := m2 w hw
    rw [qz_ge hfree] at hmw
    refine ⟨_, ?_, s5, qMt_fr m4 f5 (by omega), qf_trans (qf_mono f12 (fun a ha => Or.inl (by unfold qSf; omega))) (qf_trans (qf_mono f34 (fun a ha => Or.inr ha)) (qf_mono f5 (fun a ha => Or.inl (by unfold qSf; omega))))⟩
    rw [g1, g2]
    simp only [s64_39, s64_40, s64_43, s64_44, s64_47, s64_50, s64_51, s64_52, s64_55, s64_56, s64_57, s64_60, s64_63, s64_64, s64_65, s64_66, s64_69, s64_70, s64_73, s64_76, s64_77, s64_78, s64_79, s64_80, s64_83, s64_84, s64_85, s64_86, s64_87, s64_90, s64_93, s64_94, s64_95, s64_98, s64_99, s64_102, s64_103, s64_104, s64_105, s64_108, s64_109, s64_110, s64_113, s64_114, hZ.1, hZ.2.2.1, hP.1, t5, t4, m170 (show inn < 2 ^ 31 by omega) (show w < 31 by omega), m170 (show ou < 2 ^ 31 by omega) (show w < 31 by omega), hc1, hwO, bI_0, Bool.true_eq_false, m58 hZ hv, m58 hZ hw, tb _ hv, tb _ hw, hne, m47 hP hw, hmw, decide_true, g3, g4, List.length_cons, List.length_nil, Nat.zero_le, Nat.reduceAdd, Nat.reduceLeDiff, Option.bind_some, qx_kn_v, qx_kn_n, Nat.add_zero, Bool.false_eq_true, ↓reduceIte]
  · intro L xs d x M hu hS
    obtain ⟨M1, g1, s1, f1⟩ := g249p (L := L) (xs := xs) (d := d) (x := x) hp hu hS hqe ha hv
    rw [hwq, qz_lt hw] at g1
    obtain ⟨M2, g2, s2, f2⟩ := g249q (L := L) (xs := xs) (d := d) (x := x) (v := qa qb) s1 hw
    have f12 := mf_trans (mf_mono f1 (fun j hj => (show 35 ≤ j ∧ j < 55 by omega))) (mf_mono f2 (fun j hj => (show 35 ≤ j ∧ j < 55 by omega)))
    obtain ⟨k1, k2, k3⟩ := qx_m400
    have tl := s2.2.2.1 w hw
    have tb : ∀ p, p < 14 → M2.1 401 (69 + p) = nI (bs p) := s2.2.2.2.1
    obtain ⟨l1, l2⟩ := qs_lb2 hG w
    have l1' : ¬ inn.testBit w = true := by rw [hc1]; decide
    have l2' : ¬ ou.testBit w = true := by rw [hwO]; decide
    have m2 := nPu_mt hu f12 (by omega)
    have hmw := m2 w hw
    rw [qz_ge hfree] at hmw
    obtain ⟨M3, g3, s3, m3, f3, h3⟩ := g242 (L := L) (xs := xs) (d := d + 3) (x := 0) hv hw s2 m2 r1 r2 hrl
    rw [heq] at m3
    refine ⟨M3, ?_, s3, m3, mf_trans (mf_mono f12 (fun j hj => by omega)) (mf_mono f3 (fun j hj => by omega)), ?_, ?_, ?_⟩
    · rw [g1, g2]
      simp only [s249_44, s249_45, s249_48, s249_50, s249_51, s249_52, s249_53, s249_54, s249_57, s249_58, s249_61, s249_63, s249_64, s249_65, s249_66, s249_67, s249_70, s249_72, s249_73, s249_74, s249_75, s249_78, s249_79, s249_80, s249_81, s249_84, s249_86, s249_87, s249_88, s249_89, s249_90, s249_93, s249_94, s249_95, s249_96, s249_99, s249_100, s249_101, s249_102, s249_105, s249_106, s249_109, s249_110, s249_111, s249_112, s249_115, s249_118, s249_119, s249_120, s249_121, s249_124, k1, k2, k3, nI_add, tl, l1, l1', l2, l2', tb _ hv, tb _ hw, hne2, m213 hw, hmw, eq_self, g3, (qn_c (55 + w) (by omega)).1, (qn_c (55 + w) (by omega)).2, (qn_c (69 + w) (by omega)).1, (qn_c (69 + w) (by omega)).2, (qn_c (69 + qa qb) (by omega)).1, (qn_c (69 + qa qb) (by omega)).2, List.length_cons, List.length_nil, Nat.zero_le, Nat.reduceAdd, Nat.reduceLeDiff, Option.bind_some, qx_kn_v, qx_kn_n, Nat.add_zero, Bool.false_eq_true, ↓reduceIte]
    · rw [h3, f12.2 _ (by omega)]
      rfl
    · rw [f3.2 _ (by omega), f12.2 _ (by omega)]
      exact (qi_a0 _).symm
    · rw [f3.2 _ (by omega), f12.2 _ (by omega)]
      dsimp only
      rw [Nat.sub_self]
      exact (qi_a0 _).symm
end QA
theorem q_advk {n r q : Nat} {f mt : Nat → Nat} {rt sp bm ou inn qb e as : Nat} {qa tm bs lk nr fr : Nat → Nat} {wy : Nat → List Nat} (hp : qp_ok n r q f mt) (hG : qg_ok n rt mt ou inn qb e as qa tm bs lk wy) (hqe : qb < e) :
    ∃ (c : Nat) (mt' : Nat → Nat) (g' : qSg), (∀ j, mt j < 14 → mt' j < 14) ∧ c < 6 ∧ qm_ok n mt' ∧ gT n mt' g' ∧ g'.1.2.1 = rt ∧ g'.1.2.2.1 = sp + 1 ∧ bm ≤ g'.1.2.2.2 ∧ g'.1.2.2.2 ≤ bm + 1 ∧ (g'.1.1 = 1 → gmu g' < 15 * (14 - qb) + (14 - as)) ∧ qAdv n r q f mt rt sp bm ou inn qb e as qa bs lk nr fr wy c mt' g' := by
  have hn := hG.1
  have hm := hG.2.1
  have ho := hG.2.2.1
  have hin := hG.2.2.2.1
  have ha := hG.2.2.2.2.2.1
  have h7 := hG.2.2.2.2.2.2
  have hen := qs_e_le h7
  have he : e ≤ 14 := by omega
  have hq := h7.2.1 qb hqe
  have hv := (h7.1 _ hq.1).1
  have hv14 : qa qb < 14 := by omega
  by_cases hw : qs_nx (qp_al r q (f (qa qb)) (qa qb)) (14 - as) as < 14
  · generalize hwq : qs_nx (qp_al r q (f (qa qb)) (qa qb)) (14 - as) as = w at hw
    have hbit := qs_nx_bit (qp_al r q (f (qa qb)) (qa qb)) (14 - as) as (by omega) (by rw [hwq]; exact hw)
    rw [hwq] at hbit
    have hwn : w < n := qb_bit_lt (qp_al_ltn (hp.2.2.2.1 _ hv14).1) hbit.1
    have hmu : 15 * (14 - qb) + (14 - (w + 1)) < 15 * (14 - qb) + (14 - as) := by omega
    have hG' : qg_ok n rt mt ou inn qb e (w + 1) qa tm bs lk wy := ⟨hn, hm, ho, hin, hG.2.2.2.2.1, by omega, h7⟩
    by_cases hc : inn.testBit w = true ∨ bs (qa qb) = bs w
    · have h1 := q_adv2 (sp := sp) (bm := bm) (nr := nr) (fr := fr) hp hG hqe he hv14 hwq hw hc
      refine ⟨_, mt, _, fun _ h => h, ?_, hm, ⟨?_, ⟨mt, tm, ?_, fun _ => rfl⟩, ?_⟩, ?_, ?_, ?_, ?_, ?_, h1⟩
      · decide
      · exact Or.inl rfl
      · exact hG'
      · exact fun _ => hqe
      · rfl
      · rfl
      · exact Nat.le_refl _
      · exact Nat.le_succ _
      · exact fun _ => hmu
    · have hc1 : inn.testBit w = false := by
        cases z : inn.testBit w with
        | false => rfl
        | true => exact absurd (Or.inl z) hc
      have hc2 : ¬ bs (qa qb) = bs w := fun z => hc (Or.inr z)
      by_cases hwO : ou.testBit w = true
      · obtain ⟨s1, s2, s3, tm', s4⟩ := qg_shrink hG' hq.1 hwO (tp := _) rfl (ma := _) rfl (me := qs_me bs (qs_bel (qs_up mt bs lk) _ 14 (bs (qa qb))) (qs_bel (qs_up mt bs lk) _ 14 (bs w)) _ _) (nr := nr) (fr := fr) (fun p hp => qs_me_bit hp)
        have h1 := q_adv3 (sp := sp) (bm := bm) (nr := nr) (fr := fr) hp hG hqe he hq.1 hv14 hwq hw hc1 hc2 hwO rfl rfl
        refine ⟨_, mt, _, fun _ h => h, ?_, hm, ⟨?_, ⟨mt, tm', ?_, fun _ => rfl⟩, ?_⟩, ?_, ?_, ?_, ?_, ?_, h1⟩
        · decide
        · exact Or.inl rfl
        · exact s4
        · intro _
          show qb < e + _
          omega
        · rfl
        · rfl
        · exact Nat.le_succ _
        · exact Nat.le_refl _
        · exact fun _ => hmu
      · have hwO2 : ou.testBit w = false := by simpa using hwO
        by_cases hm14 : mt w < 14
        · obtain ⟨g0, g1⟩ := qs_grow hn hm h7 (v := qa qb) (w := w) (O' := qO (ou ||| 2 ^ mt w)) (I' := qO (qb_dif (inn ||| 2 ^ w) (2 ^ mt w))) hq.1 hwO (by unfold qO; rw [hc1]; decide) hwn hm14 (by
            intro p
            unfold qO
            rw [Nat.testBit_or, Bool.or_eq_true, qb_two, decide_eq_true_eq]
            exact ⟨fun z => z.imp id Eq.symm, fun z => z.imp id Eq.symm⟩) (by
            intro p
            have hxI : ¬ qO inn (mt w) := fun z => by
              have r1 := (h7.2.2.1 _ z).2.2.1
              have r2 := (hm w hw hm14).2.2.2
              rw [r2] at r1
              exact hwO r1
            have hne := (hm w hw hm14).2.2.1
            unfold qO at hxI ⊢
            rw [qb_dif_bit, Nat.testBit_or, qb_two, qb_two, Bool.and_eq_true, Bool.or_eq_true]
            constructor
            · rintro ⟨z1, z2⟩
              rcases z1 with z1 | z1
              · exact Or.inl z1
              · exact Or.inr (by simpa using (of_decide_eq_true z1).symm)
            · intro z
              have hpm : ¬ mt w = p := by
                intro u
                rcases z with z | z
                · rw [← u] at z
                  exact hxI z
                · rw [z] at u
                  exact hne u
              refine ⟨?_, by simpa using hpm⟩
              rcases z with z | z
              · exact Or.inl z
              · exact Or.inr (decide_eq_true z.symm))
          have hen2 := qs_e_le g1
          have hO' : qO (ou ||| 2 ^ mt w) (mt w) := by
            unfold qO
            rw [Nat.testBit_or, qb_two]
            simp
          obtain ⟨z, z1, z2, z3, z4, z5⟩ := qs_way hn hm g1 hO'
          have hl : (wy (qa qb)).length + 2 ≤ 14 := by
            have := qs_php 14 _ z3 (by
              intro a ha
              rcases List.mem_append.mp ha with y | y
              · rcases z4 a y with y | y
                · have := (g1.1 a y).1
                  omega
                · have := (g1.2.2.1 a y).1
                  omega
              · rw [List.mem_singleton] at y
                rw [y]
                have := (g1.1 rt g1.2.2.2.1.1).1
                omega)
            rw [← z1, qu_eq, List.length_cons, List.length_cons] at this
            omega
          have h1 := q_adv5 (sp := sp) (bm := bm) (nr := nr) (fr := fr) hp hG hqe (by omega) hq.1 hv14 hwq hw hc1 hc2 hwO2 hm14 (by
            intro z
            rw [z] at g0
            exact g0.1 hq.1) (fun z => g0.2.2.2 z.symm) (h7.2.2.2.2.2.1 _ g0.1).2 hl
          refine ⟨_, mt, _, fun _ h => h, ?_, hm, ⟨?_, ⟨mt, qu tm (mt w) e, ⟨hn, hm, ?_, ?_, ?_, ?_, g1⟩, fun _ => rfl⟩, ?_⟩, ?_, ?_, ?_, ?_, ?_, h1⟩
          · decide
          · exact Or.inl rfl
          · exact Nat.or_lt_two_pow (n := 14) ho (Nat.pow_lt_pow_right (by decide) hm14)
          · exact qb_dif_le (n := 14) (Nat.or_lt_two_pow (n := 14) hin (Nat.pow_lt_pow_right (by decide) hw))
          · show qb ≤ e + 1
            omega
          · show w + 1 ≤ 14
            omega
          · intro _
            show qb < e + 1
            omega
          · rfl
          · rfl
          · exact Nat.le_refl _
          · exact Nat.le_succ _
          · exact fun _ => hmu
        · obtain ⟨mt', y1, y2⟩ := q_adv4k (sp := sp) (bm := bm) (nr := nr) (fr := fr) hp hG hqe he hq.1 hv14 hwq hw hwn hc1 hc2 hwO2 hm14
          refine ⟨_, mt', _, y1.2, ?_, y1.1, ⟨?_, ⟨mt, tm, ?_, ?_⟩, ?_⟩, ?_, ?_, ?_, ?_, ?_, y2⟩
          · decide
          · exact Or.inr (Or.inl rfl)
          · exact hG'
          · exact fun z => absurd rfl z
          · exact fun z => absurd z (show ¬ 2 = 1 by decide)
          · rfl
          · rfl
          · exact Nat.le_refl _
          · exact Nat.le_succ _
          · exact fun z => absurd z (show ¬ 2 = 1 by decide)
  · have h1 := q_adv1 (sp := sp) (bm := bm) (nr := nr) (fr := fr) hp hG hqe he hv14 hw
    have hG' : qg_ok n rt mt ou inn (qb + 1) e 0 qa tm bs lk wy := ⟨hn, hm, ho, hin, by omega, by omega, h7⟩
    refine ⟨_, mt, _, fun _ h => h, ?_, hm, ⟨?_, ⟨mt, tm, ?_, fun _ => rfl⟩, ?_⟩, ?_, ?_, ?_, ?_, ?_, h1⟩
    · split <;> decide
    · dsimp only
      split
      · exact Or.inl rfl
      · exact Or.inr (Or.inr rfl)
    · exact hG'
    · dsimp only
      intro z
      by_cases y : qb + 1 < e
      · exact y
      · rw [if_neg y] at z
        exact absurd z (by decide)
    · rfl
    · rfl
    · exact Nat.le_refl _
    · exact Nat.le_succ _
    · intro _
      unfold gmu
      dsimp only
      omega

theorem q_runsk {n r q : Nat} {f : Nat → Nat} : ∀ (m : Nat) (mt : Nat → Nat) (g : qSg), gmu g < m → qp_ok n r q f mt → gT n mt g → g.1.1 = 1 →
    ∃ k mt' g', (∀ j, mt j < 14 → mt' j < 14) ∧ k ≤ m ∧ qm_ok n mt' ∧ gT n mt' g' ∧ (g'.1.1 = 2 ∨ g'.1.1 = 3) ∧ g'.1.2.1 = g.1.2.1 ∧ g'.1.2.2.1 = g.1.2.2.1 + k ∧ g.1.2.2.2 ≤ g'.1.2.2.2 ∧ g'.1.2.2.2 ≤ g.1.2.2.2 + k ∧ qRun n r q f mt g k mt' g' := by
  intro m
  induction m with
  | zero => intro mt g h; omega
  | succ m ih =>
    rintro mt ⟨⟨st, rt, sp, bm⟩, ⟨ou, inn, qb, e, as⟩, qa, bs, lk, nr, fr, wy⟩ hmu hp hT hst
    obtain ⟨T1, ⟨mt0, tm, T2, T3⟩, T4⟩ := hT
    dsimp only at hst T1 T3 T4
    subst hst
    have hm0 : mt0 = mt := T3 (by decide)
    rw [hm0] at T2
    have hG : qg_ok n rt mt ou inn qb e as qa tm bs lk wy := T2
    have hqe : qb < e := T4 rfl
    obtain ⟨c, mt1, g1, b0, b1, b2, b3, b4, b5, b6, b7, b8, b9, b10⟩ := q_advk (sp := sp) (bm := bm) (nr := nr) (fr := fr) hp hG hqe
    have hp1 : qp_ok n r q f mt1 := by
      obtain ⟨p1, p2, p3, p4, p5, p6⟩ := hp
      exact ⟨p1, p2, p3, p4, p5, b2⟩
    by_cases hs1 : g1.1.1 = 1
    · have hmu1 := b8 hs1
      obtain ⟨k, mt', g', c0, c1, c2, c3, c4, c5, c6, c7, c8, c9, c10⟩ := ih mt1 g1 (by
        have h : gmu ((1, rt, sp, bm), (ou, inn, qb, e, as), qa, bs, lk, nr, fr, wy) = 15 * (14 - qb) + (14 - as) := rfl
        omega) hp1 b3 hs1
      refine ⟨k + 1, mt', g', fun j hj => c0 j (b0 j hj), by omega, c2, c3, c4, ?_, ?_, ?_, ?_, ?_, ?_⟩
      · rw [c5, b4]
      · rw [c6, b5]
        show sp + 1 + k = sp + (k + 1)
        omega
      · show bm ≤ _
        omega
      · show _ ≤ bm + (k + 1)
        omega
      · intro L xs d x s M z1 z2 i hT hu hS hi
        obtain ⟨t1, t2, t3⟩ := hT
        have h1 : ¬ nI 1000 ≤ nI i := nI_ge (by omega) (by decide)
        obtain ⟨M1, e1, e2, e3, e4⟩ := b9 L xs d 0 (s + 4) (s + 1) M t3 t2 (by omega) hu hS
        have e5 := qf_mono e4 (Q := fun a => s + 3 ≤ a ∧ a ≤ s + 12) (fun a ha => by unfold qSf at ha; omega)
        obtain ⟨M2, f1, f2, f3, f4⟩ := c9 L xs d x s M1 z1 z2 (i + 1) ⟨t1, t2, t3⟩ (qPu_step (t := s + 4) hu e5 e3 (by omega) (by omega)) e2 (by omega)
        refine ⟨M2, ?_, f2, f3, qf_trans e5 f4⟩
        have hs0 : M.1 (s + 4) 0 = nI 1 := hS.1.1
        simp only [s77_18, s77_19, s77_22, s77_25, s77_26, s77_29, s77_32, s77_33, s77_36, s77_37, s77_40, s77_41, s77_44, s77_47, s77_48i, s77_48r, s77_48n, t1, t2.1, t3.1, h1, hs0, eq_self, e1, nI_add, List.length_cons, List.length_nil, Nat.zero_le, Nat.reduceAdd, Nat.reduceLeDiff, Option.bind_some, qx_kn_v, qx_kn_n, Nat.add_zero, Bool.false_eq_true, ↓reduceIte]
        rw [s77_51, f1, show i + 1 + k = i + (k + 1) by omega]
      · intro L xs d x M c0 a2 hu hS
        have h35 : M.1 401 35 = nI 1 := hS.1.1
        obtain ⟨M1, e1, e2, e3, e4, e5, e6, e7⟩ := b10 L xs d 0 M hu hS
        obtain ⟨M2, w2, f1, f2, f3, f4, f5, f6, f7⟩ := c10 L xs d x M1 (c0 + 1) (some (.int (nI c))) (nPu_step hu e4 e3 (by omega)) e2
        refine ⟨M2, w2, ?_, f2, f3, mf_trans e4 f4, ?_, ?_, ?_⟩
        · simp only [s251_2, s251_3, s251_6, s251_9, s251_10, s251_13i, s251_13r, s251_13n, s251_14i, s251_14r, s251_14n, qx_m400.1, g250 h35 (by decide), e1, decide_true, bI_0, Bool.true_eq_false, nI_add, List.length_cons, List.length_nil, Nat.zero_le, Nat.reduceAdd, Nat.reduceLeDiff, Option.bind_some, qx_kn_v, qx_kn_n, Nat.add_zero, Bool.false_eq_true, ↓reduceIte]
          rw [s251_17, f1, show c0 + 1 + k = c0 + (k + 1) by omega]
        · rw [f5, e5, hs1]
          rw [if_neg (show ¬ 1 = 2 by decide), qi_a0]
        · rw [f6, e6, hs1]
          rw [if_neg (show ¬ 1 = 3 by decide), qi_a0]
        · rw [f7, e7, Int32.add_assoc, nI_add]
          congr 2
          show _ = _ - bm
          omega
    · have hs2 : g1.1.1 = 2 ∨ g1.1.1 = 3 := by
        rcases b3.1 with z | z
        · exact absurd z hs1
        · exact z
      refine ⟨1, mt1, g1, b0, by omega, b2, b3, hs2, b4, b5, b6, b7, ?_, ?_⟩
      · intro L xs d x s M z1 z2 i hT hu hS hi
        obtain ⟨t1, t2, t3⟩ := hT
        have h1 : ¬ nI 1000 ≤ nI i := nI_ge (by omega) (by decide)
        have h2 : ¬ nI 1000 ≤ nI (i + 1) := nI_ge (by omega) (by decide)
        obtain ⟨M1, e1, e2, e3, e4⟩ := b9 L xs d 0 (s + 4) (s + 1) M t3 t2 (by omega) hu hS
        refine ⟨M1, ?_, e2, e3, qf_mono e4 (fun a ha => by unfold qSf at ha; omega)⟩
        have hs0 : M.1 (s + 4) 0 = nI 1 := hS.1.1
        have hs9 : M1.1 (s + 4) 0 = nI g1.1.1 := e2.1.1
        have hs8 : (nI g1.1.1 = nI 1) = False := by
          rw [qi_eq (by omega) (by decide)]
          exact eq_false hs1
        simp only [s77_18, s77_19, s77_22, s77_25, s77_26, s77_29, s77_32, s77_33, s77_36, s77_37, s77_40, s77_41, s77_44, s77_47, s77_48i, s77_48r, s77_48n, t1, t2.1, t3.1, h1, hs0, eq_self, e1, nI_add, List.length_cons, List.length_nil, Nat.zero_le, Nat.reduceAdd, Nat.reduceLeDiff, Option.bind_some, qx_kn_v, qx_kn_n, Nat.add_zero, Bool.false_eq_true, ↓reduceIte]
        rw [s77_51]
        simp only [s77_18, s77_19, s77_22, s77_25, s77_26, s77_29, s77_32, s77_33, t1, t2.1, t3.1, h2, hs9, hs8, List.length_cons, List.length_nil, Nat.zero_le, Nat.reduceAdd, Nat.reduceLeDiff, Option.bind_some, qx_kn_v, qx_kn_n, Nat.add_zero, Bool.false_eq_true, ↓reduceIte]
      · intro L xs d x M c0 a2 hu hS
        have h35 : M.1 401 35 = nI 1 := hS.1.1
        obtain ⟨M1, e1, e2, e3, e4, e5, e6, e7⟩ := b10 L xs d 0 M hu hS
        have h36 : M1.1 401 35 = nI g1.1.1 := e2.1.1
        have hd : decide (g1.1.1 = 1) = false := decide_eq_false hs1
        refine ⟨M1, some (.int (nI c)), ?_, e2, e3, e4, e5, e6, e7⟩
        simp only [s251_2, s251_3, s251_6, s251_9, s251_10, s251_13i, s251_13r, s251_13n, s251_14i, s251_14r, s251_14n, qx_m400.1, g250 h35 (by decide), e1, decide_true, bI_0, Bool.true_eq_false, nI_add, List.length_cons, List.length_nil, Nat.zero_le, Nat.reduceAdd, Nat.reduceLeDiff, Option.bind_some, qx_kn_v, qx_kn_n, Nat.add_zero, Bool.false_eq_true, ↓reduceIte]
        rw [s251_17]
        simp only [s251_2, s251_3, s251_6, qx_m400.1, g250 h36 (by omega), hd, bI_0, List.length_cons, List.length_nil, Nat.zero_le, Nat.reduceAdd, Nat.reduceLeDiff, Option.bind_some, qx_kn_v, qx_kn_n, Nat.add_zero, Bool.false_eq_true, ↓reduceIte]
