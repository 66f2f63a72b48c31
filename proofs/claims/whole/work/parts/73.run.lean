/-! The search goes on to its end, of the class and of the Model at once. -/
/-- what holds of a search that is told -/
def gT (n : Nat) (mt : Nat → Nat) (g : qSg) : Prop := (g.1.1 = 1 ∨ g.1.1 = 2 ∨ g.1.1 = 3) ∧ (∃ mt0 tm, gO n mt0 g tm ∧ (g.1.1 ≠ 2 → mt0 = mt)) ∧ (g.1.1 = 1 → g.2.1.2.2.1 < g.2.1.2.2.2.1)
theorem q_adv {n r q : Nat} {f mt : Nat → Nat} {rt sp bm ou inn qb e as : Nat} {qa tm bs lk nr fr : Nat → Nat} {wy : Nat → List Nat} (hp : qp_ok n r q f mt) (hG : qg_ok n rt mt ou inn qb e as qa tm bs lk wy) (hqe : qb < e) :
    ∃ (c : Nat) (mt' : Nat → Nat) (g' : qSg), c < 6 ∧ qm_ok n mt' ∧ gT n mt' g' ∧ g'.1.2.1 = rt ∧ g'.1.2.2.1 = sp + 1 ∧ bm ≤ g'.1.2.2.2 ∧ g'.1.2.2.2 ≤ bm + 1 ∧ (g'.1.1 = 1 → gmu g' < 15 * (14 - qb) + (14 - as)) ∧ qAdv n r q f mt rt sp bm ou inn qb e as qa bs lk nr fr wy c mt' g' := by
  have hn := hG.1
  have hm := hG.2.1
  have ho := hG.2.2.1
  have hin := hG.2.2.2.1
  have ha := hG.2.2.2.2.2.1
  have h7 := hG.2.2.2.2.2.2
  have hen := qs_e_le h7
  have he : e ≤ 14 := by omega
  have hq := h7.2.1 qb hqe
  have hv := (h7.1 _ hq.1).1
  have hv14 : qa qb < 14 := by omega
  by_cases hw : qs_nx (qp_al r q (f (qa qb)) (qa qb)) (14 - as) as < 14
  · generalize hwq : qs_nx (qp_al r q (f (qa qb)) (qa qb)) (14 - as) as = w at hw
    have hbit := qs_nx_bit (qp_al r q (f (qa qb)) (qa qb)) (14 - as) as (by omega) (by rw [hwq]; exact hw)
    rw [hwq] at hbit
    have hwn : w < n := qb_bit_lt (qp_al_ltn (hp.2.2.2.1 _ hv14).1) hbit.1
    have hmu : 15 * (14 - qb) + (14 - (w + 1)) < 15 * (14 - qb) + (14 - as) := by omega
    have hG' : qg_ok n rt mt ou inn qb e (w + 1) qa tm bs lk wy := ⟨hn, hm, ho, hin, hG.2.2.2.2.1, by omega, h7⟩
    by_cases hc : inn.testBit w = true ∨ bs (qa qb) = bs w
    · have h1 := q_adv2 (sp := sp) (bm := bm) (nr := nr) (fr := fr) hp hG hqe he hv14 hwq hw hc
      refine ⟨_, mt, _, ?_, hm, ⟨?_, ⟨mt, tm, ?_, fun _ => rfl⟩, ?_⟩, ?_, ?_, ?_, ?_, ?_, h1⟩
      · decide
      · exact Or.inl rfl
      · exact hG'
      · exact fun _ => hqe
      · rfl
      · rfl
      · exact Nat.le_refl _
      · exact Nat.le_succ _
      · exact fun _ => hmu
    · have hc1 : inn.testBit w = false := by
        cases z : inn.testBit w with
        | false => rfl
        | true => exact absurd (Or.inl z) hc
      have hc2 : ¬ bs (qa qb) = bs w := fun z => hc (Or.inr z)
      by_cases hwO : ou.testBit w = true
      · obtain ⟨s1, s2, s3, tm', s4⟩ := qg_shrink hG' hq.1 hwO (tp := _) rfl (ma := _) rfl (me := qs_me bs (qs_bel (qs_up mt bs lk) _ 14 (bs (qa qb))) (qs_bel (qs_up mt bs lk) _ 14 (bs w)) _ _) (nr := nr) (fr := fr) (fun p hp => qs_me_bit hp)
        have h1 := q_adv3 (sp := sp) (bm := bm) (nr := nr) (fr := fr) hp hG hqe he hq.1 hv14 hwq hw hc1 hc2 hwO rfl rfl
        refine ⟨_, mt, _, ?_, hm, ⟨?_, ⟨mt, tm', ?_, fun _ => rfl⟩, ?_⟩, ?_, ?_, ?_, ?_, ?_, h1⟩
        · decide
        · exact Or.inl rfl
        · exact s4
        · intro _
          show qb < e + _
          omega
        · rfl
        · rfl
        · exact Nat.le_succ _
        · exact Nat.le_refl _
        · exact fun _ => hmu
      · have hwO2 : ou.testBit w = false := by simpa using hwO
        by_cases hm14 : mt w < 14
        · obtain ⟨g0, g1⟩ := qs_grow hn hm h7 (v := qa qb) (w := w) (O' := qO (ou ||| 2 ^ mt w)) (I' := qO (qb_dif (inn ||| 2 ^ w) (2 ^ mt w))) hq.1 hwO (by unfold qO; rw [hc1]; decide) hwn hm14 (by
            intro p
            unfold qO
            rw [Nat.testBit_or, Bool.or_eq_true, qb_two, decide_eq_true_eq]
            exact ⟨fun z => z.imp id Eq.symm, fun z => z.imp id Eq.symm⟩) (by
            intro p
            have hxI : ¬ qO inn (mt w) := fun z => by
              have r1 := (h7.2.2.1 _ z).2.2.1
              have r2 := (hm w hw hm14).2.2.2
              rw [r2] at r1
              exact hwO r1
            have hne := (hm w hw hm14).2.2.1
            unfold qO at hxI ⊢
            rw [qb_dif_bit, Nat.testBit_or, qb_two, qb_two, Bool.and_eq_true, Bool.or_eq_true]
            constructor
            · rintro ⟨z1, z2⟩
              rcases z1 with z1 | z1
              · exact Or.inl z1
              · exact Or.inr (by simpa using (of_decide_eq_true z1).symm)
            · intro z
              have hpm : ¬ mt w = p := by
                intro u
                rcases z with z | z
                · rw [← u] at z
                  exact hxI z
                · rw [z] at u
                  exact hne u
              refine ⟨?_, by simpa using hpm⟩
              rcases z with z | z
              · exact Or.inl z
              · exact Or.inr (decide_eq_true z.symm))
          have hen2 := qs_e_le g1
          have hO' : qO (ou ||| 2 ^ mt w) (mt w) := by
            unfold qO
            rw [Nat.testBit_or, qb_two]
            simp
          obtain ⟨z, z1, z2, z3, z4, z5⟩ := qs_way hn hm g1 hO'
          have hl : (wy (qa qb)).length + 2 ≤ 14 := by
            have := qs_php 14 _ z3 (by
              intro a ha
              rcases List.mem_append.mp ha with y | y
              · rcases z4 a y with y | y
                · have := (g1.1 a y).1
                  omega
                · have := (g1.2.2.1 a y).1
                  omega
              · rw [List.mem_singleton] at y
                rw [y]
                have := (g1.1 rt g1.2.2.2.1.1).1
                omega)
            rw [← z1, qu_eq, List.length_cons, List.length_cons] at this
            omega
          have h1 := q_adv5 (sp := sp) (bm := bm) (nr := nr) (fr := fr) hp hG hqe (by omega) hq.1 hv14 hwq hw hc1 hc2 hwO2 hm14 (by
            intro z
            rw [z] at g0
            exact g0.1 hq.1) (fun z => g0.2.2.2 z.symm) (h7.2.2.2.2.2.1 _ g0.1).2 hl
          refine ⟨_, mt, _, ?_, hm, ⟨?_, ⟨mt, qu tm (mt w) e, ⟨hn, hm, ?_, ?_, ?_, ?_, g1⟩, fun _ => rfl⟩, ?_⟩, ?_, ?_, ?_, ?_, ?_, h1⟩
          · decide
          · exact Or.inl rfl
          · exact Nat.or_lt_two_pow (n := 14) ho (Nat.pow_lt_pow_right (by decide) hm14)
          · exact qb_dif_le (n := 14) (Nat.or_lt_two_pow (n := 14) hin (Nat.pow_lt_pow_right (by decide) hw))
          · show qb ≤ e + 1
            omega
          · show w + 1 ≤ 14
            omega
          · intro _
            show qb < e + 1
            omega
          · rfl
          · rfl
          · exact Nat.le_refl _
          · exact Nat.le_succ _
          · exact fun _ => hmu
        · obtain ⟨mt', y1, y2⟩ := q_adv4 (sp := sp) (bm := bm) (nr := nr) (fr := fr) hp hG hqe he hq.1 hv14 hwq hw hwn hc1 hc2 hwO2 hm14
          refine ⟨_, mt', _, ?_, y1, ⟨?_, ⟨mt, tm, ?_, ?_⟩, ?_⟩, ?_, ?_, ?_, ?_, ?_, y2⟩
          · decide
          · exact Or.inr (Or.inl rfl)
          · exact hG'
          · exact fun z => absurd rfl z
          · exact fun z => absurd z (show ¬ 2 = 1 by decide)
          · rfl
          · rfl
          · exact Nat.le_refl _
          · exact Nat.le_succ _
          · exact fun z => absurd z (show ¬ 2 = 1 by decide)
  · have h1 := q_adv1 (sp := sp) (bm := bm) (nr := nr) (fr := fr) hp hG hqe he hv14 hw
    have hG' : qg_ok n rt mt ou inn (qb + 1) e 0 qa tm bs lk wy := ⟨hn, hm, ho, hin, by omega, by omega, h7⟩
    refine ⟨_, mt, _, ?_, hm, ⟨?_, ⟨mt, tm, ?_, fun _ => rfl⟩, ?_⟩, ?_, ?_, ?_, ?_, ?_, h1⟩
    · split <;> decide
    · dsimp only
      split
      · exact Or.inl rfl
      · exact Or.inr (Or.inr rfl)
    · exact hG'
    · dsimp only
      intro z
      by_cases y : qb + 1 < e
      · exact y
      · rw [if_neg y] at z
        exact absurd z (by decide)
    · rfl
    · rfl
    · exact Nat.le_refl _
    · exact Nat.le_succ _
    · intro _
      unfold gmu
      dsimp only
      omega
