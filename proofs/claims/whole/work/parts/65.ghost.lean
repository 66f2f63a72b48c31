/-! The search: what a blossom does, by sets of bits. -/
def qO (s p : Nat) : Prop := s.testBit p = true
def qg_ok (n rt : Nat) (mt : Nat → Nat) (ou inn qb e as : Nat) (qa tm bs lk : Nat → Nat) (wy : Nat → List Nat) : Prop :=
  n ≤ 14 ∧ qm_ok n mt ∧ ou < 16384 ∧ inn < 16384 ∧ qb ≤ e ∧ as ≤ 14 ∧ qs_ok n rt mt (qO ou) (qO inn) e qa tm bs lk wy
theorem qs_st_eq (mt : Nat → Nat) (z p : Nat) : ∀ (l : List Nat) (f : Nat → Nat), qs_st mt z l f p = if (∃ c, c ∈ l ∧ mt c = p) then z else f p
  | [], f => by
    rw [if_neg (by simp)]
    rfl
  | c :: l, f => by
    rw [qs_st, qs_st_eq mt z p l]
    by_cases h : ∃ c, c ∈ l ∧ mt c = p
    · rw [if_pos h, if_pos]
      obtain ⟨a, a1, a2⟩ := h
      exact ⟨a, List.mem_cons_of_mem _ a1, a2⟩
    · rw [if_neg h]
      by_cases e : p = mt c
      · rw [e, qu_eq, if_pos ⟨c, List.mem_cons_self, rfl⟩]
      · rw [qu_ne _ _ e, if_neg]
        rintro ⟨a, a1, a2⟩
        rcases List.mem_cons.mp a1 with q | q
        · rw [q] at a2
          exact e a2.symm
        · exact h ⟨a, q, a2⟩
theorem qs_fo_pw (g : Nat → Nat) (p : Nat) (l : List Nat) : (qs_fo (fun c => 2 ^ g c) l 0).testBit p = true ↔ ∃ c, c ∈ l ∧ g c = p := by
  rw [qs_fo_bit, Nat.zero_testBit, Bool.false_or, List.any_eq_true]
  constructor
  · rintro ⟨c, c1, c2⟩
    rw [qb_two] at c2
    exact ⟨c, c1, by simpa using c2⟩
  · rintro ⟨c, c1, c2⟩
    exact ⟨c, c1, by rw [qb_two]; simpa using c2⟩
theorem qb_of_self {s : Nat} (h : s < 16384) : qb_of s.testBit 14 = s := by
  apply Nat.eq_of_testBit_eq
  intro i
  rw [qb_of_bit]
  by_cases hi : i < 14
  · simp [hi]
  · rw [Nat.testBit_lt_two_pow (show s < 2 ^ i from Nat.lt_of_lt_of_le h (show 2 ^ 14 ≤ 2 ^ i from Nat.pow_le_pow_right (by decide) (by omega)))]
    simp
theorem qb_bit_lt {s i n : Nat} (h : s < 2 ^ n) (hb : s.testBit i = true) : i < n := by
  by_cases hi : i < n
  · exact hi
  · rw [Nat.testBit_lt_two_pow (Nat.lt_of_lt_of_le h (Nat.pow_le_pow_right (by decide) (by omega)))] at hb
    exact absurd hb (by decide)
theorem fb_ct_gap {s : Nat → Bool} {i : Nat} : ∀ {n : Nat}, i < fb_ct s n → ∃ p, p < n ∧ s p = true ∧ fb_ct s p = i := by
  intro n h
  exact fb_ct_kth h
section QS
variable {n rt qb e as ou inn : Nat} {mt qa tm bs lk : Nat → Nat} {wy : Nat → List Nat}
theorem qg_cl (h : qg_ok n rt mt ou inn qb e as qa tm bs lk wy) : qs_cl rt mt bs lk tm (fun b => qO ou b ∧ bs b = b) := by
  obtain ⟨h1, h2, h3, h4, h5, h6, h7⟩ := h
  have he := qs_e_le h7
  have hup := qs_climb h1 h2 h7
  obtain ⟨a1, a2, a3, a4, a5, a6, a7, a8, a9⟩ := h7
  refine ⟨⟨a4.1, a4.2.1⟩, a4.2.2, ?_, ?_⟩
  · intro b hb
    have := a1 b hb.1
    omega
  · intro b hb hr
    obtain ⟨b1, b2, b3⟩ := a5 b hb.1 hr
    have b4 := a3 _ (b2 hb.2)
    have b5 := a1 _ b4.2.2.2.2.1
    exact ⟨by omega, by omega, hup b hb hr⟩
theorem qg_bs (h : qg_ok n rt mt ou inn qb e as qa tm bs lk wy) {p : Nat} (hp : p < 14) : bs p < 14 := by
  obtain ⟨h1, h2, h3, h4, h5, h6, a1, a2, a3, a4, a5, a6, a7, a8, a9⟩ := h
  by_cases q : qO ou p
  · have := a1 _ (a1 p q).2.2.2.2.1
    omega
  · rw [(a6 p q).1]
    exact hp
/-- the rows, the meeting, the fresh ones -/
theorem qg_meet (h : qg_ok n rt mt ou inn qb e as qa tm bs lk wy) {v w : Nat} (hv : qO ou v) (hw : qO ou w) {tp : Nat}
    (htp : tp = qs_top (qs_up mt bs lk) (qs_fo (fun c => 2 ^ c) (qs_row (qs_up mt bs lk) rt 14 (bs w)) 0).testBit 14 (bs v)) :
    tp ∈ qs_row (qs_up mt bs lk) rt 14 (bs v) ∧ tp ∈ qs_row (qs_up mt bs lk) rt 14 (bs w) ∧ tp < n ∧ (∀ c, c ∈ qs_bel (qs_up mt bs lk) tp 14 (bs v) → c ∈ qs_bel (qs_up mt bs lk) tp 14 (bs w) → False) := by
  have hcl := qg_cl h
  obtain ⟨h1, h2, h3, h4, h5, h6, h7⟩ := h
  have he := qs_e_le h7
  have hup := qs_climb h1 h2 h7
  obtain ⟨a1, a2, a3, a4, a5, a6, a7, a8, a9⟩ := h7
  have bv := a1 v hv
  have bw := a1 w hw
  have bv2 := a1 _ bv.2.2.2.2.1
  have bw2 := a1 _ bw.2.2.2.2.1
  have Bv : qO ou (bs v) ∧ bs (bs v) = bs v := ⟨bv.2.2.2.2.1, bv.2.2.2.2.2.1⟩
  have Bw : qO ou (bs w) ∧ bs (bs w) = bs w := ⟨bw.2.2.2.2.1, bw.2.2.2.2.2.1⟩
  have rw1 := qs_row_mem hup 14 (bs w) Bw (by omega)
  have hbit : ∀ p, (qs_fo (fun c => 2 ^ c) (qs_row (qs_up mt bs lk) rt 14 (bs w)) 0).testBit p = true ↔ p ∈ qs_row (qs_up mt bs lk) rt 14 (bs w) := by
    intro p
    rw [qs_fo_pw (fun c => c)]
    constructor
    · rintro ⟨c, c1, c2⟩
      rw [← c2]
      exact c1
    · intro hp
      exact ⟨p, hp, rfl⟩
  obtain ⟨t1, t2, t3⟩ := qs_top_mem hup (W := (qs_fo (fun c => 2 ^ c) (qs_row (qs_up mt bs lk) rt 14 (bs w)) 0).testBit) ((hbit rt).mpr rw1.1) 14 (bs v) Bv (by omega)
  rw [← htp] at t1 t2 t3
  have t4 := (hbit tp).mp t1
  refine ⟨t2, t4, (a1 tp (rw1.2.2 tp t4).1.1).1, ?_⟩
  intro c c1 c2
  have q1 := t3 c c1
  have q2 := (qs_bel_mem hup tp 14 (bs w) Bw (by omega) t4 c c2).1
  rw [(hbit c).mpr q2] at q1
  exact absurd q1 (by decide)
/-- a blossom -/
theorem qg_shrink (h : qg_ok n rt mt ou inn qb e as qa tm bs lk wy) {v w : Nat} (hv : qO ou v) (hw : qO ou w) {tp ma me : Nat} {nr fr : Nat → Nat}
    (htp : tp = qs_top (qs_up mt bs lk) (qs_fo (fun c => 2 ^ c) (qs_row (qs_up mt bs lk) rt 14 (bs w)) 0).testBit 14 (bs v))
    (hma : ma = qs_fo (fun c => 2 ^ mt c) (qs_bel (qs_up mt bs lk) tp 14 (bs v)) 0 ||| qs_fo (fun c => 2 ^ mt c) (qs_bel (qs_up mt bs lk) tp 14 (bs w)) 0)
    (hme : ∀ p, p < 14 → (me.testBit p = true ↔ ma.testBit p = true ∨ bs p = tp ∨ bs p ∈ qs_bel (qs_up mt bs lk) tp 14 (bs v) ∨ bs p ∈ qs_bel (qs_up mt bs lk) tp 14 (bs w))) :
    ma < 2 ^ n ∧ qs_H ma.testBit wy (qs_st mt w (qs_bel (qs_up mt bs lk) tp 14 (bs w)) (qs_st mt v (qs_bel (qs_up mt bs lk) tp 14 (bs v)) nr)) (qs_st mt v (qs_bel (qs_up mt bs lk) tp 14 (bs w)) (qs_st mt w (qs_bel (qs_up mt bs lk) tp 14 (bs v)) fr)) ∧
    e + fb_ct ma.testBit 14 ≤ 14 ∧
    ∃ tm', qg_ok n rt mt (ou ||| qb_of ma.testBit 14) (qb_dif inn (qb_of ma.testBit 14)) qb (e + fb_ct ma.testBit 14) as (qs_en ma.testBit e qa 14) tm' (qs_bn me.testBit bs tp 14) lk
      (qs_wn ma.testBit wy (qs_st mt w (qs_bel (qs_up mt bs lk) tp 14 (bs w)) (qs_st mt v (qs_bel (qs_up mt bs lk) tp 14 (bs v)) nr)) (qs_st mt v (qs_bel (qs_up mt bs lk) tp 14 (bs w)) (qs_st mt w (qs_bel (qs_up mt bs lk) tp 14 (bs v)) fr)) 14) := by
  obtain ⟨m1, m2, m3, m4⟩ := qg_meet h hv hw htp
  obtain ⟨h1, h2, h3, h4, h5, h6, h7⟩ := h
  have he := qs_e_le h7
  have hup := qs_climb h1 h2 h7
  have h70 := h7
  obtain ⟨a1, a2, a3, a4, a5, a6, a7, a8, a9⟩ := h7
  have bv := a1 v hv
  have bw := a1 w hw
  have bv2 := a1 _ bv.2.2.2.2.1
  have bw2 := a1 _ bw.2.2.2.2.1
  have Bv : qO ou (bs v) ∧ bs (bs v) = bs v := ⟨bv.2.2.2.2.1, bv.2.2.2.2.2.1⟩
  have Bw : qO ou (bs w) ∧ bs (bs w) = bs w := ⟨bw.2.2.2.2.1, bw.2.2.2.2.2.1⟩
  have htB := ((qs_row_mem hup 14 (bs v) Bv (by omega)).2.2 tp m1).1
  generalize hB1 : qs_bel (qs_up mt bs lk) tp 14 (bs v) = B1 at hma hme m4 ⊢
  generalize hB2 : qs_bel (qs_up mt bs lk) tp 14 (bs w) = B2 at hma hme m4 ⊢
  have hbel : ∀ c, (c ∈ B1 ∨ c ∈ B2) → qO ou c ∧ bs c = c ∧ c ≠ rt ∧ mt c < n ∧ qO inn (mt c) ∧ mt (mt c) = c := by
    intro c hc
    have q : (qO ou c ∧ bs c = c) ∧ c ≠ rt := by
      rcases hc with hc | hc
      · rw [← hB1] at hc
        have := qs_bel_mem hup tp 14 (bs v) Bv (by omega) m1 c hc
        exact ⟨this.2.1, this.2.2.1⟩
      · rw [← hB2] at hc
        have := qs_bel_mem hup tp 14 (bs w) Bw (by omega) m2 c hc
        exact ⟨this.2.1, this.2.2.1⟩
    have r := a5 c q.1.1 q.2
    have r2 := a1 c q.1.1
    exact ⟨q.1.1, q.1.2, q.2, r.1, r.2.1 q.1.2, (h2 c (by omega) (by omega)).2.2.2⟩
  have hbit : ∀ p, ma.testBit p = true ↔ (∃ c, c ∈ B1 ∧ mt c = p) ∨ (∃ c, c ∈ B2 ∧ mt c = p) := by
    intro p
    rw [hma, Nat.testBit_or, Bool.or_eq_true, qs_fo_pw, qs_fo_pw]
  have hex : ∀ p, (∃ c, c ∈ B1 ∧ mt c = p) → (∃ c, c ∈ B2 ∧ mt c = p) → False := by
    rintro p ⟨c, c1, c2⟩ ⟨c', c3, c4⟩
    have q1 := (hbel c (Or.inl c1)).2.2.2.2.2
    have q2 := (hbel c' (Or.inr c3)).2.2.2.2.2
    rw [c2] at q1
    rw [c4] at q2
    rw [q1] at q2
    rw [← q2] at c3
    exact m4 c c1 c3
  have hman : ∀ p, ma.testBit p = true → p < n ∧ qO inn p := by
    intro p hp
    rcases (hbit p).mp hp with ⟨c, c1, c2⟩ | ⟨c, c1, c2⟩
    · have := hbel c (Or.inl c1)
      rw [← c2]
      exact ⟨this.2.2.2.1, this.2.2.2.2.1⟩
    · have := hbel c (Or.inr c1)
      rw [← c2]
      exact ⟨this.2.2.2.1, this.2.2.2.2.1⟩
  have hmalt : ma < 2 ^ n := Nat.lt_pow_two_of_testBit ma (fun i hi => by
    by_cases q : ma.testBit i = true
    · have := (hman i q).1
      omega
    · simpa using q)
  have h14 : 2 ^ n ≤ 2 ^ 14 := Nat.pow_le_pow_right (by decide) h1
  have hself : qb_of ma.testBit 14 = ma := qb_of_self (by omega)
  have hmaO : ∀ p, ma.testBit p = true → ¬ qO ou p := fun p hp q => (a1 p q).2.1 (hman p hp).2
  have hnO : ∀ p, qO ou p → ma.testBit p = false := fun p hp => by
    cases hb : ma.testBit p with
    | false => rfl
    | true => exact absurd hp (hmaO p hb)
  have hnr1 : ∀ p, (∃ c, c ∈ B1 ∧ mt c = p) → qs_st mt w B2 (qs_st mt v B1 nr) p = v ∧ qs_st mt v B2 (qs_st mt w B1 fr) p = w := by
    intro p hp
    rw [qs_st_eq, qs_st_eq, qs_st_eq, qs_st_eq, if_neg (hex p hp), if_neg (hex p hp), if_pos hp, if_pos hp]
    exact ⟨rfl, rfl⟩
  have hnr2 : ∀ p, (∃ c, c ∈ B2 ∧ mt c = p) → qs_st mt w B2 (qs_st mt v B1 nr) p = w ∧ qs_st mt v B2 (qs_st mt w B1 fr) p = v := by
    intro p hp
    rw [qs_st_eq, if_pos hp, qs_st_eq, if_pos hp]
    exact ⟨rfl, rfl⟩
  have hnew : qs_ok n rt mt (qO (ou ||| qb_of ma.testBit 14)) (qO (qb_dif inn (qb_of ma.testBit 14))) (e + fb_ct ma.testBit 14) (qs_en ma.testBit e qa 14) (fun p => if ma.testBit p = true then e + fb_ct ma.testBit p else tm p) (qs_bn me.testBit bs tp 14) lk
      (qs_wn ma.testBit wy (qs_st mt w B2 (qs_st mt v B1 nr)) (qs_st mt v B2 (qs_st mt w B1 fr)) 14) := by
    refine qs_shrink h1 h2 h70 hv hw m1 m2 (by rw [hB1, hB2]; exact m4) (F1 := fun p => ∃ c, c ∈ B1 ∧ mt c = p) (F2 := fun p => ∃ c, c ∈ B2 ∧ mt c = p) (by rw [hB1]; exact fun p => Iff.rfl) (by rw [hB2]; exact fun p => Iff.rfl) ?_ ?_ (by omega) ?_ ?_ ?_ ?_ ?_ ?_ ?_ ?_ ?_
    · intro p
      rw [hself]
      unfold qO
      rw [Nat.testBit_or, Bool.or_eq_true, hbit]
    · intro p
      rw [hself]
      unfold qO
      rw [qb_dif_bit, Bool.and_eq_true, Bool.not_eq_true', ← Bool.not_eq_true, hbit, not_or]
    · intro p hp
      rw [if_neg (by rw [hnO p hp]; decide)]
    · intro i hi
      exact qs_en_old _ _ _ hi 14
    · intro p hp
      have hp := (hbit p).mpr hp
      have hp14 : p < 14 := by have := (hman p hp).1; omega
      rw [if_pos hp]
      refine ⟨by omega, ?_, qs_en_new _ _ _ hp 14 hp14⟩
      have := fb_ct_mono ma.testBit (show p + 1 ≤ 14 by omega)
      rw [fb_ct_succ, if_pos hp] at this
      omega
    · intro i hi1 hi2
      obtain ⟨p, p1, p2, p3⟩ := fb_ct_kth (show i - e < fb_ct ma.testBit 14 by omega)
      have hq := qs_en_new ma.testBit e qa p2 14 p1
      rw [p3, show e + (i - e) = i by omega] at hq
      rw [hq, if_pos p2, p3]
      exact ⟨(hbit p).mp p2, by omega⟩
    · rw [hB1, hB2]
      intro p hp
      by_cases hp14 : p < 14
      · unfold qs_bn
        rw [if_pos]
        refine ⟨hp14, (hme p hp14).mpr ?_⟩
        rcases hp with q | q | q | q
        · exact Or.inl ((hbit p).mpr (Or.inl q))
        · exact Or.inl ((hbit p).mpr (Or.inr q))
        · exact Or.inr (Or.inr (Or.inl q))
        · exact Or.inr (Or.inr (Or.inr q))
      · exfalso
        have hpO : ¬ qO ou p := fun q => by have := a1 p q; omega
        rcases hp with q | q | q | q
        · have := (hman p ((hbit p).mpr (Or.inl q))).1
          omega
        · have := (hman p ((hbit p).mpr (Or.inr q))).1
          omega
        · rw [(a6 p hpO).1] at q
          exact hpO (hbel p (Or.inl q)).1
        · rw [(a6 p hpO).1] at q
          exact hpO (hbel p (Or.inr q)).1
    · rw [hB1, hB2]
      intro p hp
      unfold qs_bn
      by_cases q : p < 14 ∧ me.testBit p = true
      · rw [if_pos q]
        rcases (hme p q.1).mp q.2 with r | r | r | r
        · rcases (hbit p).mp r with s | s
          · exact absurd (Or.inl s) hp
          · exact absurd (Or.inr (Or.inl s)) hp
        · exact r.symm
        · exact absurd (Or.inr (Or.inr (Or.inl r))) hp
        · exact absurd (Or.inr (Or.inr (Or.inr r))) hp
      · rw [if_neg q]
    · intro p hp
      have hp2 := (hbit p).mpr (Or.inl hp)
      unfold qs_wn
      rw [if_pos ⟨by have := (hman p hp2).1; omega, hp2⟩, (hnr1 p hp).1, (hnr1 p hp).2]
    · intro p hp
      have hp2 := (hbit p).mpr (Or.inr hp)
      unfold qs_wn
      rw [if_pos ⟨by have := (hman p hp2).1; omega, hp2⟩, (hnr2 p hp).1, (hnr2 p hp).2]
    · intro p hp1 hp2
      unfold qs_wn
      rw [if_neg]
      intro q
      rcases (hbit p).mp q.2 with r | r
      · exact hp1 r
      · exact hp2 r
  have hen := qs_e_le hnew
  refine ⟨hmalt, ?_, by omega, _, h1, h2, ?_, ?_, by omega, h6, hnew⟩
  · intro p hp
    have hpn := hman p hp
    have hpO : ¬ qO ou p := hmaO p hp
    have hp' : qO (ou ||| qb_of ma.testBit 14) p := by
      unfold qO
      rw [hself, Nat.testBit_or, hp, Bool.or_true]
    have hway : ∀ z, qO ou z → ∀ a, a ∈ wy z → a < 14 := by
      intro z hz a ha
      obtain ⟨s, s1, s2, s3, s4, s5⟩ := qs_way h1 h2 h70 hz
      rw [s1] at ha
      rcases List.mem_append.mp ha with q | q
      · rcases s4 a q with r | r
        · have := a1 a r
          omega
        · have := a3 a r
          omega
      · rw [List.mem_singleton] at q
        rw [q]
        have := a1 rt a4.1
        omega
    have hlen : (qs_wn ma.testBit wy (qs_st mt w B2 (qs_st mt v B1 nr)) (qs_st mt v B2 (qs_st mt w B1 fr)) 14 p).length ≤ 14 := by
      obtain ⟨s, s1, s2, s3, s4, s5⟩ := qs_way h1 h2 hnew hp'
      have := qs_php 14 _ s3 (by
        intro a ha
        rcases List.mem_append.mp ha with q | q
        · rcases s4 a q with r | r
          · have := hnew.1 a r
            omega
          · have := hnew.2.2.1 a r
            omega
        · rw [List.mem_singleton] at q
          rw [q]
          have := a1 rt a4.1
          omega)
      rw [s1]
      exact this
    have hun : qs_wn ma.testBit wy (qs_st mt w B2 (qs_st mt v B1 nr)) (qs_st mt v B2 (qs_st mt w B1 fr)) 14 p = qs_back p (wy (qs_st mt w B2 (qs_st mt v B1 nr) p)) ++ wy (qs_st mt v B2 (qs_st mt w B1 fr) p) := if_pos ⟨by omega, hp⟩
    rw [hun] at hlen
    refine ⟨(a6 p hpO).2, ?_⟩
    rcases (hbit p).mp hp with q | q
    · rw [(hnr1 p q).1, (hnr1 p q).2] at hlen ⊢
      obtain ⟨c, c1, c2⟩ := q
      rw [← hB1] at c1
      obtain ⟨l, l1, l2, l3, l4, l5, r1, r2, r3, r4, r5, r6⟩ := qs_fresh (P := fun _ => True) h1 h2 h70 hv hw (by omega) (by omega) m1 m2 htB.2 (by rw [hB1, hB2]; exact m4) c1 (fun _ _ => trivial) (fun _ _ _ => trivial)
      rw [c2] at r3 r4 r5
      rw [r3, qs_back_eq r4, List.length_append, List.length_cons, List.length_reverse] at hlen
      exact ⟨by omega, by omega, hnO v hv, hnO w hw, hway v hv, r1, r2, r3, r4, r5, by omega⟩
    · rw [(hnr2 p q).1, (hnr2 p q).2] at hlen ⊢
      obtain ⟨c, c1, c2⟩ := q
      rw [← hB2] at c1
      obtain ⟨l, l1, l2, l3, l4, l5, r1, r2, r3, r4, r5, r6⟩ := qs_fresh (P := fun _ => True) h1 h2 h70 hw hv (by omega) (by omega) m2 m1 htB.2 (by rw [hB1, hB2]; exact fun c q1 q2 => m4 c q2 q1) c1 (fun _ _ => trivial) (fun _ _ _ => trivial)
      rw [c2] at r3 r4 r5
      rw [r3, qs_back_eq r4, List.length_append, List.length_cons, List.length_reverse] at hlen
      exact ⟨by omega, by omega, hnO w hw, hnO v hv, hway w hw, r1, r2, r3, r4, r5, by omega⟩
  · rw [hself]
    exact Nat.or_lt_two_pow (n := 14) h3 (by omega)
  · exact qb_dif_le (n := 14) h4
end QS
