/-! The search, as mathematics: a blossom is shrunken. -/
section QS
variable {n rt e : Nat} {mt qa tm bs lk : Nat → Nat} {O I : Nat → Prop} {wy : Nat → List Nat}
theorem qs_e_le (h : qs_ok n rt mt O I e qa tm bs lk wy) : e ≤ n := by
  obtain ⟨h1, h2, h3, h4, h5, h6, h7, h8, h9⟩ := h
  have := qs_php n ((List.range e).map qa) (by
    unfold List.Nodup
    rw [List.pairwise_map]
    refine List.Pairwise.imp_of_mem ?_ List.pairwise_lt_range
    intro a b ha hb hab he
    have q := (h2 a (List.mem_range.mp ha)).2
    rw [he, (h2 b (List.mem_range.mp hb)).2] at q
    omega) (by
    intro a ha
    obtain ⟨i, i1, i2⟩ := List.mem_map.mp ha
    rw [← i2]
    exact (h1 _ (h2 i (List.mem_range.mp i1)).1).1)
  simpa using this
theorem qs_way (hn : n ≤ 14) (hm : qm_ok n mt) (h : qs_ok n rt mt O I e qa tm bs lk wy) {p : Nat} (hp : O p) :
    ∃ s, wy p = s ++ [rt] ∧ qs_ev O mt s ∧ (s ++ [rt]).Nodup ∧ (∀ a, a ∈ s → O a ∨ I a) ∧ (s ++ [rt]).head? = some p := by
  have hup := qs_climb hn hm h
  have he := qs_e_le h
  have h0 := h
  obtain ⟨h1, h2, h3, h4, h5, h6, h7, h8, h9⟩ := h
  obtain ⟨b1, b2, b3, b4, b5, b6, b7⟩ := h1 p hp
  have hr := qs_row_mem hup 14 (bs p) ⟨b5, b6⟩ (by omega)
  obtain ⟨s, l, i1, i2, i3, i4, i5, i6, i7, i8⟩ := qs_seg hn hm h0 rt 14 p hp (by omega) hr.1
  have hb := qs_bel_mem hup rt 14 (bs p) ⟨b5, b6⟩ (by omega) hr.1
  refine ⟨s ++ l, ?_, qs_ev_app i3 s i2, ?_, ?_, i8⟩
  · rw [i1, h7, List.append_assoc]
  · rw [List.nodup_append]
    refine ⟨i4, by simp, ?_⟩
    intro a ha b hb2 he2
    rw [List.mem_singleton] at hb2
    rw [hb2] at he2
    rcases List.mem_append.mp ha with q | q
    · rcases i5 a q with r | r
      · rw [he2, h4.2.1] at r
        exact (hb _ r.2).2.2.1 rfl
      · rw [he2] at r
        exact (h1 rt h4.1).2.1 r.1
    · exact (i6 a q).2.2 he2
  · intro a ha
    rcases List.mem_append.mp ha with q | q
    · rcases i5 a q with r | r
      · exact Or.inl r.1
      · exact Or.inr r.1
    · exact Or.inl (i6 a q).1
/-- the way of one that a bridge makes outer -/
theorem qs_fresh (hn : n ≤ 14) (hm : qm_ok n mt) (h : qs_ok n rt mt O I e qa tm bs lk wy) {v w t : Nat} (hv : O v) (hw : O w) (hk1 : tm (bs v) < 14) (hk2 : tm (bs w) < 14)
    (ht1 : t ∈ qs_row (qs_up mt bs lk) rt 14 (bs v)) (ht2 : t ∈ qs_row (qs_up mt bs lk) rt 14 (bs w)) (htt : bs t = t)
    (hd : ∀ c, c ∈ qs_bel (qs_up mt bs lk) t 14 (bs v) → c ∈ qs_bel (qs_up mt bs lk) t 14 (bs w) → False)
    {c : Nat} (hc : c ∈ qs_bel (qs_up mt bs lk) t 14 (bs v)) {P : Nat → Prop} (hP : ∀ a, O a → P a) (hP2 : ∀ a, I a → mt a ∈ qs_bel (qs_up mt bs lk) t 14 (bs v) → P a) :
    ∃ l, qs_back (mt c) (wy v) ++ wy w = l ++ wy t ∧ qs_ev P mt l ∧ l.Nodup ∧ (∀ a, a ∈ l → a ≠ t ∧ ((O a ∧ (bs a = t ∨ bs a ∈ qs_bel (qs_up mt bs lk) t 14 (bs v) ∨ bs a ∈ qs_bel (qs_up mt bs lk) t 14 (bs w))) ∨ (I a ∧ (mt a ∈ qs_bel (qs_up mt bs lk) t 14 (bs v) ∨ mt a ∈ qs_bel (qs_up mt bs lk) t 14 (bs w))))) ∧ (l ++ [t]).head? = some (mt c) ∧
      (∃ l1 l2, wy v = l1 ++ mt c :: l2 ∧ (∀ a, a ∈ l1 → a ≠ mt c) ∧ mt c ∉ l2 ∧ mt c ∉ wy w) := by
  have hup := qs_climb hn hm h
  have hwn : (wy v).Nodup := by
    obtain ⟨s, r1, r2, r3, r4⟩ := qs_way hn hm h hv
    rw [r1]
    exact r3
  obtain ⟨s, l, i1, i2, i3, i4, i5, i6, i7, i8⟩ := qs_seg hn hm h t 14 v hv hk1 ht1
  obtain ⟨s', l', j1, j2, j3, j4, j5, j6, j7, j8⟩ := qs_seg hn hm h t 14 w hw hk2 ht2
  obtain ⟨h1, h2, h3, h4, h5, h6, h7, h8, h9⟩ := h
  have hbv := h1 v hv
  have hbw := h1 w hw
  have htB : O t := ((qs_row_mem hup 14 (bs v) ⟨hbv.2.2.2.2.1, hbv.2.2.2.2.2.1⟩ hk1).2.2 t ht1).1.1
  obtain ⟨c1, c2, c3, c4, c5⟩ := qs_bel_mem hup t 14 (bs v) ⟨hbv.2.2.2.2.1, hbv.2.2.2.2.2.1⟩ hk1 ht1 c hc
  have htn1 : t ∉ qs_bel (qs_up mt bs lk) t 14 (bs v) := fun q => by
    have := qs_bel_mem hup t 14 (bs v) ⟨hbv.2.2.2.2.1, hbv.2.2.2.2.2.1⟩ hk1 ht1 t q
    omega
  have htn2 : t ∉ qs_bel (qs_up mt bs lk) t 14 (bs w) := fun q => by
    have := qs_bel_mem hup t 14 (bs w) ⟨hbw.2.2.2.2.1, hbw.2.2.2.2.2.1⟩ hk2 ht2 t q
    omega
  have hIc : I (mt c) := (h5 c c2.1 c3).2.1 c2.2
  have hmc := i7 c hc
  have hmO : ¬ O (mt c) := fun q => (h1 _ q).2.1 hIc
  have hs14 : ∀ a, a ∈ s → P a ∧ a < 14 := by
    intro a ha
    rcases i5 a ha with q | q
    · exact ⟨hP a q.1, by have := h1 a q.1; omega⟩
    · exact ⟨hP2 a q.1 q.2, by have := h3 a q.1; omega⟩
  have hsl : s.Nodup ∧ l.Nodup ∧ ∀ a, a ∈ s → ∀ b, b ∈ l → a ≠ b := List.nodup_append.mp i4
  obtain ⟨l1, k1, k2, k3⟩ := qs_ev_pre (P := P) (fun a ha hb => (hm a (by have := h1 a ha; omega) hb).2.2.2) s i2 hs14 (mt c) hmO hmc hsl.1
  have hl1 : ∀ a, a ∈ l1 → a ≠ mt c := by
    intro a ha
    have q : (l1 ++ mt c :: s.drop (l1.length + 1)).Nodup := k1 ▸ hsl.1
    exact (List.nodup_append.mp q).2.2 a ha _ List.mem_cons_self
  have hback : qs_back (mt c) (wy v) = mt c :: l1.reverse := by
    unfold qs_back
    rw [i1, List.takeWhile_append, k2, if_neg]
    intro q
    have := congrArg List.length k1
    rw [List.length_append, List.length_cons] at this
    omega
  have hsub : ∀ a, a ∈ mt c :: l1.reverse → a ∈ s := by
    intro a ha
    rw [k1]
    rcases List.mem_cons.mp ha with q | q
    · rw [q]
      exact List.mem_append_right _ List.mem_cons_self
    · exact List.mem_append_left _ (List.mem_reverse.mp q)
  have hdis : ∀ a, a ∈ s → a ∉ s' ++ (l' ++ [t]) := by
    intro a ha hb
    rcases List.mem_append.mp hb with hb | hb
    · rcases i5 a ha with q | q
      · rcases j5 a hb with r | r
        · exact hd _ q.2 r.2
        · exact (h1 a q.1).2.1 r.1
      · rcases j5 a hb with r | r
        · exact (h1 a r.1).2.1 q.1
        · exact hd _ q.2 r.2
    · have hat : O a ∧ bs a = t := by
        rcases List.mem_append.mp hb with hb | hb
        · exact ⟨(j6 a hb).1, (j6 a hb).2.1⟩
        · rw [List.mem_singleton] at hb
          rw [hb]
          exact ⟨htB, htt⟩
      rcases i5 a ha with q | q
      · rw [hat.2] at q
        exact htn1 q.2
      · exact (h1 a hat.1).2.1 q.1
  have hnd : (l1 ++ mt c :: s.drop (l1.length + 1)).Nodup := k1 ▸ hsl.1
  obtain ⟨n1, n2, n3⟩ := List.nodup_append.mp hnd
  have hwv : wy v = l1 ++ mt c :: (s.drop (l1.length + 1) ++ (l ++ wy t)) := by
    rw [i1]
    conv => lhs; rw [k1]
    simp only [List.append_assoc, List.cons_append]
  have hwn2 := hwn
  rw [hwv] at hwn2
  refine ⟨(mt c :: l1.reverse) ++ (s' ++ l'), ?_, ?_, ?_, ?_, ?_, ?_⟩
  · rw [hback, j1]
    simp only [List.append_assoc]
  · exact qs_ev_app (qs_ev_app (qs_ev_mono hP _ j3) _ (qs_ev_mono hP _ j2)) _ k3
  · rw [List.nodup_append]
    refine ⟨?_, j4, ?_⟩
    · rw [List.nodup_cons]
      refine ⟨fun q => hl1 _ (List.mem_reverse.mp q) rfl, ?_⟩
      exact List.pairwise_reverse.mpr (n1.imp (fun q => Ne.symm q))
    · intro a ha b hb he
      refine hdis a (hsub a ha) ?_
      rw [he]
      rcases List.mem_append.mp hb with q | q
      · exact List.mem_append_left _ q
      · exact List.mem_append_right _ (List.mem_append_left _ q)
  · intro a ha
    rcases List.mem_append.mp ha with q | q
    · have q := hsub a q
      refine ⟨fun e => hdis a q (by rw [e]; exact List.mem_append_right _ (List.mem_append_right _ List.mem_cons_self)), ?_⟩
      rcases i5 a q with r | r
      · exact Or.inl ⟨r.1, Or.inr (Or.inl r.2)⟩
      · exact Or.inr ⟨r.1, Or.inl r.2⟩
    · rcases List.mem_append.mp q with q | q
      · rcases j5 a q with r | r
        · refine ⟨fun e => ?_, Or.inl ⟨r.1, Or.inr (Or.inr r.2)⟩⟩
          rw [e, htt] at r
          exact htn2 r.2
        · refine ⟨fun e => ?_, Or.inr ⟨r.1, Or.inr r.2⟩⟩
          rw [e] at r
          exact (h1 t htB).2.1 r.1
      · have r := j6 a q
        exact ⟨r.2.2, Or.inl ⟨r.1, Or.inl r.2.1⟩⟩
  · rfl
  · refine ⟨l1, s.drop (l1.length + 1) ++ (l ++ wy t), ?_, hl1, ?_, ?_⟩
    · exact hwv
    · exact (List.nodup_cons.mp (List.nodup_append.mp hwn2).2.1).1
    · rw [j1]
      intro q
      rcases List.mem_append.mp q with q | q
      · exact hdis _ hmc (List.mem_append_left _ q)
      · rcases List.mem_append.mp q with q | q
        · exact hdis _ hmc (List.mem_append_right _ (List.mem_append_left _ q))
        · rw [i1, List.nodup_append] at hwn
          exact hwn.2.2 _ hmc _ (List.mem_append_right _ q) rfl
theorem qs_shrink (hn : n ≤ 14) (hm : qm_ok n mt) (h : qs_ok n rt mt O I e qa tm bs lk wy) {v w t : Nat} (hv : O v) (hw : O w)
    (ht1 : t ∈ qs_row (qs_up mt bs lk) rt 14 (bs v)) (ht2 : t ∈ qs_row (qs_up mt bs lk) rt 14 (bs w))
    (hd : ∀ c, c ∈ qs_bel (qs_up mt bs lk) t 14 (bs v) → c ∈ qs_bel (qs_up mt bs lk) t 14 (bs w) → False)
    {O' I' F1 F2 : Nat → Prop} {e' : Nat} {qa' tm' bs' : Nat → Nat} {wy' : Nat → List Nat}
    (hF1 : ∀ p, F1 p ↔ ∃ c, c ∈ qs_bel (qs_up mt bs lk) t 14 (bs v) ∧ mt c = p) (hF2 : ∀ p, F2 p ↔ ∃ c, c ∈ qs_bel (qs_up mt bs lk) t 14 (bs w) ∧ mt c = p)
    (hO : ∀ p, O' p ↔ O p ∨ F1 p ∨ F2 p) (hI : ∀ p, I' p ↔ I p ∧ ¬ F1 p ∧ ¬ F2 p)
    (hee : e ≤ e') (htm : ∀ p, O p → tm' p = tm p) (hqa : ∀ i, i < e → qa' i = qa i)
    (hfr : ∀ p, (F1 p ∨ F2 p) → e ≤ tm' p ∧ tm' p < e' ∧ qa' (tm' p) = p) (hfr2 : ∀ i, e ≤ i → i < e' → (F1 (qa' i) ∨ F2 (qa' i)) ∧ tm' (qa' i) = i)
    (hb1 : ∀ p, (F1 p ∨ F2 p ∨ bs p ∈ qs_bel (qs_up mt bs lk) t 14 (bs v) ∨ bs p ∈ qs_bel (qs_up mt bs lk) t 14 (bs w)) → bs' p = t)
    (hb2 : ∀ p, ¬ (F1 p ∨ F2 p ∨ bs p ∈ qs_bel (qs_up mt bs lk) t 14 (bs v) ∨ bs p ∈ qs_bel (qs_up mt bs lk) t 14 (bs w)) → bs' p = bs p)
    (hw1 : ∀ p, F1 p → wy' p = qs_back p (wy v) ++ wy w) (hw2 : ∀ p, F2 p → wy' p = qs_back p (wy w) ++ wy v) (hw3 : ∀ p, ¬ F1 p → ¬ F2 p → wy' p = wy p) :
    qs_ok n rt mt O' I' e' qa' tm' bs' lk wy' := by
  have hup := qs_climb hn hm h
  have he := qs_e_le h
  have h0 := h
  obtain ⟨h1, h2, h3, h4, h5, h6, h7, h8, h9⟩ := h
  have hbv := h1 v hv
  have hbw := h1 w hw
  have hbv2 := h1 _ hbv.2.2.2.2.1
  have hbw2 := h1 _ hbw.2.2.2.2.1
  have hBv : O (bs v) ∧ bs (bs v) = bs v := ⟨hbv.2.2.2.2.1, hbv.2.2.2.2.2.1⟩
  have hBw : O (bs w) ∧ bs (bs w) = bs w := ⟨hbw.2.2.2.2.1, hbw.2.2.2.2.2.1⟩
  have htB := ((qs_row_mem hup 14 (bs v) hBv (by omega)).2.2 t ht1).1
  -- those below
  have hbel : ∀ c, (c ∈ qs_bel (qs_up mt bs lk) t 14 (bs v) ∨ c ∈ qs_bel (qs_up mt bs lk) t 14 (bs w)) → O c ∧ bs c = c ∧ c ≠ rt ∧ tm t < tm c ∧ mt c < n ∧ I (mt c) ∧ mt (mt c) = c := by
    intro c hc
    have q : (O c ∧ bs c = c) ∧ c ≠ rt ∧ tm t < tm c := by
      rcases hc with hc | hc
      · have := qs_bel_mem hup t 14 (bs v) hBv (by omega) ht1 c hc
        exact ⟨this.2.1, this.2.2.1, this.2.2.2.1⟩
      · have := qs_bel_mem hup t 14 (bs w) hBw (by omega) ht2 c hc
        exact ⟨this.2.1, this.2.2.1, this.2.2.2.1⟩
    obtain ⟨q1, q2, q3⟩ := q
    have r := h5 c q1.1 q2
    have r2 := h1 c q1.1
    exact ⟨q1.1, q1.2, q2, q3, r.1, r.2.1 q1.2, (hm c (by omega) (by omega)).2.2.2⟩
  have hF : ∀ p, (F1 p ∨ F2 p) → ∃ c, (c ∈ qs_bel (qs_up mt bs lk) t 14 (bs v) ∨ c ∈ qs_bel (qs_up mt bs lk) t 14 (bs w)) ∧ mt c = p := by
    intro p hp
    rcases hp with hp | hp
    · obtain ⟨c, c1, c2⟩ := (hF1 p).mp hp
      exact ⟨c, Or.inl c1, c2⟩
    · obtain ⟨c, c1, c2⟩ := (hF2 p).mp hp
      exact ⟨c, Or.inr c1, c2⟩
  have hFc : ∀ c, (c ∈ qs_bel (qs_up mt bs lk) t 14 (bs v) ∨ c ∈ qs_bel (qs_up mt bs lk) t 14 (bs w)) → F1 (mt c) ∨ F2 (mt c) := by
    intro c hc
    rcases hc with hc | hc
    · exact Or.inl ((hF1 _).mpr ⟨c, hc, rfl⟩)
    · exact Or.inr ((hF2 _).mpr ⟨c, hc, rfl⟩)
  have hFI : ∀ p, (F1 p ∨ F2 p) → I p := by
    intro p hp
    obtain ⟨c, c1, c2⟩ := hF p hp
    rw [← c2]
    exact (hbel c c1).2.2.2.2.2.1
  have hOF : ∀ p, O p → ¬ F1 p ∧ ¬ F2 p := fun p hp => ⟨fun q => (h1 p hp).2.1 (hFI p (Or.inl q)), fun q => (h1 p hp).2.1 (hFI p (Or.inr q))⟩
  have htn : ¬ (t ∈ qs_bel (qs_up mt bs lk) t 14 (bs v) ∨ t ∈ qs_bel (qs_up mt bs lk) t 14 (bs w)) := fun q => by
    have := hbel t q
    omega
  have hbO : ∀ p, O p → (bs p ∈ qs_bel (qs_up mt bs lk) t 14 (bs v) ∨ bs p ∈ qs_bel (qs_up mt bs lk) t 14 (bs w)) → bs' p = t := fun p _ q => hb1 p (Or.inr (Or.inr q))
  have hbN : ∀ p, O p → ¬ (bs p ∈ qs_bel (qs_up mt bs lk) t 14 (bs v) ∨ bs p ∈ qs_bel (qs_up mt bs lk) t 14 (bs w)) → bs' p = bs p := by
    intro p hp q
    refine hb2 p ?_
    rintro (r | r | r)
    · exact (hOF p hp).1 r
    · exact (hOF p hp).2 r
    · exact q r
  have hbF : ∀ p, (F1 p ∨ F2 p) → bs' p = t := by
    intro p hp
    refine hb1 p ?_
    rcases hp with hp | hp
    · exact Or.inl hp
    · exact Or.inr (Or.inl hp)
  have hbs't : bs' t = t := by
    rw [hbN t htB.1 (by rw [htB.2]; exact htn), htB.2]
  have hOO : ∀ p, O p → O' p := fun p hp => (hO p).mpr (Or.inl hp)
  have hwO : ∀ p, O p → wy' p = wy p := fun p hp => hw3 p (hOF p hp).1 (hOF p hp).2
  -- an old base that stays one
  have hstay : ∀ p, O p → bs' p = p → bs p = p ∧ ¬ (bs p ∈ qs_bel (qs_up mt bs lk) t 14 (bs v) ∨ bs p ∈ qs_bel (qs_up mt bs lk) t 14 (bs w)) := by
    intro p hp hb
    by_cases q : bs p ∈ qs_bel (qs_up mt bs lk) t 14 (bs v) ∨ bs p ∈ qs_bel (qs_up mt bs lk) t 14 (bs w)
    · have := hbO p hp q
      rw [hb] at this
      rw [this, htB.2] at q
      exact absurd q htn
    · have := hbN p hp q
      exact ⟨by rw [← this]; exact hb, q⟩
  have hnF : ∀ p, O p → bs p = p → ¬ (bs p ∈ qs_bel (qs_up mt bs lk) t 14 (bs v) ∨ bs p ∈ qs_bel (qs_up mt bs lk) t 14 (bs w)) → mt p < 14 → ¬ (F1 (mt p) ∨ F2 (mt p)) := by
    intro p hp hb q hl r
    obtain ⟨c, c1, c2⟩ := hF _ r
    have hc := hbel c c1
    have e1 := hc.2.2.2.2.2.2
    have r2 := h1 p hp
    have e2 := (hm p (by omega) hl).2.2.2
    rw [← c2, e1] at e2
    rw [hb, ← e2] at q
    exact q c1
  refine ⟨?_, ?_, ?_, ?_, ?_, ?_, ?_, ?_, ?_⟩
  · intro p hp
    by_cases hpO : O p
    · obtain ⟨a1, a2, a3, a4, a5, a6, a7⟩ := h1 p hpO
      refine ⟨a1, fun q => a2 ((hI p).mp q).1, by rw [htm p hpO]; omega, by rw [htm p hpO, hqa _ a3, a4], ?_⟩
      by_cases q : bs p ∈ qs_bel (qs_up mt bs lk) t 14 (bs v) ∨ bs p ∈ qs_bel (qs_up mt bs lk) t 14 (bs w)
      · rw [hbO p hpO q, htm t htB.1, htm p hpO]
        have := hbel _ q
        exact ⟨hOO t htB.1, hbs't, by omega⟩
      · rw [hbN p hpO q, htm _ a5, htm p hpO]
        exact ⟨hOO _ a5, by rw [hbN _ a5 (by rw [a6]; exact q), a6], a7⟩
    · have hF0 : F1 p ∨ F2 p := by
        rcases (hO p).mp hp with q | q
        · exact absurd q hpO
        · exact q
      have q := hFI p hF0
      have r := hfr p hF0
      rw [hbF p hF0, htm t htB.1]
      refine ⟨(h3 p q).1, fun s => ?_, r.2.1, r.2.2, hOO t htB.1, hbs't, ?_⟩
      · have := (hI p).mp s
        rcases hF0 with u | u
        · exact this.2.1 u
        · exact this.2.2 u
      · have := h1 t htB.1
        omega
  · intro i hi
    by_cases q : i < e
    · rw [hqa i q]
      obtain ⟨a1, a2⟩ := h2 i q
      exact ⟨hOO _ a1, by rw [htm _ a1, a2]⟩
    · obtain ⟨a1, a2⟩ := hfr2 i (by omega) hi
      exact ⟨(hO _).mpr (Or.inr a1), a2⟩
  · intro p hp
    obtain ⟨b1, b2, b3⟩ := (hI p).mp hp
    obtain ⟨a1, a2, a3, a4, a5, a6⟩ := h3 p b1
    have e1 : mt (mt p) = p := (hm p (by omega) (by omega)).2.2.2
    have hnb : ¬ (bs (mt p) ∈ qs_bel (qs_up mt bs lk) t 14 (bs v) ∨ bs (mt p) ∈ qs_bel (qs_up mt bs lk) t 14 (bs w)) := by
      intro q
      rw [a4] at q
      have := hFc _ q
      rw [e1] at this
      rcases this with u | u
      · exact b2 u
      · exact b3 u
    refine ⟨a1, a2, hOO _ a3, by rw [hbN _ a3 hnb, a4], hOO _ a5, ?_⟩
    rw [htm _ a5, htm _ a3]
    exact a6
  · refine ⟨hOO rt h4.1, ?_, h4.2.2⟩
    rw [hbN rt h4.1, h4.2.1]
    intro q
    rw [h4.2.1] at q
    exact (hbel _ q).2.2.1 rfl
  · intro p hp hr
    by_cases hpO : O p
    · obtain ⟨a1, a2, a3⟩ := h5 p hpO hr
      refine ⟨a1, ?_, ?_⟩
      · intro hb
        obtain ⟨q1, q2⟩ := hstay p hpO hb
        have := hnF p hpO q1 q2 (by omega)
        exact (hI _).mpr ⟨a2 q1, fun u => this (Or.inl u), fun u => this (Or.inr u)⟩
      · intro hb
        by_cases q : bs p = p
        · by_cases r : bs p ∈ qs_bel (qs_up mt bs lk) t 14 (bs v) ∨ bs p ∈ qs_bel (qs_up mt bs lk) t 14 (bs w)
          · rw [q] at r
            exact (hO _).mpr (Or.inr (hFc p r))
          · rw [hbN p hpO r] at hb
            exact absurd q hb
        · exact hOO _ (a3 q)
    · have hF0 : F1 p ∨ F2 p := by
        rcases (hO p).mp hp with q | q
        · exact absurd q hpO
        · exact q
      obtain ⟨c, c1, c2⟩ := hF p hF0
      have hc := hbel c c1
      rw [← c2, hc.2.2.2.2.2.2]
      refine ⟨(h1 c hc.1).1, ?_, fun _ => hOO c hc.1⟩
      intro hb
      rw [c2, hbF p hF0] at hb
      rw [← hb] at hpO
      exact absurd htB.1 hpO
  · intro p hp
    have q1 : ¬ O p := fun q => hp (hOO p q)
    have q2 : ¬ F1 p := fun q => hp ((hO p).mpr (Or.inr (Or.inl q)))
    have q3 : ¬ F2 p := fun q => hp ((hO p).mpr (Or.inr (Or.inr q)))
    obtain ⟨a1, a2⟩ := h6 p q1
    rw [hw3 p q2 q3]
    refine ⟨?_, a2⟩
    rw [hb2 p, a1]
    rintro (r | r | r)
    · exact q2 r
    · exact q3 r
    · rw [a1] at r
      exact q1 (hbel p r).1
  · rw [hwO rt h4.1, h7]
  · intro b hb hbb hr
    by_cases hpO : O b
    · obtain ⟨q1, q2⟩ := hstay b hpO hbb
      have hIm := (h5 b hpO hr).2.1 q1
      rw [hwO b hpO, hwO _ (h3 _ hIm).2.2.2.2.1]
      exact h8 b hpO q1 hr
    · have hF0 : F1 b ∨ F2 b := by
        rcases (hO b).mp hb with q | q
        · exact absurd q hpO
        · exact q
      rw [hbF b hF0] at hbb
      rw [← hbb] at hpO
      exact absurd htB.1 hpO
  · intro p hp
    by_cases hpO : O p
    · obtain ⟨a1, a2, a3, a4, a5, a6, a7⟩ := h1 p hpO
      have hcase : ∀ u, O u → t ∈ qs_row (qs_up mt bs lk) rt 14 (bs u) → (∀ c, c ∈ qs_bel (qs_up mt bs lk) t 14 (bs u) → c ∈ qs_bel (qs_up mt bs lk) t 14 (bs v) ∨ c ∈ qs_bel (qs_up mt bs lk) t 14 (bs w)) → bs p ∈ qs_bel (qs_up mt bs lk) t 14 (bs u) →
          ∃ l, wy' p = l ++ wy' (bs' p) ∧ qs_ev O' mt l ∧ l.Nodup ∧ (∀ a, a ∈ l → O' a ∧ bs' a = bs' p ∧ a ≠ bs' p) ∧ (l ++ [bs' p]).head? = some p := by
        intro u hu htu hsub hpu
        have u1 := h1 u hu
        have u2 := h1 _ u1.2.2.2.2.1
        obtain ⟨z1, z2⟩ := qs_bel_sub hup t 14 (bs u) ⟨u1.2.2.2.2.1, u1.2.2.2.2.2.1⟩ (by omega) htu (bs p) hpu
        have p2 := h1 _ a5
        obtain ⟨s, l, i1, i2, i3, i4, i5, i6, i7, i8⟩ := qs_seg hn hm h0 t 14 p hpO (by omega) z1
        have hq := hsub _ hpu
        rw [hbO p hpO hq, hwO p hpO, hwO t htB.1]
        have hsm : ∀ a, a ∈ s → O' a ∧ bs' a = t ∧ a ≠ t := by
          intro a ha
          rcases i5 a ha with r | r
          · refine ⟨hOO a r.1, hbO a r.1 (hsub _ (z2 _ r.2)), fun e => ?_⟩
            rw [e, htB.2] at r
            exact htn (hsub _ (z2 _ r.2))
          · have r2 := hsub _ (z2 _ r.2)
            have r3 := hFc _ r2
            have r4 := h3 a r.1
            rw [(hm a (by omega) (by omega)).2.2.2] at r3
            refine ⟨(hO a).mpr (Or.inr r3), hbF a r3, fun e => ?_⟩
            rw [e] at r
            exact (h1 t htB.1).2.1 r.1
        refine ⟨s ++ l, ?_, qs_ev_mono hOO _ (qs_ev_app i3 s i2), i4, ?_, i8⟩
        · rw [i1, List.append_assoc]
        · intro a ha
          rcases List.mem_append.mp ha with q | q
          · exact hsm a q
          · have r := i6 a q
            refine ⟨hOO a r.1, ?_, r.2.2⟩
            rw [hbN a r.1, r.2.1]
            rw [r.2.1]
            exact htn
      by_cases q : bs p ∈ qs_bel (qs_up mt bs lk) t 14 (bs v) ∨ bs p ∈ qs_bel (qs_up mt bs lk) t 14 (bs w)
      · rcases q with q | q
        · exact hcase v hv ht1 (fun c hc => Or.inl hc) q
        · exact hcase w hw ht2 (fun c hc => Or.inr hc) q
      · obtain ⟨l, l1, l2, l3, l4, l5⟩ := h9 p hpO
        rw [hbN p hpO q, hwO p hpO, hwO _ a5]
        refine ⟨l, l1, qs_ev_mono hOO _ l2, l3, ?_, l5⟩
        intro a ha
        obtain ⟨r1, r2, r3⟩ := l4 a ha
        refine ⟨hOO a r1, ?_, r3⟩
        rw [hbN a r1, r2]
        rw [r2]
        exact q
    · have hF0 : F1 p ∨ F2 p := by
        rcases (hO p).mp hp with q | q
        · exact absurd q hpO
        · exact q
      rw [hbF p hF0, hwO t htB.1]
      have hfin : ∀ l : List Nat, (∀ a, a ∈ l → a ≠ t ∧ ((O a ∧ (bs a = t ∨ bs a ∈ qs_bel (qs_up mt bs lk) t 14 (bs v) ∨ bs a ∈ qs_bel (qs_up mt bs lk) t 14 (bs w))) ∨ (I a ∧ (mt a ∈ qs_bel (qs_up mt bs lk) t 14 (bs v) ∨ mt a ∈ qs_bel (qs_up mt bs lk) t 14 (bs w))))) → ∀ a, a ∈ l → O' a ∧ bs' a = t ∧ a ≠ t := by
        intro l hl a ha
        obtain ⟨r1, r2⟩ := hl a ha
        rcases r2 with r2 | r2
        · refine ⟨hOO a r2.1, ?_, r1⟩
          rcases r2.2 with r3 | r3
          · rw [hbN a r2.1, r3]
            rw [r3]
            exact htn
          · exact hbO a r2.1 r3
        · have r3 := hFc _ r2.2
          have r4 := h3 a r2.1
          rw [(hm a (by omega) (by omega)).2.2.2] at r3
          exact ⟨(hO a).mpr (Or.inr r3), hbF a r3, r1⟩
      have hPI : ∀ a, I a → (mt a ∈ qs_bel (qs_up mt bs lk) t 14 (bs v) ∨ mt a ∈ qs_bel (qs_up mt bs lk) t 14 (bs w)) → O' a := by
        intro a ha hq
        have r3 := hFc _ hq
        have r4 := h3 a ha
        rw [(hm a (by omega) (by omega)).2.2.2] at r3
        exact (hO a).mpr (Or.inr r3)
      rcases hF0 with hf | hf
      · obtain ⟨c, c1, c2⟩ := (hF1 p).mp hf
        obtain ⟨l, l1, l2, l3, l4, l5, l6⟩ := qs_fresh hn hm h0 hv hw (by omega) (by omega) ht1 ht2 htB.2 hd c1 (P := O') hOO (fun a ha hq => hPI a ha (Or.inl hq))
        rw [hw1 p hf, ← c2]
        exact ⟨l, l1, l2, l3, hfin l l4, l5⟩
      · obtain ⟨c, c1, c2⟩ := (hF2 p).mp hf
        obtain ⟨l, l1, l2, l3, l4, l5, l6⟩ := qs_fresh hn hm h0 hw hv (by omega) (by omega) ht2 ht1 htB.2 (fun c q1 q2 => hd c q2 q1) c1 (P := O') hOO (fun a ha hq => hPI a ha (Or.inr hq))
        rw [hw2 p hf, ← c2]
        refine ⟨l, l1, l2, l3, hfin l ?_, l5⟩
        intro a ha
        obtain ⟨r1, r2⟩ := l4 a ha
        refine ⟨r1, ?_⟩
        rcases r2 with r2 | r2
        · refine Or.inl ⟨r2.1, ?_⟩
          rcases r2.2 with r3 | r3 | r3
          · exact Or.inl r3
          · exact Or.inr (Or.inr r3)
          · exact Or.inr (Or.inl r3)
        · refine Or.inr ⟨r2.1, ?_⟩
          rcases r2.2 with r3 | r3
          · exact Or.inr r3
          · exact Or.inl r3
end QS
