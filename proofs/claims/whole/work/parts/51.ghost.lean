/-! The search, as mathematics: what holds while it goes on. -/
def qm_ok (n : Nat) (mt : Nat → Nat) : Prop := ∀ p, p < 14 → mt p < 14 → p < n ∧ mt p < n ∧ mt p ≠ p ∧ mt (mt p) = p
def qs_up (mt bs lk : Nat → Nat) (b : Nat) : Nat := bs (lk (mt b))
def qs_ok (n rt : Nat) (mt : Nat → Nat) (O I : Nat → Prop) (e : Nat) (qa tm bs lk : Nat → Nat) (wy : Nat → List Nat) : Prop :=
  (∀ p, O p → p < n ∧ ¬ I p ∧ tm p < e ∧ qa (tm p) = p ∧ O (bs p) ∧ bs (bs p) = bs p ∧ tm (bs p) ≤ tm p) ∧
  (∀ i, i < e → O (qa i) ∧ tm (qa i) = i) ∧
  (∀ p, I p → p < n ∧ mt p < n ∧ O (mt p) ∧ bs (mt p) = mt p ∧ O (lk p) ∧ tm (lk p) < tm (mt p)) ∧
  (O rt ∧ bs rt = rt ∧ ¬ mt rt < 14) ∧
  (∀ p, O p → p ≠ rt → mt p < n ∧ (bs p = p → I (mt p)) ∧ (bs p ≠ p → O (mt p))) ∧
  (∀ p, ¬ O p → bs p = p ∧ wy p = []) ∧
  wy rt = [rt] ∧
  (∀ b, O b → bs b = b → b ≠ rt → wy b = b :: mt b :: wy (lk (mt b))) ∧
  (∀ p, O p → ∃ l, wy p = l ++ wy (bs p) ∧ qs_ev O mt l ∧ l.Nodup ∧ (∀ a, a ∈ l → O a ∧ bs a = bs p ∧ a ≠ bs p) ∧ (l ++ [bs p]).head? = some p)
theorem qs_row_stab {up tm : Nat → Nat} {rt : Nat} {B : Nat → Prop} (hup : ∀ b, B b → b ≠ rt → B (up b) ∧ tm (up b) < tm b) : ∀ (k b : Nat), B b → tm b < k → qs_row up rt (k + 1) b = qs_row up rt k b := by
  intro k
  induction k with
  | zero => intro b _ h; omega
  | succ k ih =>
    intro b hb hk
    rw [show qs_row up rt (k + 1 + 1) b = if b = rt then [b] else b :: qs_row up rt (k + 1) (up b) from rfl, show qs_row up rt (k + 1) b = if b = rt then [b] else b :: qs_row up rt k (up b) from rfl]
    by_cases h : b = rt
    · rw [if_pos h, if_pos h]
    · rw [if_neg h, if_neg h]
      obtain ⟨h1, h2⟩ := hup b hb h
      rw [ih (up b) h1 (by omega)]
theorem qs_bel_stab {up tm : Nat → Nat} {rt : Nat} {B : Nat → Prop} (hup : ∀ b, B b → b ≠ rt → B (up b) ∧ tm (up b) < tm b) (t : Nat) : ∀ (k b : Nat), B b → tm b < k → t ∈ qs_row up rt k b → qs_bel up t (k + 1) b = qs_bel up t k b := by
  intro k
  induction k with
  | zero => intro b _ h; omega
  | succ k ih =>
    intro b hb hk ht
    rw [show qs_bel up t (k + 1 + 1) b = if b = t then [] else b :: qs_bel up t (k + 1) (up b) from rfl, show qs_bel up t (k + 1) b = if b = t then [] else b :: qs_bel up t k (up b) from rfl]
    rw [qs_row] at ht
    by_cases h0 : b = t
    · rw [if_pos h0, if_pos h0]
    · rw [if_neg h0, if_neg h0]
      by_cases h : b = rt
      · rw [if_pos h, List.mem_singleton] at ht
        exact absurd ht.symm h0
      · rw [if_neg h] at ht
        obtain ⟨h1, h2⟩ := hup b hb h
        rcases List.mem_cons.mp ht with e | e
        · exact absurd e.symm h0
        · rw [ih (up b) h1 (by omega) e]
theorem qs_bel_sub {up tm : Nat → Nat} {rt : Nat} {B : Nat → Prop} (hup : ∀ b, B b → b ≠ rt → B (up b) ∧ tm (up b) < tm b) (t : Nat) : ∀ (k b : Nat), B b → tm b < k → t ∈ qs_row up rt k b → ∀ c, c ∈ qs_bel up t k b → t ∈ qs_row up rt k c ∧ (∀ a, a ∈ qs_bel up t k c → a ∈ qs_bel up t k b) := by
  intro k
  induction k with
  | zero => intro b _ h; omega
  | succ k ih =>
    intro b hb hk ht c hc
    by_cases hcb : c = b
    · rw [hcb]
      exact ⟨ht, fun a ha => ha⟩
    · have hc0 := hc
      rw [qs_bel] at hc
      have ht0 := ht
      rw [qs_row] at ht
      by_cases h0 : b = t
      · rw [if_pos h0] at hc
        exact absurd hc List.not_mem_nil
      · rw [if_neg h0] at hc
        by_cases h : b = rt
        · rw [if_pos h, List.mem_singleton] at ht
          exact absurd ht.symm h0
        · rw [if_neg h] at ht
          obtain ⟨h1, h2⟩ := hup b hb h
          have ht2 : t ∈ qs_row up rt k (up b) := by
            rcases List.mem_cons.mp ht with e | e
            · exact absurd e.symm h0
            · exact e
          have hc2 : c ∈ qs_bel up t k (up b) := by
            rcases List.mem_cons.mp hc with e | e
            · exact absurd e hcb
            · exact e
          obtain ⟨i1, i2⟩ := ih (up b) h1 (by omega) ht2 c hc2
          obtain ⟨j1, j2, j3, j4, j5⟩ := qs_bel_mem hup t k (up b) h1 (by omega) ht2 c hc2
          rw [qs_row_stab hup k c j2 (by omega), qs_bel_stab hup t k c j2 (by omega) i1]
          refine ⟨i1, fun a ha => ?_⟩
          rw [qs_bel, if_neg h0]
          exact List.mem_cons_of_mem _ (i2 a ha)
section QS
variable {n rt e : Nat} {mt qa tm bs lk : Nat → Nat} {O I : Nat → Prop} {wy : Nat → List Nat}
theorem qs_climb (hn : n ≤ 14) (hm : qm_ok n mt) (h : qs_ok n rt mt O I e qa tm bs lk wy) : ∀ b, (O b ∧ bs b = b) → b ≠ rt → (O (qs_up mt bs lk b) ∧ bs (qs_up mt bs lk b) = qs_up mt bs lk b) ∧ tm (qs_up mt bs lk b) < tm b := by
  obtain ⟨h1, h2, h3, h4, h5, h6, h7, h8, h9⟩ := h
  intro b hb hr
  obtain ⟨a1, a2, a3⟩ := h5 b hb.1 hr
  obtain ⟨b1, b2, b3, b4, b5, b6⟩ := h3 _ (a2 hb.2)
  obtain ⟨c1, c2, c3, c4, c5, c6, c7⟩ := h1 _ b5
  have d1 := h1 b hb.1
  have d2 := hm b (by omega) (by omega)
  rw [d2.2.2.2] at b6
  exact ⟨⟨c5, c6⟩, by unfold qs_up; omega⟩
theorem qs_head (b : Nat) (r r2 : List Nat) : ∀ (l : List Nat), (l ++ b :: r).head? = (l ++ b :: r2).head?
  | [] => rfl
  | _ :: _ => rfl
theorem qs_seg (hn : n ≤ 14) (hm : qm_ok n mt) (h : qs_ok n rt mt O I e qa tm bs lk wy) (t : Nat) : ∀ (k p : Nat), O p → tm (bs p) < k → t ∈ qs_row (qs_up mt bs lk) rt k (bs p) →
    ∃ s l, wy p = s ++ (l ++ wy t) ∧ qs_ev O mt s ∧ qs_ev O mt l ∧ (s ++ l).Nodup ∧ (∀ a, a ∈ s → (O a ∧ bs a ∈ qs_bel (qs_up mt bs lk) t k (bs p)) ∨ (I a ∧ mt a ∈ qs_bel (qs_up mt bs lk) t k (bs p))) ∧ (∀ a, a ∈ l → O a ∧ bs a = t ∧ a ≠ t) ∧ (∀ b, b ∈ qs_bel (qs_up mt bs lk) t k (bs p) → mt b ∈ s) ∧ (s ++ l ++ [t]).head? = some p := by
  have hup := qs_climb hn hm h
  obtain ⟨h1, h2, h3, h4, h5, h6, h7, h8, h9⟩ := h
  intro k
  induction k with
  | zero => intro p _ hk; omega
  | succ k ih =>
    intro p hp hk ht
    obtain ⟨l0, a1, a2, a3, a4, a5⟩ := h9 p hp
    obtain ⟨b1, b2, b3, b4, b5, b6, b7⟩ := h1 p hp
    by_cases h0 : bs p = t
    · refine ⟨[], l0, ?_, trivial, a2, ?_, ?_, ?_, ?_, ?_⟩
      · rw [a1, h0]
        rfl
      · exact a3
      · intro a ha
        exact absurd ha List.not_mem_nil
      · rw [h0] at a4
        exact a4
      · rw [qs_bel, if_pos h0]
        intro b hb
        exact absurd hb List.not_mem_nil
      · rw [h0] at a5
        exact a5
    · have hr : bs p ≠ rt := by
        intro e
        rw [qs_row, if_pos e, List.mem_singleton] at ht
        exact h0 ht.symm
      rw [qs_row, if_neg hr] at ht
      have ht2 : t ∈ qs_row (qs_up mt bs lk) rt k (qs_up mt bs lk (bs p)) := by
        rcases List.mem_cons.mp ht with e | e
        · exact absurd e.symm h0
        · exact e
      obtain ⟨u1, u2⟩ := hup (bs p) ⟨b5, b6⟩ hr
      obtain ⟨c1, c2, c3⟩ := h5 (bs p) b5 hr
      have hI := c2 b6
      obtain ⟨d1, d2, d3, d4, d5, d6⟩ := h3 _ hI
      have hmm : mt (mt (bs p)) = bs p := (hm (bs p) (by have := h1 (bs p) b5; omega) (by omega)).2.2.2
      obtain ⟨s, l, i1, i2, i3, i4, i5, i6, i7, i8⟩ := ih (lk (mt (bs p))) d5 (by unfold qs_up at u2; omega) ht2
      have hbel : qs_bel (qs_up mt bs lk) t (k + 1) (bs p) = bs p :: qs_bel (qs_up mt bs lk) t k (qs_up mt bs lk (bs p)) := by rw [qs_bel, if_neg h0]
      have hbm := qs_bel_mem hup t k (qs_up mt bs lk (bs p)) u1 (by omega) ht2
      have hno : ∀ c, c ∈ qs_bel (qs_up mt bs lk) t k (qs_up mt bs lk (bs p)) → c ≠ bs p := by
        intro c hc he
        have := hbm c hc
        rw [he] at this
        omega
      have hx : ∀ a, a ∈ s ++ l → (O a ∧ bs a ≠ bs p) ∨ (I a ∧ mt a ≠ bs p) := by
        intro a ha
        rcases List.mem_append.mp ha with ha | ha
        · rcases i5 a ha with q | q
          · exact Or.inl ⟨q.1, hno _ q.2⟩
          · exact Or.inr ⟨q.1, hno _ q.2⟩
        · have q := i6 a ha
          exact Or.inl ⟨q.1, by rw [q.2.1]; exact fun e => h0 e.symm⟩
      refine ⟨l0 ++ bs p :: mt (bs p) :: s, l, ?_, ?_, i3, ?_, ?_, i6, ?_, ?_⟩
      · rw [a1, h8 (bs p) b5 b6 hr, i1]
        simp only [List.append_assoc, List.cons_append]
      · exact qs_ev_app (show qs_ev O mt (bs p :: mt (bs p) :: s) from ⟨b5, rfl, i2⟩) l0 a2
      · rw [List.append_assoc, List.nodup_append]
        refine ⟨a3, ?_, ?_⟩
        · rw [List.cons_append, List.cons_append, List.nodup_cons, List.nodup_cons]
          refine ⟨?_, ?_, i4⟩
          · intro hmem
            rcases List.mem_cons.mp hmem with e | e
            · rw [← e] at hI
              exact (h1 _ b5).2.1 hI
            · rcases hx _ e with q | q
              · exact q.2 b6
              · exact (h1 _ b5).2.1 q.1
          · intro e
            rcases hx _ e with q | q
            · exact (h1 _ q.1).2.1 hI
            · exact q.2 hmm
        · intro a ha b hb he
          obtain ⟨q1, q2, q3⟩ := a4 a ha
          rw [List.cons_append, List.cons_append] at hb
          rw [← he] at hb
          rcases List.mem_cons.mp hb with e | e
          · exact q3 e
          · rcases List.mem_cons.mp e with e | e
            · rw [e] at q1
              exact (h1 _ q1).2.1 hI
            · rcases hx _ e with q | q
              · exact q.2 q2
              · exact (h1 _ q1).2.1 q.1
      · rw [hbel]
        intro a ha
        rcases List.mem_append.mp ha with e | e
        · have q := a4 a e
          exact Or.inl ⟨q.1, by rw [q.2.1]; exact List.mem_cons_self⟩
        · rcases List.mem_cons.mp e with e | e
          · exact Or.inl ⟨by rw [e]; exact b5, by rw [e, b6]; exact List.mem_cons_self⟩
          · rcases List.mem_cons.mp e with e | e
            · exact Or.inr ⟨by rw [e]; exact hI, by rw [e, hmm]; exact List.mem_cons_self⟩
            · rcases i5 a e with q | q
              · exact Or.inl ⟨q.1, List.mem_cons_of_mem _ q.2⟩
              · exact Or.inr ⟨q.1, List.mem_cons_of_mem _ q.2⟩
      · rw [hbel]
        intro b hb
        rcases List.mem_cons.mp hb with e | e
        · rw [e]
          exact List.mem_append_right _ (List.mem_cons_of_mem _ List.mem_cons_self)
        · exact List.mem_append_right _ (List.mem_cons_of_mem _ (List.mem_cons_of_mem _ (i7 b e)))
      · rw [← a5, List.append_assoc, List.append_assoc, List.cons_append]
        exact qs_head _ _ _ _
end QS
