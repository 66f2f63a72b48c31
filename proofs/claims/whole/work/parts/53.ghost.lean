/-! The search, as mathematics: it begins, it grows; a way is turned. -/
section QS
variable {n rt e : Nat} {mt qa tm bs lk : Nat → Nat} {O I : Nat → Prop} {wy : Nat → List Nat}
theorem qs_begin (hrn : rt < n) (hr : ¬ mt rt < 14) (hO : ∀ p, O p ↔ p = rt) (hI : ∀ p, ¬ I p) (hbs : ∀ p, bs p = p) (h0 : qa 0 = rt) (h1 : tm rt = 0) (hw : wy rt = [rt]) (hw2 : ∀ p, p ≠ rt → wy p = []) :
    qs_ok n rt mt O I 1 qa tm bs lk wy := by
  have hrO : O rt := (hO rt).mpr rfl
  refine ⟨?_, ?_, ?_, ⟨hrO, hbs rt, hr⟩, ?_, ?_, hw, ?_, ?_⟩
  · intro p hp
    rw [(hO p).mp hp, hbs rt, h1]
    exact ⟨hrn, hI rt, by omega, h0, hrO, hbs rt, Nat.le_refl _⟩
  · intro i hi
    rw [show i = 0 by omega, h0]
    exact ⟨hrO, h1⟩
  · intro p hp
    exact absurd hp (hI p)
  · intro p hp hn
    exact absurd ((hO p).mp hp) hn
  · intro p hp
    exact ⟨hbs p, hw2 p (fun e => hp ((hO p).mpr e))⟩
  · intro b hb _ hn
    exact absurd ((hO b).mp hb) hn
  · intro p hp
    rw [(hO p).mp hp, hbs rt]
    exact ⟨[], rfl, trivial, List.nodup_nil, fun a ha => absurd ha List.not_mem_nil, rfl⟩
theorem qs_grow (hn : n ≤ 14) (hm : qm_ok n mt) (h : qs_ok n rt mt O I e qa tm bs lk wy) {v w : Nat} (hv : O v) (hwO : ¬ O w) (hwI : ¬ I w) (hwn : w < n) (hx : mt w < 14)
    {O' I' : Nat → Prop} (hO : ∀ p, O' p ↔ O p ∨ p = mt w) (hI : ∀ p, I' p ↔ I p ∨ p = w) :
    (¬ O (mt w) ∧ ¬ I (mt w) ∧ mt w < n ∧ mt w ≠ w) ∧ qs_ok n rt mt O' I' (e + 1) (qu qa e (mt w)) (qu tm (mt w) e) bs (qu lk w v) (qu wy (mt w) (mt w :: w :: wy v)) := by
  obtain ⟨h1, h2, h3, h4, h5, h6, h7, h8, h9⟩ := h
  obtain ⟨m1, m2, m3, m4⟩ := hm w (by omega) hx
  have hxI : ¬ I (mt w) := fun q => by
    have := (h3 _ q).2.2.1
    rw [m4] at this
    exact hwO this
  have hxr : mt w ≠ rt := fun q => by
    have := h4.2.2
    rw [← q, m4] at this
    omega
  have hxO : ¬ O (mt w) := fun q => by
    obtain ⟨a1, a2, a3⟩ := h5 _ q hxr
    rw [m4] at a2 a3
    by_cases b : bs (mt w) = mt w
    · exact hwI (a2 b)
    · exact hwO (a3 b)
  have hne : ∀ p, O p → p ≠ mt w := fun p hp q => hxO (q ▸ hp)
  have hnw : ∀ p, O p → p ≠ w := fun p hp q => hwO (q ▸ hp)
  have hnI : ∀ p, I p → p ≠ w := fun p hp q => hwI (q ▸ hp)
  have hOO : ∀ p, O p → O' p := fun p hp => (hO p).mpr (Or.inl hp)
  have hxO' : O' (mt w) := (hO _).mpr (Or.inr rfl)
  have hbx : bs (mt w) = mt w := (h6 _ hxO).1
  refine ⟨⟨hxO, hxI, m2, m3⟩, ?_, ?_, ?_, ⟨hOO rt h4.1, h4.2.1, h4.2.2⟩, ?_, ?_, ?_, ?_, ?_⟩
  · intro p hp
    rcases (hO p).mp hp with q | q
    · obtain ⟨a1, a2, a3, a4, a5, a6, a7⟩ := h1 p q
      rw [qu_ne _ _ (hne p q), qu_ne _ _ (hne _ a5), qu_ne _ _ (show tm p ≠ e by omega)]
      refine ⟨a1, fun r => ?_, by omega, a4, hOO _ a5, a6, a7⟩
      rcases (hI p).mp r with r | r
      · exact a2 r
      · exact hnw p q r
    · rw [q, hbx, qu_eq, qu_eq]
      refine ⟨m2, fun r => ?_, by omega, rfl, hxO', hbx, Nat.le_refl _⟩
      rcases (hI _).mp r with r | r
      · exact hxI r
      · exact m3 r
  · intro i hi
    by_cases q : i = e
    · rw [q, qu_eq, qu_eq]
      exact ⟨hxO', rfl⟩
    · obtain ⟨a1, a2⟩ := h2 i (by omega)
      rw [qu_ne _ _ q, qu_ne _ _ (hne _ a1)]
      exact ⟨hOO _ a1, a2⟩
  · intro p hp
    rcases (hI p).mp hp with q | q
    · obtain ⟨a1, a2, a3, a4, a5, a6⟩ := h3 p q
      rw [qu_ne _ _ (hnI p q), qu_ne _ _ (hne _ a5), qu_ne _ _ (hne _ a3)]
      exact ⟨a1, a2, hOO _ a3, a4, hOO _ a5, a6⟩
    · rw [q, qu_eq, qu_eq, qu_ne _ _ (hne v hv)]
      exact ⟨hwn, m2, hxO', hbx, hOO v hv, (h1 v hv).2.2.1⟩
  · intro p hp hr
    rcases (hO p).mp hp with q | q
    · obtain ⟨a1, a2, a3⟩ := h5 p q hr
      exact ⟨a1, fun b => (hI _).mpr (Or.inl (a2 b)), fun b => hOO _ (a3 b)⟩
    · rw [q, m4]
      exact ⟨hwn, fun _ => (hI w).mpr (Or.inr rfl), fun b => absurd hbx b⟩
  · intro p hp
    have q1 : ¬ O p := fun q => hp (hOO p q)
    have q2 : p ≠ mt w := fun q => hp ((hO p).mpr (Or.inr q))
    rw [qu_ne _ _ q2]
    exact h6 p q1
  · rw [qu_ne _ _ (Ne.symm hxr), h7]
  · intro b hb hbb hr
    rcases (hO b).mp hb with q | q
    · have q2 := (h5 b q hr).2.1 hbb
      have q3 := h3 _ q2
      rw [qu_ne _ _ (hne b q), qu_ne _ _ (hnI _ q2), qu_ne _ _ (hne _ q3.2.2.2.2.1)]
      exact h8 b q hbb hr
    · rw [q, qu_eq, m4, qu_eq, qu_ne _ _ (hne v hv)]
  · intro p hp
    rcases (hO p).mp hp with q | q
    · obtain ⟨l, l1, l2, l3, l4, l5⟩ := h9 p q
      have q5 := (h1 p q).2.2.2.2.1
      rw [qu_ne _ _ (hne p q), qu_ne _ _ (hne _ q5)]
      exact ⟨l, l1, qs_ev_mono hOO _ l2, l3, fun a ha => ⟨hOO a (l4 a ha).1, (l4 a ha).2⟩, l5⟩
    · rw [q, hbx]
      exact ⟨[], rfl, trivial, List.nodup_nil, fun a ha => absurd ha List.not_mem_nil, rfl⟩
def qs_jn : (Nat → Nat) → List Nat → (Nat → Nat)
  | mt, b :: c :: t => qs_jn (qu (qu mt b c) c b) t
  | mt, _ => mt
theorem qs_jn_out : ∀ (l : List Nat) (mt : Nat → Nat) (p : Nat), p ∉ l → qs_jn mt l p = mt p
  | [], _, _, _ => rfl
  | [_], _, _, _ => rfl
  | b :: c :: t, mt, p, h => by
    rw [qs_jn, qs_jn_out t _ p (fun q => h (List.mem_cons_of_mem _ (List.mem_cons_of_mem _ q))), qu_ne _ _ (fun q => h (by rw [q]; exact List.mem_cons_of_mem _ List.mem_cons_self)), qu_ne _ _ (fun q => h (by rw [q]; exact List.mem_cons_self))]
theorem qs_jn_in : ∀ (l : List Nat) (mt : Nat → Nat), l.length % 2 = 0 → l.Nodup → ∀ p, p ∈ l → qs_jn mt l p ∈ l ∧ qs_jn mt l p ≠ p ∧ qs_jn mt l (qs_jn mt l p) = p
  | [], _, _, _, p, h => absurd h List.not_mem_nil
  | [_], _, h, _, _, _ => by simp at h
  | b :: c :: t, mt, h, hd, p, hp => by
    obtain ⟨d1, d2⟩ := List.nodup_cons.mp hd
    obtain ⟨d3, d4⟩ := List.nodup_cons.mp d2
    have hcb : c ≠ b := fun q => d1 (by rw [q]; exact List.mem_cons_self)
    have hbt : b ∉ t := fun q => d1 (List.mem_cons_of_mem _ q)
    have eb : qs_jn mt (b :: c :: t) b = c := by rw [qs_jn, qs_jn_out t _ b hbt, qu_ne _ _ (Ne.symm hcb), qu_eq]
    have ec : qs_jn mt (b :: c :: t) c = b := by rw [qs_jn, qs_jn_out t _ c d3, qu_eq]
    rcases List.mem_cons.mp hp with q | q
    · rw [q, eb, ec]
      exact ⟨List.mem_cons_of_mem _ List.mem_cons_self, hcb, rfl⟩
    · rcases List.mem_cons.mp q with q | q
      · rw [q, ec, eb]
        exact ⟨List.mem_cons_self, Ne.symm hcb, rfl⟩
      · have h2 : t.length % 2 = 0 := by
          simp only [List.length_cons] at h
          omega
        obtain ⟨i1, i2, i3⟩ := qs_jn_in t (qu (qu mt b c) c b) h2 d4 p q
        rw [qs_jn]
        exact ⟨List.mem_cons_of_mem _ (List.mem_cons_of_mem _ i1), i2, i3⟩
theorem qs_ev_cl {O : Nat → Prop} {mt : Nat → Nat} (hmt : ∀ a, O a → mt a < 14 → mt (mt a) = a) : ∀ (s : List Nat), qs_ev O mt s → (∀ a, a ∈ s → a < 14) → ∀ a, a ∈ s → mt a ∈ s
  | [], _, _, a, h => absurd h List.not_mem_nil
  | [_], h, _, _, _ => h.elim
  | x :: y :: t, h, h14, a, ha => by
    obtain ⟨h1, h2, h3⟩ := h
    rcases List.mem_cons.mp ha with q | q
    · rw [q, h2]
      exact List.mem_cons_of_mem _ List.mem_cons_self
    · rcases List.mem_cons.mp q with q | q
      · have := hmt x h1 (by rw [h2]; exact h14 y (List.mem_cons_of_mem _ List.mem_cons_self))
        rw [h2] at this
        rw [q, this]
        exact List.mem_cons_self
      · exact List.mem_cons_of_mem _ (List.mem_cons_of_mem _ (qs_ev_cl hmt t h3 (fun b hb => h14 b (List.mem_cons_of_mem _ (List.mem_cons_of_mem _ hb))) a q))
theorem qs_turn (hn : n ≤ 14) (hm : qm_ok n mt) (h : qs_ok n rt mt O I e qa tm bs lk wy) {p : Nat} (hp : O p) :
    ∃ r, wy p = p :: r ∧ r.length % 2 = 0 ∧ (p :: r).Nodup ∧ (∀ a, a ∈ p :: r → a < n ∧ (O a ∨ I a)) ∧ qm_ok n (qs_jn (qu mt p 14) r) ∧ qs_jn (qu mt p 14) r p = 14 := by
  obtain ⟨s, s1, s2, s3, s4, s5⟩ := qs_way hn hm h hp
  obtain ⟨h1, h2, h3, h4, h5, h6, h7, h8, h9⟩ := h
  have hall : ∀ a, a ∈ s ++ [rt] → a < n ∧ (O a ∨ I a) := by
    intro a ha
    rcases List.mem_append.mp ha with q | q
    · rcases s4 a q with r | r
      · exact ⟨(h1 a r).1, Or.inl r⟩
      · exact ⟨(h3 a r).1, Or.inr r⟩
    · rw [List.mem_singleton] at q
      rw [q]
      exact ⟨(h1 rt h4.1).1, Or.inl h4.1⟩
  have hcl : ∀ a, a ∈ s ++ [rt] → mt a < 14 → mt a ∈ s ++ [rt] := by
    intro a ha h14
    rcases List.mem_append.mp ha with q | q
    · exact List.mem_append_left _ (qs_ev_cl (fun b hb hc => (hm b (by have := h1 b hb; omega) hc).2.2.2) s s2 (fun b hb => by have := (hall b (List.mem_append_left _ hb)).1; omega) a q)
    · rw [List.mem_singleton] at q
      rw [q] at h14
      exact absurd h14 h4.2.2
  have hlen := qs_ev_len s s2
  obtain ⟨r, hr⟩ : ∃ r, s ++ [rt] = p :: r := by
    cases hs : s ++ [rt] with
    | nil => simp at hs
    | cons a t =>
      rw [hs] at s5
      simp only [List.head?_cons, Option.some.injEq] at s5
      exact ⟨t, by rw [s5]⟩
  have hrl : r.length % 2 = 0 := by
    have := congrArg List.length hr
    rw [List.length_append, List.length_cons, List.length_cons, List.length_nil] at this
    omega
  rw [hr] at s3 hall hcl s1
  obtain ⟨d1, d2⟩ := List.nodup_cons.mp s3
  have hpp : qs_jn (qu mt p 14) r p = 14 := by rw [qs_jn_out r _ p d1, qu_eq]
  refine ⟨r, s1, hrl, s3, hall, ?_, hpp⟩
  intro a ha hb
  by_cases q : a ∈ r
  · obtain ⟨i1, i2, i3⟩ := qs_jn_in r (qu mt p 14) hrl d2 a q
    exact ⟨(hall a (List.mem_cons_of_mem _ q)).1, (hall _ (List.mem_cons_of_mem _ i1)).1, i2, i3⟩
  · have hap : a ≠ p := fun e => by
      rw [e, hpp] at hb
      omega
    rw [qs_jn_out r _ a q, qu_ne _ _ hap] at hb ⊢
    obtain ⟨j1, j2, j3, j4⟩ := hm a ha hb
    refine ⟨j1, j2, j3, ?_⟩
    have hnot : mt a ∉ p :: r := by
      intro u
      have := hcl _ u (by rw [j4]; exact ha)
      rw [j4] at this
      rcases List.mem_cons.mp this with z | z
      · exact hap z
      · exact q z
    rw [qs_jn_out r _ _ (fun u => hnot (List.mem_cons_of_mem _ u)), qu_ne _ _ (fun u => hnot (by rw [u]; exact List.mem_cons_self)), j4]
theorem qs_jn_qu : ∀ (l : List Nat) (mt : Nat → Nat) (k z : Nat), k ∉ l → qs_jn (qu mt k z) l = qu (qs_jn mt l) k z
  | [], _, _, _, _ => rfl
  | [_], _, _, _, _ => rfl
  | b :: c :: t, mt, k, z, h => by
    have hb : b ≠ k := fun u => h (by rw [u]; exact List.mem_cons_self)
    have hc : c ≠ k := fun u => h (by rw [u]; exact List.mem_cons_of_mem _ List.mem_cons_self)
    have e1 : qu (qu (qu mt k z) b c) c b = qu (qu (qu mt b c) c b) k z := by
      funext j
      unfold qu
      by_cases u1 : j = c
      · rw [if_pos u1, if_neg (by omega), if_pos u1]
      · rw [if_neg u1, if_neg u1]
        by_cases u2 : j = b
        · rw [if_pos u2, if_neg (by omega), if_pos u2]
        · rw [if_neg u2, if_neg u2]
    rw [qs_jn, qs_jn, e1]
    exact qs_jn_qu t _ k z (fun u => h (List.mem_cons_of_mem _ (List.mem_cons_of_mem _ u)))
theorem qm_join {g : Nat → Nat} {v w : Nat} (hn : n ≤ 14) (hm : qm_ok n g) (hv : v < n) (hw : w < n) (hvw : v ≠ w) (hgv : ¬ g v < 14) (hgw : ¬ g w < 14) : qm_ok n (qu (qu g v w) w v) := by
  intro a ha hb
  by_cases q : a = w
  · rw [q, qu_eq, qu_ne _ _ hvw, qu_eq]
    exact ⟨hw, hv, hvw, rfl⟩
  · by_cases r : a = v
    · rw [r, qu_ne _ _ hvw, qu_eq, qu_eq]
      exact ⟨hv, hw, Ne.symm hvw, rfl⟩
    · rw [qu_ne _ _ q, qu_ne _ _ r] at hb ⊢
      obtain ⟨j1, j2, j3, j4⟩ := hm a ha hb
      refine ⟨j1, j2, j3, ?_⟩
      have u1 : g a ≠ w := fun u => by
        rw [u] at j4
        rw [j4] at hgw
        omega
      have u2 : g a ≠ v := fun u => by
        rw [u] at j4
        rw [j4] at hgv
        omega
      rw [qu_ne _ _ u1, qu_ne _ _ u2, j4]
end QS
