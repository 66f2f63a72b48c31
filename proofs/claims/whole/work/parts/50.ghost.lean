/-! The search, as mathematics: rows of groups, what lies below a group, the meeting; ways. -/
def qu {α : Type} (f : Nat → α) (i : Nat) (v : α) : Nat → α := fun k => if k = i then v else f k
theorem qu_eq {α : Type} (f : Nat → α) (i : Nat) (v : α) : qu f i v i = v := if_pos rfl
theorem qu_ne {α : Type} (f : Nat → α) {i k : Nat} (v : α) (h : k ≠ i) : qu f i v k = f k := if_neg h
def qs_row (up : Nat → Nat) (rt : Nat) : Nat → Nat → List Nat
  | 0, _ => []
  | k + 1, b => if b = rt then [b] else b :: qs_row up rt k (up b)
def qs_bel (up : Nat → Nat) (t : Nat) : Nat → Nat → List Nat
  | 0, _ => []
  | k + 1, b => if b = t then [] else b :: qs_bel up t k (up b)
def qs_top (up : Nat → Nat) (W : Nat → Bool) : Nat → Nat → Nat
  | 0, b => b
  | k + 1, b => if W b then b else qs_top up W k (up b)
def qs_ev (O : Nat → Prop) (mt : Nat → Nat) : List Nat → Prop
  | [] => True
  | [_] => False
  | a :: b :: t => O a ∧ mt a = b ∧ qs_ev O mt t
def qs_back (m : Nat) (l : List Nat) : List Nat := m :: (l.takeWhile (fun a => a != m)).reverse
theorem qs_php : ∀ (n : Nat) (l : List Nat), l.Nodup → (∀ a, a ∈ l → a < n) → l.length ≤ n
  | 0, l, _, h => by
    cases l with
    | nil => exact Nat.le_refl _
    | cons a t => exact absurd (h a List.mem_cons_self) (by omega)
  | n + 1, l, hd, h => by
    have h1 := qs_php n (l.erase n) (hd.erase n) (fun a ha => by
      have h2 := (hd.mem_erase_iff).mp ha
      have h3 := h a h2.2
      have h4 := h2.1
      omega)
    have h2 := List.length_erase (a := n) (l := l)
    split at h2 <;> omega
theorem qs_row_mem {up tm : Nat → Nat} {rt : Nat} {B : Nat → Prop} (hup : ∀ b, B b → b ≠ rt → B (up b) ∧ tm (up b) < tm b) : ∀ (k b : Nat), B b → tm b < k →
    rt ∈ qs_row up rt k b ∧ b ∈ qs_row up rt k b ∧ (∀ c, c ∈ qs_row up rt k b → B c ∧ tm c ≤ tm b) := by
  intro k
  induction k with
  | zero => intro b _ h; omega
  | succ k ih =>
    intro b hb hk
    rw [qs_row]
    by_cases h : b = rt
    · rw [if_pos h, h]
      refine ⟨List.mem_cons_self, List.mem_cons_self, ?_⟩
      intro c hc
      rw [List.mem_singleton] at hc
      rw [hc]
      exact ⟨h ▸ hb, Nat.le_refl _⟩
    · rw [if_neg h]
      obtain ⟨h1, h2⟩ := hup b hb h
      obtain ⟨i1, i2, i3⟩ := ih (up b) h1 (by omega)
      refine ⟨List.mem_cons_of_mem _ i1, List.mem_cons_self, ?_⟩
      intro c hc
      rcases List.mem_cons.mp hc with e | e
      · rw [e]
        exact ⟨hb, Nat.le_refl _⟩
      · obtain ⟨j1, j2⟩ := i3 c e
        exact ⟨j1, by omega⟩
theorem qs_bel_mem {up tm : Nat → Nat} {rt : Nat} {B : Nat → Prop} (hup : ∀ b, B b → b ≠ rt → B (up b) ∧ tm (up b) < tm b) (t : Nat) : ∀ (k b : Nat), B b → tm b < k → t ∈ qs_row up rt k b →
    ∀ c, c ∈ qs_bel up t k b → c ∈ qs_row up rt k b ∧ B c ∧ c ≠ rt ∧ tm t < tm c ∧ tm c ≤ tm b := by
  intro k
  induction k with
  | zero => intro b _ h; omega
  | succ k ih =>
    intro b hb hk ht c hc
    rw [qs_bel] at hc
    rw [qs_row] at ht ⊢
    by_cases h0 : b = t
    · rw [if_pos h0] at hc
      exact absurd hc List.not_mem_nil
    · rw [if_neg h0] at hc
      by_cases h : b = rt
      · rw [if_pos h, List.mem_singleton] at ht
        exact absurd ht.symm h0
      · rw [if_neg h] at ht ⊢
        obtain ⟨h1, h2⟩ := hup b hb h
        have ht2 : t ∈ qs_row up rt k (up b) := by
          rcases List.mem_cons.mp ht with e | e
          · exact absurd e.symm h0
          · exact e
        have ht3 := (qs_row_mem hup k (up b) h1 (by omega)).2.2 t ht2
        rcases List.mem_cons.mp hc with e | e
        · rw [e]
          exact ⟨List.mem_cons_self, hb, h, by omega, Nat.le_refl _⟩
        · obtain ⟨j1, j2, j3, j4, j5⟩ := ih (up b) h1 (by omega) ht2 c e
          exact ⟨List.mem_cons_of_mem _ j1, j2, j3, j4, by omega⟩
theorem qs_top_mem {up tm : Nat → Nat} {rt : Nat} {B : Nat → Prop} (hup : ∀ b, B b → b ≠ rt → B (up b) ∧ tm (up b) < tm b) {W : Nat → Bool} (hW : W rt = true) : ∀ (k b : Nat), B b → tm b < k →
    W (qs_top up W k b) = true ∧ qs_top up W k b ∈ qs_row up rt k b ∧ (∀ c, c ∈ qs_bel up (qs_top up W k b) k b → W c = false) := by
  intro k
  induction k with
  | zero => intro b _ h; omega
  | succ k ih =>
    intro b hb hk
    rw [qs_top, qs_row]
    by_cases h0 : W b = true
    · rw [if_pos h0]
      refine ⟨h0, ?_, ?_⟩
      · split
        · exact List.mem_cons_self
        · exact List.mem_cons_self
      · rw [qs_bel, if_pos rfl]
        intro c hc
        exact absurd hc List.not_mem_nil
    · rw [if_neg h0]
      have h : ¬ b = rt := by
        intro e
        rw [e] at h0
        exact h0 hW
      rw [if_neg h]
      obtain ⟨h1, h2⟩ := hup b hb h
      obtain ⟨i1, i2, i3⟩ := ih (up b) h1 (by omega)
      refine ⟨i1, List.mem_cons_of_mem _ i2, ?_⟩
      rw [qs_bel, if_neg (fun e => h0 (by rw [e]; exact i1))]
      intro c hc
      rcases List.mem_cons.mp hc with e | e
      · rw [e]
        simpa using h0
      · exact i3 c e
theorem qs_ev_app {O : Nat → Prop} {mt : Nat → Nat} {b : List Nat} (hb : qs_ev O mt b) : ∀ (a : List Nat), qs_ev O mt a → qs_ev O mt (a ++ b)
  | [], _ => hb
  | [_], h => h.elim
  | x :: y :: t, h => ⟨h.1, h.2.1, qs_ev_app hb t h.2.2⟩
theorem qs_ev_len {O : Nat → Prop} {mt : Nat → Nat} : ∀ (a : List Nat), qs_ev O mt a → a.length % 2 = 0
  | [], _ => rfl
  | [_], h => h.elim
  | x :: y :: t, h => by
    have := qs_ev_len t h.2.2
    simp only [List.length_cons]
    omega
theorem qs_ev_mono {O P : Nat → Prop} {mt : Nat → Nat} (hOP : ∀ a, O a → P a) : ∀ (a : List Nat), qs_ev O mt a → qs_ev P mt a
  | [], _ => trivial
  | [_], h => h.elim
  | x :: y :: t, h => ⟨hOP x h.1, h.2.1, qs_ev_mono hOP t h.2.2⟩
/-- an inner one stands second in its pair: what comes before it and itself are pairs, and backward too -/
theorem qs_ev_pre {O P : Nat → Prop} {mt : Nat → Nat} (hmt : ∀ a, O a → mt a < 14 → mt (mt a) = a) : ∀ (a : List Nat), qs_ev O mt a → (∀ c, c ∈ a → P c ∧ c < 14) → ∀ m, ¬ O m → m ∈ a → a.Nodup →
    ∃ l, a = l ++ m :: (a.drop (l.length + 1)) ∧ a.takeWhile (fun c => c != m) = l ∧ qs_ev P mt (m :: l.reverse)
  | [], _, _, m, _, hm, _ => absurd hm List.not_mem_nil
  | [_], h, _, _, _, _, _ => h.elim
  | x :: y :: t, h, hP, m, hO, hm, hd => by
    obtain ⟨h1, h2, h3⟩ := h
    have hxm : x ≠ m := fun e => hO (e ▸ h1)
    have hxm2 : (x != m) = true := by simpa using hxm
    have hx := hP x List.mem_cons_self
    have hy := hP y (List.mem_cons_of_mem _ List.mem_cons_self)
    have hyx : mt y = x := by
      have := hmt x h1 (by rw [h2]; exact hy.2)
      rw [h2] at this
      exact this
    by_cases hym : y = m
    · refine ⟨[x], ?_, ?_, ?_⟩
      · rw [hym]
        rfl
      · rw [List.takeWhile_cons_of_pos (by exact hxm2), List.takeWhile_cons_of_neg (by simp [hym])]
      · rw [← hym]
        exact ⟨hy.1, hyx, trivial⟩
    · have hm2 : m ∈ t := by
        rcases List.mem_cons.mp hm with e | e
        · exact absurd e.symm hxm
        · rcases List.mem_cons.mp e with e | e
          · exact absurd e.symm hym
          · exact e
      obtain ⟨l, l1, l2, l3⟩ := qs_ev_pre hmt t h3 (fun c hc => hP c (List.mem_cons_of_mem _ (List.mem_cons_of_mem _ hc))) m hO hm2 (List.nodup_cons.mp (List.nodup_cons.mp hd).2).2
      refine ⟨x :: y :: l, ?_, ?_, ?_⟩
      · simp only [List.length_cons, List.drop_succ_cons, List.cons_append]
        exact congrArg (fun z => x :: y :: z) l1
      · rw [List.takeWhile_cons_of_pos (by exact hxm2), List.takeWhile_cons_of_pos (by simpa using hym), l2]
      · have e : m :: (x :: y :: l).reverse = (m :: l.reverse) ++ [y, x] := by
          simp
        rw [e]
        exact qs_ev_app (show qs_ev P mt [y, x] from ⟨hy.1, hyx, trivial⟩) _ l3
