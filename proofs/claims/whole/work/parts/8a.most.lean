/-! The most pairs, as mathematics: how many pairings of a set have so many pairs. -/
def ts : Nat → (Nat → Nat) → Nat
  | 0, _ => 0
  | n + 1, f => ts n f + f n
theorem ts_congr {f g : Nat → Nat} : ∀ {n : Nat}, (∀ q, q < n → f q = g q) → ts n f = ts n g
  | 0, _ => rfl
  | n + 1, h => by
    rw [ts, ts, ts_congr (fun q hq => h q (by omega)), h n (by omega)]
theorem ts_add (f g : Nat → Nat) : ∀ n, ts n (fun q => f q + g q) = ts n f + ts n g
  | 0 => rfl
  | n + 1 => by
    rw [ts, ts, ts, ts_add f g n]
    omega
theorem ts_zero {f : Nat → Nat} : ∀ {n : Nat}, (∀ q, q < n → f q = 0) → ts n f = 0
  | 0, _ => rfl
  | n + 1, h => by
    rw [ts, ts_zero (fun q hq => h q (by omega)), h n (by omega)]
theorem ts_one {v c : Nat} : ∀ {n : Nat}, v < n → ts n (fun q => if q = v then c else 0) = c
  | 0, h => absurd h (Nat.not_lt_zero _)
  | n + 1, h => by
    rw [ts]
    by_cases z : n = v
    · rw [if_pos z, ts_zero (fun q hq => if_neg (by omega)), Nat.zero_add]
    · rw [if_neg z, ts_one (by omega), Nat.add_zero]
theorem ts_comm (D : Nat → Nat → Nat) (m : Nat) : ∀ n, ts n (fun q => ts m (fun r => D q r)) = ts m (fun r => ts n (fun q => D q r))
  | 0 => by
    rw [ts]
    exact (ts_zero (fun q _ => rfl)).symm
  | n + 1 => by
    rw [ts, ts_comm D m n, ← ts_add]
    rfl
theorem ts_pos {f : Nat → Nat} : ∀ {n : Nat}, 0 < ts n f → ∃ q, q < n ∧ 0 < f q
  | 0, h => absurd h (Nat.lt_irrefl 0)
  | n + 1, h => by
    rw [ts] at h
    by_cases z : 0 < f n
    · exact ⟨n, by omega, z⟩
    · obtain ⟨q, q1, q2⟩ := ts_pos (f := f) (n := n) (by omega)
      exact ⟨q, by omega, q2⟩
theorem ts_ge {f : Nat → Nat} {q : Nat} : ∀ {n : Nat}, q < n → f q ≤ ts n f
  | 0, h => absurd h (Nat.not_lt_zero _)
  | n + 1, h => by
    rw [ts]
    by_cases z : q = n
    · rw [z]
      omega
    · have := ts_ge (f := f) (q := q) (n := n) (by omega)
      omega
theorem ts_le {c : Nat → Bool} {g : Nat → Nat} {B : Nat} : ∀ {n : Nat}, (∀ q, q < n → c q = true → g q ≤ B) → ts n (fun q => if c q = true then g q else 0) ≤ fb_ct c n * B
  | 0, _ => Nat.zero_le _
  | n + 1, h => by
    have h1 := ts_le (c := c) (g := g) (B := B) (n := n) (fun q hq => h q (by omega))
    rw [ts, fb_ct_succ, Nat.add_mul]
    by_cases z : c n = true
    · rw [if_pos z, if_pos z, Nat.one_mul]
      have := h n (by omega) z
      omega
    · rw [if_neg z, if_neg z]
      omega
def sh (g : Nat → Nat) : Nat → Nat
  | 0 => 0
  | k + 1 => g k
/-- a set without one -/
def qd (s v : Nat) : Nat := qb_dif s (2 ^ v)
theorem qd_bit (s v j : Nat) : (qd s v).testBit j = (s.testBit j && !decide (v = j)) := by rw [qd, qb_dif_bit, qb_two]
theorem qd_in {s v j : Nat} : (qd s v).testBit j = true ↔ s.testBit j = true ∧ v ≠ j := by
  rw [qd_bit, Bool.and_eq_true]
  simp
theorem qd_comm (s a b : Nat) : qd (qd s a) b = qd (qd s b) a := by
  apply Nat.eq_of_testBit_eq
  intro j
  rw [qd_bit, qd_bit, qd_bit, qd_bit, Bool.and_assoc, Bool.and_assoc, Bool.and_comm (!decide (a = j))]
theorem qd_out {s v : Nat} (h : ¬ s.testBit v = true) : qd s v = s := by
  apply Nat.eq_of_testBit_eq
  intro j
  rw [qd_bit]
  by_cases z : v = j
  · rw [decide_eq_true z, ← z]
    cases y : s.testBit v
    · rfl
    · exact absurd y h
  · rw [decide_eq_false z, Bool.not_false, Bool.and_true]
theorem qd_self (s v : Nat) : ¬ (qd s v).testBit v = true := fun h => (qd_in.mp h).2 rfl
theorem qd_lt {s v n : Nat} (h : s < 2 ^ n) : qd s v < 2 ^ n := qb_dif_le h
/-- whether two are friends -/
def qe (al : Nat → Nat) (a b : Nat) : Bool := (al a).testBit b
/-- of those that are left: pairings of so many pairs -/
def qP (al : Nat → Nat) : Nat → Nat → Nat → Nat
  | 0 => fun _ k => if k = 0 then 1 else 0
  | t + 1 => fun s k => if s.testBit (13 - t) = true then qP al t (qd s (13 - t)) k + ts 14 (fun q => if (qe al (13 - t) q && (qd s (13 - t)).testBit q) = true then sh (qP al t (qd (qd s (13 - t)) q)) k else 0) else qP al t s k
section QK
variable {al : Nat → Nat}
theorem qP_in {t s : Nat} (k : Nat) (h : s.testBit (13 - t) = true) : qP al (t + 1) s k = qP al t (qd s (13 - t)) k + ts 14 (fun q => if (qe al (13 - t) q && (qd s (13 - t)).testBit q) = true then sh (qP al t (qd (qd s (13 - t)) q)) k else 0) := if_pos h
theorem qP_out {t s : Nat} (h : ¬ s.testBit (13 - t) = true) : qP al (t + 1) s = qP al t s := by
  funext k
  exact if_neg h
theorem sh_add (a : Nat → Nat) (c : Nat → Bool) (g : Nat → Nat → Nat) (k : Nat) : sh (fun j => a j + ts 14 (fun q => if c q = true then sh (g q) j else 0)) k = sh a k + ts 14 (fun q => if c q = true then sh (sh (g q)) k else 0) := by
  cases k with
  | zero =>
    rw [ts_zero]
    · rfl
    · intro q _
      split <;> rfl
  | succ k => rfl
theorem qP_any (he : ∀ a b, a < 14 → b < 14 → qe al a b = qe al b a) : ∀ (t s v : Nat), t ≤ 14 → (∀ j, s.testBit j = true → 14 - t ≤ j ∧ j < 14) → s.testBit v = true →
    ∀ k, qP al t s k = qP al t (qd s v) k + ts 14 (fun q => if (qe al v q && (qd s v).testBit q) = true then sh (qP al t (qd (qd s v) q)) k else 0) := by
  intro t
  induction t with
  | zero =>
    intro s v ht hs hv
    have := hs v hv
    omega
  | succ t ih =>
    intro s v ht hs hv k
    have hv14 := (hs v hv).2
    by_cases hp : s.testBit (13 - t) = true
    · by_cases hpv : 13 - t = v
      · rw [qP_in k hp]
        rw [hpv]
        have e1 : ∀ s' : Nat, ¬ s'.testBit v = true → qP al (t + 1) s' = qP al t s' := fun s' h => qP_out (by rw [hpv]; exact h)
        rw [e1 _ (qd_self s v)]
        congr 1
        apply ts_congr
        intro q hq
        rw [e1 _ (fun h => qd_self s v (qd_in.mp h).1)]
      · generalize hpd : 13 - t = p at hp hpv
        have hp14 : p < 14 := by omega
        have e0 : ∀ s' : Nat, ¬ s'.testBit p = true → qP al (t + 1) s' = qP al t s' := fun s' h => qP_out (by rw [hpd]; exact h)
        have e1 : ∀ (s' k : Nat), s'.testBit p = true → qP al (t + 1) s' k = qP al t (qd s' p) k + ts 14 (fun q => if (qe al p q && (qd s' p).testBit q) = true then sh (qP al t (qd (qd s' p) q)) k else 0) := fun s' k h => by
          have := qP_in (al := al) (t := t) (s := s') k (by rw [hpd]; exact h)
          rw [hpd] at this
          exact this
        have hs' : ∀ s' : Nat, (∀ j, s'.testBit j = true → s.testBit j = true ∧ p ≠ j) → ∀ j, s'.testBit j = true → 14 - t ≤ j ∧ j < 14 := by
          intro s' h j hj
          have h1 := h j hj
          have h2 := hs j h1.1
          omega
        have hvp : (qd s p).testBit v = true := qd_in.mpr ⟨hv, hpv⟩
        have i1 := ih (qd s p) v (by omega) (hs' _ (fun j hj => qd_in.mp hj)) hvp k
        -- the double sum
        generalize hD : (fun q r => if (qe al p q && qe al v r && (qd (qd s p) v).testBit q && (qd (qd s p) v).testBit r && !decide (q = r)) = true then sh (sh (qP al t (qd (qd (qd (qd s p) v) q) r))) k else 0) = D
        have hL : ∀ q, q < 14 → (if (qe al p q && (qd s p).testBit q) = true then sh (qP al t (qd (qd s p) q)) k else 0) =
            (if (qe al p q && (qd (qd s p) v).testBit q) = true then sh (qP al t (qd (qd (qd s p) v) q)) k else 0) + ((if q = v then (if qe al p v = true then sh (qP al t (qd (qd s p) v)) k else 0) else 0) + ts 14 (fun r => D q r)) := by
          intro q hq
          by_cases z : q = v
          · subst z
            have h1 : (qd (qd s p) q).testBit q = false := by
              cases y : (qd (qd s p) q).testBit q
              · rfl
              · exact absurd y (qd_self _ _)
            rw [hvp, h1, Bool.and_true, Bool.and_false, if_neg (show ¬ (false = true) by decide), if_pos rfl, Nat.zero_add, ts_zero]
            · rfl
            · intro r _
              rw [← hD]
              simp [h1]
          · have h1 : (qd (qd s p) v).testBit q = (qd s p).testBit q := by rw [qd_bit, decide_eq_false (fun y => z y.symm), Bool.not_false, Bool.and_true]
            rw [if_neg z, Nat.zero_add, h1]
            by_cases y : (qe al p q && (qd s p).testBit q) = true
            · rw [if_pos y, if_pos y]
              have hq2 := (Bool.and_eq_true _ _ ▸ y)
              have hvq : (qd (qd s p) q).testBit v = true := qd_in.mpr ⟨hvp, z⟩
              have i2 : qP al t (qd (qd s p) q) = fun k => qP al t (qd (qd (qd s p) q) v) k + ts 14 (fun r => if (qe al v r && (qd (qd (qd s p) q) v).testBit r) = true then sh (qP al t (qd (qd (qd (qd s p) q) v) r)) k else 0) := by
                funext k'
                exact ih (qd (qd s p) q) v (by omega) (hs' _ (fun j hj => qd_in.mp (qd_in.mp hj).1)) hvq k'
              rw [i2, sh_add (qP al t (qd (qd (qd s p) q) v)) (fun r => qe al v r && (qd (qd (qd s p) q) v).testBit r) (fun r => qP al t (qd (qd (qd (qd s p) q) v) r)), qd_comm (qd s p) q v]
              congr 1
              apply ts_congr
              intro r _
              rw [← hD]
              dsimp only
              rw [h1, hq2.1, hq2.2, Bool.true_and, Bool.and_true, qd_bit (qd (qd s p) v) q r, Bool.and_assoc]
            · rw [if_neg y, if_neg y, Nat.zero_add, ts_zero]
              intro r _
              rw [← hD]
              dsimp only
              rw [h1, if_neg]
              intro w
              apply y
              simp only [Bool.and_eq_true] at w ⊢
              exact ⟨w.1.1.1.1, w.1.1.2⟩
        have hR : ∀ r, r < 14 → (if (qe al v r && (qd s v).testBit r) = true then sh (qP al (t + 1) (qd (qd s v) r)) k else 0) =
            (if (qe al v r && (qd (qd s p) v).testBit r) = true then sh (qP al t (qd (qd (qd s p) v) r)) k else 0) + ((if r = p then (if qe al p v = true then sh (qP al t (qd (qd s p) v)) k else 0) else 0) + ts 14 (fun q => D q r)) := by
          intro r hr
          have hpv' : v ≠ p := fun h => hpv h.symm
          have hps : (qd s v).testBit p = true := qd_in.mpr ⟨hp, hpv'⟩
          by_cases z : r = p
          · subst z
            have h1 : (qd (qd s r) v).testBit r = false := by
              cases y : (qd (qd s r) v).testBit r
              · rfl
              · exact absurd (qd_in.mp y).1 (qd_self _ _)
            rw [hps, h1, Bool.and_true, Bool.and_false, if_neg (show ¬ (false = true) by decide), if_pos rfl, Nat.zero_add, ts_zero, e0 _ (qd_self _ _), qd_comm s v r, he v r hv14 hr, Nat.add_zero]
            intro q _
            rw [← hD]
            simp [h1]
          · have h1 : (qd (qd s p) v).testBit r = (qd s v).testBit r := by rw [qd_comm s p v, qd_bit (qd s v), decide_eq_false (fun y => z y.symm), Bool.not_false, Bool.and_true]
            rw [if_neg z, Nat.zero_add, h1]
            by_cases y : (qe al v r && (qd s v).testBit r) = true
            · rw [if_pos y, if_pos y]
              have hr2 := (Bool.and_eq_true _ _ ▸ y)
              have hpr : (qd (qd s v) r).testBit p = true := qd_in.mpr ⟨hps, z⟩
              have i2 : qP al (t + 1) (qd (qd s v) r) = fun k => qP al t (qd (qd (qd s v) r) p) k + ts 14 (fun q => if (qe al p q && (qd (qd (qd s v) r) p).testBit q) = true then sh (qP al t (qd (qd (qd (qd s v) r) p) q)) k else 0) := by
                funext k'
                exact e1 _ k' hpr
              rw [i2, sh_add (qP al t (qd (qd (qd s v) r) p)) (fun q => qe al p q && (qd (qd (qd s v) r) p).testBit q) (fun q => qP al t (qd (qd (qd (qd s v) r) p) q)), qd_comm (qd s v) r p, qd_comm s v p]
              congr 1
              apply ts_congr
              intro q _
              rw [← hD]
              dsimp only
              rw [h1, hr2.1, hr2.2, Bool.and_true, Bool.and_true, qd_bit (qd (qd s p) v) r q, qd_comm (qd (qd s p) v) r q, decide_eq_decide.mpr (show (r = q) ↔ (q = r) from ⟨Eq.symm, Eq.symm⟩), Bool.and_assoc]
            · rw [if_neg y, if_neg y, Nat.zero_add, ts_zero]
              intro q _
              rw [← hD]
              dsimp only
              rw [h1, if_neg]
              intro w
              apply y
              simp only [Bool.and_eq_true] at w ⊢
              exact ⟨w.1.1.1.2, w.1.2⟩
        rw [e1 s k hp, i1, ts_congr hL, ts_congr hR, ts_add, ts_add, ts_add, ts_add, ts_one hv14, ts_one hp14, ts_comm D 14 14, e1 (qd s v) k (qd_in.mpr ⟨hp, fun h => hpv h.symm⟩), qd_comm s v p]
        omega
    · have e0 : ∀ s' : Nat, (∀ j, s'.testBit j = true → s.testBit j = true) → qP al (t + 1) s' = qP al t s' := fun s' h => qP_out (fun y => hp (h _ y))
      rw [e0 s (fun j h => h), e0 (qd s v) (fun j h => (qd_in.mp h).1), ih s v (by omega) (fun j hj => by
        have h1 := hs j hj
        have h2 : j ≠ 13 - t := fun y => hp (y ▸ hj)
        omega) hv k]
      congr 1
      apply ts_congr
      intro q _
      rw [e0 (qd (qd s v) q) (fun j h => (qd_in.mp (qd_in.mp h).1).1)]
end QK
