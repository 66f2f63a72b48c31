/-! The most pairs: the greatest number, and how many pairings have it; the rules of this number. -/
/-- the greatest k with a value, and this value -/
def Tp (g : Nat → Nat) (m w : Nat) : Prop := 0 < w ∧ g m = w ∧ ∀ k, m < k → g k = 0
theorem Tp_one {g : Nat → Nat} {m w m1 w1 : Nat} (h : Tp g m w) (h' : Tp g m1 w1) : m = m1 ∧ w = w1 := by
  have e : m = m1 := by
    rcases Nat.lt_trichotomy m m1 with q | q | q
    · have a1 := h.2.2 m1 q
      have a2 := h'.2.1
      have a3 := h'.1
      omega
    · exact q
    · have a1 := h'.2.2 m q
      have a2 := h.2.1
      have a3 := h.1
      omega
  subst e
  exact ⟨rfl, h.2.1.symm.trans h'.2.1⟩
theorem Tp_cong {f g : Nat → Nat} {m w : Nat} (h : Tp f m w) (e : ∀ k, g k = f k) : Tp g m w := ⟨h.1, by rw [e, h.2.1], fun k hk => by rw [e, h.2.2 k hk]⟩
theorem Tp_add {f g : Nat → Nat} {m w m1 w1 : Nat} (h : Tp f m w) (h' : Tp g m1 w1) : Tp (fun k => f k + g k) (if m1 < m then m else m1) (if m = m1 then w + w1 else if m1 < m then w else w1) := by
  obtain ⟨h1, h2, h3⟩ := h
  obtain ⟨g1, g2, g3⟩ := h'
  rcases Nat.lt_trichotomy m m1 with q | q | q
  · rw [if_neg (by omega), if_neg (by omega), if_neg (by omega)]
    refine ⟨g1, ?_, fun k hk => ?_⟩
    · show f m1 + g m1 = w1
      rw [h3 m1 q, g2, Nat.zero_add]
    · show f k + g k = 0
      rw [h3 k (by omega), g3 k hk]
  · subst q
    rw [if_neg (Nat.lt_irrefl m), if_pos rfl]
    refine ⟨by omega, ?_, fun k hk => ?_⟩
    · show f m + g m = w + w1
      rw [h2, g2]
    · show f k + g k = 0
      rw [h3 k hk, g3 k hk]
  · rw [if_pos q, if_neg (by omega), if_pos q]
    refine ⟨h1, ?_, fun k hk => ?_⟩
    · show f m + g m = w
      rw [g3 m q, h2, Nat.add_zero]
    · show f k + g k = 0
      rw [h3 k hk, g3 k (by omega)]
theorem Tp_sh {g : Nat → Nat} {m w : Nat} (h : Tp g m w) : Tp (sh g) (m + 1) w := by
  refine ⟨h.1, h.2.1, fun k hk => ?_⟩
  cases k with
  | zero => omega
  | succ k => exact h.2.2 k (by omega)
def tk (g : Nat → Nat) : Nat → Nat
  | 0 => 0
  | n + 1 => if 0 < g (n + 1) then n + 1 else tk g n
theorem tk_ok {g : Nat → Nat} (h0 : 0 < g 0) : ∀ B, (∀ k, B < k → g k = 0) → Tp g (tk g B) (g (tk g B))
  | 0, h => ⟨h0, rfl, h⟩
  | B + 1, h => by
    unfold tk
    by_cases z : 0 < g (B + 1)
    · rw [if_pos z]
      exact ⟨z, rfl, h⟩
    · rw [if_neg z]
      exact tk_ok h0 B (fun k hk => by
        by_cases e : k = B + 1
        · rw [e]
          omega
        · exact h k (by omega))
/-- pairings of m that are all friends -/
def nb : Nat → Nat → Nat
  | 0 => fun k => if k = 0 then 1 else 0
  | 1 => fun k => if k = 0 then 1 else 0
  | m + 2 => fun k => nb (m + 1) k + (m + 1) * sh (nb m) k
theorem nb_zero : ∀ (m k : Nat), m < 2 * k → nb m k = 0
  | 0, k, h => if_neg (by omega)
  | 1, k, h => if_neg (by omega)
  | m + 2, k, h => by
    show nb (m + 1) k + (m + 1) * sh (nb m) k = 0
    rw [nb_zero (m + 1) k (by omega)]
    cases k with
    | zero => omega
    | succ k =>
      show 0 + (m + 1) * nb m k = 0
      rw [nb_zero m k (by omega), Nat.mul_zero]
theorem nb_lt8 : ∀ m, m < 15 → ∀ k, k < 8 → nb m k < 2 ^ 20 := by decide +kernel
theorem nb_lt {m : Nat} (h : m ≤ 14) (k : Nat) : nb m k < 2 ^ 20 := by
  by_cases z : k < 8
  · exact nb_lt8 m (by omega) k z
  · rw [nb_zero m k (by omega)]
    exact Nat.two_pow_pos 20
theorem qj {s j : Nat} (hs : s < 16384) (h : s.testBit j = true) : j < 14 := by
  rcases Nat.lt_or_ge j 14 with q | q
  · exact q
  · rw [Nat.testBit_lt_two_pow (Nat.lt_of_lt_of_le hs (show 2 ^ 14 ≤ 2 ^ j from Nat.pow_le_pow_right (by decide) q))] at h
    cases h
theorem qs_eq {X Y : Nat} (h : ∀ j, X.testBit j = true ↔ Y.testBit j = true) : X = Y := Nat.eq_of_testBit_eq (fun j => Bool.eq_iff_iff.mpr (h j))
theorem qs_lt {X Y : Nat} (hY : Y < 16384) (h : ∀ j, X.testBit j = true → Y.testBit j = true) : X < 16384 :=
  Nat.lt_pow_two_of_testBit X (n := 14) (fun i hi => by
    cases e : X.testBit i
    · rfl
    · have := qj hY (h i e)
      omega)
theorem qm_in {a b j : Nat} : (qb_dif a b).testBit j = true ↔ a.testBit j = true ∧ ¬ b.testBit j = true := by
  rw [qb_dif_bit, Bool.and_eq_true]
  simp
theorem qd_pc {s v : Nat} (h : s.testBit v = true) (hv : v < 14) : qb_pc (qd s v) + 1 = qb_pc s := by
  have h1 := fb_ct_drop s.testBit hv h
  have e : fb_ct (qd s v).testBit 14 = fb_ct (fun k => if k = v then false else s.testBit k) 14 := fb_ct_cong (fun k _ => by
    rw [qd_bit]
    by_cases z : k = v
    · rw [if_pos z, decide_eq_true z.symm, Bool.not_true, Bool.and_false]
    · rw [if_neg z, decide_eq_false (fun y => z y.symm), Bool.not_false, Bool.and_true])
  unfold qb_pc
  omega
theorem qb_pc0 {s : Nat} (hs : s < 16384) (h : ∀ j, ¬ s.testBit j = true) : s = 0 := qs_eq (fun j => ⟨fun y => absurd y (h j), fun y => by rw [Nat.zero_testBit] at y; cases y⟩)
theorem qb_pc_0 : qb_pc 0 = 0 := by decide +kernel
section QK
variable {al : Nat → Nat}
theorem qP_le : ∀ (t s : Nat), t ≤ 14 → (∀ j, s.testBit j = true → 14 - t ≤ j ∧ j < 14) → ∀ k, qP al t s k ≤ nb (qb_pc s) k := by
  intro t
  induction t with
  | zero =>
    intro s _ hs k
    have h0 : qb_pc s = 0 := fb_ct_zero.mpr (fun j _ => by
      cases e : s.testBit j
      · rfl
      · have := hs j e
        omega)
    rw [h0]
    exact Nat.le_refl _
  | succ t ih =>
    intro s ht hs k
    by_cases hp : s.testBit (13 - t) = true
    · rw [qP_in k hp]
      have hpc := qd_pc hp (by omega)
      have hs1 : ∀ j, (qd s (13 - t)).testBit j = true → 14 - t ≤ j ∧ j < 14 := fun j hj => by
        have h1 := qd_in.mp hj
        have h2 := hs j h1.1
        omega
      have i1 := ih (qd s (13 - t)) (by omega) hs1 k
      cases hm : qb_pc (qd s (13 - t)) with
      | zero =>
        rw [ts_zero]
        · rw [hm] at i1 hpc
          rw [← hpc]
          exact i1
        · intro q hq
          refine if_neg (fun w => ?_)
          rw [Bool.and_eq_true] at w
          have := fb_ct_zero.mp hm q hq
          rw [w.2] at this
          cases this
      | succ m =>
        have i2 : ts 14 (fun q => if (qe al (13 - t) q && (qd s (13 - t)).testBit q) = true then sh (qP al t (qd (qd s (13 - t)) q)) k else 0) ≤ fb_ct (fun q => qe al (13 - t) q && (qd s (13 - t)).testBit q) 14 * sh (nb m) k := by
          refine ts_le (c := fun q => qe al (13 - t) q && (qd s (13 - t)).testBit q) (fun q hq w => ?_)
          rw [Bool.and_eq_true] at w
          have h1 := qd_pc w.2 hq
          have h2 : qb_pc (qd (qd s (13 - t)) q) = m := by omega
          cases k with
          | zero => exact Nat.le_refl _
          | succ k =>
            have h3 := ih (qd (qd s (13 - t)) q) (by omega) (fun j hj => hs1 j (qd_in.mp hj).1) k
            rw [h2] at h3
            exact h3
        have i3 : fb_ct (fun q => qe al (13 - t) q && (qd s (13 - t)).testBit q) 14 ≤ m + 1 := by
          rw [← hm]
          refine fb_ct_sub (fun q _ w => ?_)
          rw [Bool.and_eq_true] at w
          exact w.2
        have i4 := Nat.mul_le_mul_right (sh (nb m) k) i3
        rw [hm] at i1 hpc
        rw [← hpc]
        show _ ≤ nb (m + 1) k + (m + 1) * sh (nb m) k
        omega
    · rw [qP_out hp]
      exact ih s (by omega) (fun j hj => by
        have h1 := hs j hj
        have h2 : j ≠ 13 - t := fun y => hp (y ▸ hj)
        omega) k
theorem qP_0 : ∀ t s, 0 < qP al t s 0
  | 0, _ => Nat.one_pos
  | t + 1, s => by
    by_cases hp : s.testBit (13 - t) = true
    · rw [qP_in 0 hp]
      have := qP_0 t (qd s (13 - t))
      omega
    · rw [qP_out hp]
      exact qP_0 t s
/-- the most pairs of a set, and how many pairings have them -/
def mF (al : Nat → Nat) (s : Nat) : Nat := tk (qP al 14 s) 7
def mW (al : Nat → Nat) (s : Nat) : Nat := qP al 14 s (mF al s)
theorem qP_b {s : Nat} (hs : s < 16384) (k : Nat) : qP al 14 s k ≤ nb (qb_pc s) k := qP_le 14 s (Nat.le_refl _) (fun j hj => ⟨by omega, qj hs hj⟩) k
theorem qFW {s : Nat} (hs : s < 16384) : Tp (qP al 14 s) (mF al s) (mW al s) :=
  tk_ok (qP_0 14 s) 7 (fun k hk => by
    have h1 := qP_b (al := al) hs k
    rw [nb_zero _ k (by have := qb_pc_le s; omega)] at h1
    omega)
theorem F_half {s : Nat} (hs : s < 16384) : 2 * mF al s ≤ qb_pc s := by
  refine Nat.le_of_not_lt (fun z => ?_)
  have h1 := qP_b (al := al) hs (mF al s)
  rw [nb_zero _ _ z] at h1
  have h2 := qFW (al := al) hs
  have h3 := h2.1
  have h4 := h2.2.1
  omega
theorem F_7 {s : Nat} (hs : s < 16384) : mF al s ≤ 7 := by
  have h1 := F_half (al := al) hs
  have h2 := qb_pc_le s
  omega
theorem W_lt {s : Nat} (hs : s < 16384) : mW al s < 2 ^ 20 := Nat.lt_of_le_of_lt (qP_b hs _) (nb_lt (qb_pc_le s) _)
theorem F_0 : mF al 0 = 0 := by
  have h := F_half (al := al) (s := 0) (by decide)
  rw [qb_pc_0] at h
  omega
theorem qP_v (he : ∀ a b, a < 14 → b < 14 → qe al a b = qe al b a) {s v : Nat} (hs : s < 16384) (hv : s.testBit v = true) (k : Nat) : qP al 14 s k = qP al 14 (qd s v) k + ts 14 (fun q => if (qe al v q && (qd s v).testBit q) = true then sh (qP al 14 (qd (qd s v) q)) k else 0) :=
  qP_any he 14 s v (Nat.le_refl _) (fun j hj => ⟨by omega, qj hs hj⟩) hv k
theorem F1 (he : ∀ a b, a < 14 → b < 14 → qe al a b = qe al b a) {s v : Nat} (hs : s < 16384) (hv : s.testBit v = true) : mF al (qd s v) ≤ mF al s := by
  refine Nat.le_of_not_lt (fun z => ?_)
  have h1 := qFW (al := al) (show qd s v < 16384 from qd_lt (n := 14) hs)
  have h2 := qFW (al := al) hs
  have e := qP_v he hs hv (mF al (qd s v))
  rw [h2.2.2 _ z] at e
  have h3 := h1.1
  have h4 := h1.2.1
  omega
theorem F2 (he : ∀ a b, a < 14 → b < 14 → qe al a b = qe al b a) {s v q : Nat} (hs : s < 16384) (hv : s.testBit v = true) (hq : s.testBit q = true) (hn : v ≠ q) (hvq : qe al v q = true) : mF al (qd (qd s v) q) + 1 ≤ mF al s := by
  refine Nat.le_of_not_lt (fun z => ?_)
  have h1 := qFW (al := al) (show qd (qd s v) q < 16384 from qd_lt (n := 14) (qd_lt (n := 14) hs))
  have h2 := qFW (al := al) hs
  have e := qP_v he hs hv (mF al (qd (qd s v) q) + 1)
  rw [h2.2.2 _ z] at e
  have g := ts_ge (f := fun o => if (qe al v o && (qd s v).testBit o) = true then sh (qP al 14 (qd (qd s v) o)) (mF al (qd (qd s v) q) + 1) else 0) (q := q) (n := 14) (qj hs hq)
  rw [hvq, qd_in.mpr ⟨hq, hn⟩, Bool.true_and, if_pos rfl] at g
  have h3 := h1.1
  have h4 : sh (qP al 14 (qd (qd s v) q)) (mF al (qd (qd s v) q) + 1) = mW al (qd (qd s v) q) := h1.2.1
  omega
theorem F3 (he : ∀ a b, a < 14 → b < 14 → qe al a b = qe al b a) {s v : Nat} (hs : s < 16384) (hv : s.testBit v = true) : mF al s = mF al (qd s v) ∨ ∃ q, (qd s v).testBit q = true ∧ qe al v q = true ∧ mF al s = mF al (qd (qd s v) q) + 1 := by
  have h1 := qFW (al := al) (show qd s v < 16384 from qd_lt (n := 14) hs)
  have h2 := qFW (al := al) hs
  have e := qP_v he hs hv (mF al s)
  have h3 := h2.1
  have h4 := h2.2.1
  by_cases z : 0 < qP al 14 (qd s v) (mF al s)
  · refine Or.inl (Nat.le_antisymm (Nat.le_of_not_lt (fun y => ?_)) (F1 he hs hv))
    rw [h1.2.2 _ y] at z
    omega
  · obtain ⟨q, q1, q2⟩ := ts_pos (show 0 < ts 14 (fun q => if (qe al v q && (qd s v).testBit q) = true then sh (qP al 14 (qd (qd s v) q)) (mF al s) else 0) by omega)
    by_cases c : (qe al v q && (qd s v).testBit q) = true
    · rw [if_pos c] at q2
      rw [Bool.and_eq_true] at c
      refine Or.inr ⟨q, c.2, c.1, ?_⟩
      have h5 := F2 he hs hv (qd_in.mp c.2).1 (qd_in.mp c.2).2 c.1
      have h6 := qFW (al := al) (show qd (qd s v) q < 16384 from qd_lt (n := 14) (qd_lt (n := 14) hs))
      cases hm : mF al s with
      | zero =>
        rw [hm] at q2
        exact absurd q2 (Nat.lt_irrefl 0)
      | succ j =>
        rw [hm] at q2 h5
        have q3 : 0 < qP al 14 (qd (qd s v) q) j := q2
        have h7 : j ≤ mF al (qd (qd s v) q) := Nat.le_of_not_lt (fun y => by
          rw [h6.2.2 _ y] at q3
          omega)
        omega
    · rw [if_neg c] at q2
      exact absurd q2 (Nat.lt_irrefl 0)
theorem F4 (he : ∀ a b, a < 14 → b < 14 → qe al a b = qe al b a) {s v : Nat} (hs : s < 16384) (hv : s.testBit v = true) : mF al s ≤ mF al (qd s v) + 1 := by
  rcases F3 he hs hv with h | ⟨q, q1, q2, q3⟩
  · omega
  · have := F1 he (show qd s v < 16384 from qd_lt (n := 14) hs) q1
    omega
theorem F_sub (he : ∀ a b, a < 14 → b < 14 → qe al a b = qe al b a) : ∀ (n X Y : Nat), qb_pc Y ≤ n → Y < 16384 → (∀ j, X.testBit j = true → Y.testBit j = true) → mF al X ≤ mF al Y := by
  intro n
  induction n with
  | zero =>
    intro X Y hn hY h
    rw [show X = Y from qs_eq (fun j => ⟨h j, fun y => absurd (qd_pc y (qj hY y)) (by omega)⟩)]
    exact Nat.le_refl _
  | succ n ih =>
    intro X Y hn hY h
    by_cases z : ∃ v, Y.testBit v = true ∧ ¬ X.testBit v = true
    · obtain ⟨v, v1, v2⟩ := z
      have h1 := qd_pc v1 (qj hY v1)
      have h2 := ih X (qd Y v) (by omega) (qd_lt (n := 14) hY) (fun j hj => qd_in.mpr ⟨h j hj, fun e => v2 (e ▸ hj)⟩)
      have h3 := F1 he hY v1
      omega
    · rw [show X = Y from qs_eq (fun j => ⟨h j, fun y => Classical.byContradiction (fun w => z ⟨j, y, w⟩)⟩)]
      exact Nat.le_refl _
theorem F_mono (he : ∀ a b, a < 14 → b < 14 → qe al a b = qe al b a) {X Y : Nat} (hY : Y < 16384) (h : ∀ j, X.testBit j = true → Y.testBit j = true) : mF al X ≤ mF al Y := F_sub he _ X Y (Nat.le_refl _) hY h
theorem dif_qd {X Y v : Nat} (hv : X.testBit v = true) : qb_dif (qd Y v) (qd X v) = qb_dif Y X := by
  refine qs_eq (fun j => ?_)
  rw [qm_in, qm_in, qd_in, qd_in]
  constructor
  · rintro ⟨⟨a, b⟩, c⟩
    exact ⟨a, fun y => c ⟨y, b⟩⟩
  · rintro ⟨a, b⟩
    exact ⟨⟨a, fun e => b (e ▸ hv)⟩, fun y => b y.1⟩
theorem dif_0 {X Y : Nat} (h : ∀ j, ¬ X.testBit j = true) : qb_dif Y X = Y := qs_eq (fun j => by
  rw [qm_in]
  exact ⟨fun y => y.1, fun y => ⟨y, h j⟩⟩)
theorem F_ge (he : ∀ a b, a < 14 → b < 14 → qe al a b = qe al b a) : ∀ (n X Y : Nat), qb_pc X ≤ n → Y < 16384 → (∀ j, X.testBit j = true → Y.testBit j = true) → mF al X + mF al (qb_dif Y X) ≤ mF al Y := by
  intro n
  induction n with
  | zero =>
    intro X Y hn hY h
    have h0 : ∀ j, ¬ X.testBit j = true := fun j y => absurd (qd_pc y (qj (qs_lt hY h) y)) (by omega)
    rw [dif_0 h0, qb_pc0 (qs_lt hY h) h0, F_0]
    omega
  | succ n ih =>
    intro X Y hn hY h
    have hX := qs_lt hY h
    by_cases z : ∃ v, X.testBit v = true
    · obtain ⟨v, v1⟩ := z
      have p1 := qd_pc v1 (qj hX v1)
      have hs1 : ∀ j, (qd X v).testBit j = true → (qd Y v).testBit j = true := fun j hj => qd_in.mpr ⟨h j (qd_in.mp hj).1, (qd_in.mp hj).2⟩
      rcases F3 he hX v1 with e | ⟨q, q1, q2, e⟩
      · have h1 := ih (qd X v) (qd Y v) (by omega) (qd_lt (n := 14) hY) hs1
        rw [dif_qd v1] at h1
        have h2 := F1 he hY (h v v1)
        omega
      · have p2 := qd_pc q1 (qj (qd_lt (n := 14) hX) q1)
        have h1 := ih (qd (qd X v) q) (qd (qd Y v) q) (by omega) (qd_lt (n := 14) (qd_lt (n := 14) hY)) (fun j hj => qd_in.mpr ⟨hs1 j (qd_in.mp hj).1, (qd_in.mp hj).2⟩)
        rw [dif_qd q1, dif_qd v1] at h1
        have h2 := F2 he hY (h v v1) (h q (qd_in.mp q1).1) (qd_in.mp q1).2 q2
        omega
    · have h0 : ∀ j, ¬ X.testBit j = true := fun j y => z ⟨j, y⟩
      rw [dif_0 h0, qb_pc0 hX h0, F_0]
      omega
theorem F_le (he : ∀ a b, a < 14 → b < 14 → qe al a b = qe al b a) : ∀ (n C Y : Nat), qb_pc C ≤ n → Y < 16384 → (∀ j, C.testBit j = true → Y.testBit j = true) → (∀ u q, C.testBit u = true → Y.testBit q = true → qe al u q = true → C.testBit q = true) → mF al Y ≤ mF al C + mF al (qb_dif Y C) := by
  intro n
  induction n with
  | zero =>
    intro C Y hn hY h hc
    have h0 : ∀ j, ¬ C.testBit j = true := fun j y => absurd (qd_pc y (qj (qs_lt hY h) y)) (by omega)
    rw [dif_0 h0]
    omega
  | succ n ih =>
    intro C Y hn hY h hc
    have hC := qs_lt hY h
    by_cases z : ∃ v, C.testBit v = true
    · obtain ⟨v, v1⟩ := z
      have p1 := qd_pc v1 (qj hC v1)
      have hs1 : ∀ j, (qd C v).testBit j = true → (qd Y v).testBit j = true := fun j hj => qd_in.mpr ⟨h j (qd_in.mp hj).1, (qd_in.mp hj).2⟩
      have hc1 : ∀ u q, (qd C v).testBit u = true → (qd Y v).testBit q = true → qe al u q = true → (qd C v).testBit q = true := fun u q a b c => qd_in.mpr ⟨hc u q (qd_in.mp a).1 (qd_in.mp b).1 c, (qd_in.mp b).2⟩
      rcases F3 he hY (h v v1) with e | ⟨q, q1, q2, e⟩
      · have h1 := ih (qd C v) (qd Y v) (by omega) (qd_lt (n := 14) hY) hs1 hc1
        rw [dif_qd v1] at h1
        have h2 := F1 he hC v1
        omega
      · have q3 : (qd C v).testBit q = true := qd_in.mpr ⟨hc v q v1 (qd_in.mp q1).1 q2, (qd_in.mp q1).2⟩
        have p2 := qd_pc q3 (qj (qd_lt (n := 14) hC) q3)
        have h1 := ih (qd (qd C v) q) (qd (qd Y v) q) (by omega) (qd_lt (n := 14) (qd_lt (n := 14) hY)) (fun j hj => qd_in.mpr ⟨hs1 j (qd_in.mp hj).1, (qd_in.mp hj).2⟩) (fun u o a b c => qd_in.mpr ⟨hc1 u o (qd_in.mp a).1 (qd_in.mp b).1 c, (qd_in.mp b).2⟩)
        rw [dif_qd q3, dif_qd v1] at h1
        have h2 := F2 he hC v1 (qd_in.mp q3).1 (qd_in.mp q3).2 q2
        omega
    · have h0 : ∀ j, ¬ C.testBit j = true := fun j y => z ⟨j, y⟩
      rw [dif_0 h0]
      omega
/-- of a set that is closed -/
theorem F_add (he : ∀ a b, a < 14 → b < 14 → qe al a b = qe al b a) {C Y : Nat} (hY : Y < 16384) (h : ∀ j, C.testBit j = true → Y.testBit j = true) (hc : ∀ u q, C.testBit u = true → Y.testBit q = true → qe al u q = true → C.testBit q = true) : mF al Y = mF al C + mF al (qb_dif Y C) :=
  Nat.le_antisymm (F_le he _ C Y (Nat.le_refl _) hY h hc) (F_ge he _ C Y (Nat.le_refl _) hY h)
end QK
