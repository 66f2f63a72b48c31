/-! A friendship turned; another RULE; the next subset; the smallest set that proves. -/
section QK
variable {al al2 : Nat → Nat}
theorem qP_set : ∀ (t s : Nat), t ≤ 14 → (∀ u v, s.testBit u = true → s.testBit v = true → qe al u v = qe al2 u v) → qP al t s = qP al2 t s
  | 0, _, _, _ => rfl
  | t + 1, s, ht, h => by
    funext k
    by_cases hp : s.testBit (13 - t) = true
    · rw [qP_in k hp, qP_in k hp, qP_set t (qd s (13 - t)) (by omega) (fun u v a b => h u v (qd_in.mp a).1 (qd_in.mp b).1)]
      congr 1
      refine ts_congr (fun q _ => ?_)
      by_cases z : (qd s (13 - t)).testBit q = true
      · rw [z, h _ q hp (qd_in.mp z).1, qP_set t (qd (qd s (13 - t)) q) (by omega) (fun u v a b => h u v (qd_in.mp (qd_in.mp a).1).1 (qd_in.mp (qd_in.mp b).1).1)]
      · have zf : (qd s (13 - t)).testBit q = false := by simpa using z
        rw [zf, Bool.and_false, Bool.and_false, if_neg (by decide), if_neg (by decide)]
    · rw [qP_out hp, qP_out hp, qP_set t s (by omega) h]
theorem mF_set {s : Nat} (h : ∀ u v, s.testBit u = true → s.testBit v = true → qe al u v = qe al2 u v) : mF al s = mF al2 s ∧ mW al s = mW al2 s := by
  have e := qP_set 14 s (Nat.le_refl _) h
  unfold mW mF
  rw [e]
  exact ⟨rfl, rfl⟩
/-- al has the friendship of a and b, al2 hasn't -/
theorem tog_P (he : ∀ a b, a < 14 → b < 14 → qe al a b = qe al b a) (he2 : ∀ a b, a < 14 → b < 14 → qe al2 a b = qe al2 b a) {s a b : Nat} (hs : s < 16384) (ha : s.testBit a = true) (hb : s.testBit b = true) (hab : a ≠ b) (h1 : qe al a b = true) (h2 : qe al2 a b = false)
    (hsame : ∀ u v, u < 14 → v < 14 → ¬ (u = a ∧ v = b) → ¬ (u = b ∧ v = a) → qe al u v = qe al2 u v) (k : Nat) : qP al 14 s k = qP al2 14 s k + sh (qP al2 14 (qd (qd s a) b)) k := by
  have hsub : ∀ X, (∀ j, X.testBit j = true → s.testBit j = true ∧ a ≠ j) → qP al 14 X = qP al2 14 X := fun X h => qP_set 14 X (Nat.le_refl _) (fun u v x y => hsame u v (qj hs (h u x).1) (qj hs (h v y).1) (fun w => (h u x).2 w.1.symm) (fun w => (h v y).2 w.2.symm))
  rw [qP_v he hs ha k, qP_v he2 hs ha k, hsub (qd s a) (fun j hj => qd_in.mp hj), Nat.add_assoc]
  congr 1
  refine ts_upd (i := b) (qj hs hb) (fun q hq hn => ?_) ?_ ?_
  · rw [hsame a q (qj hs ha) hq (fun w => hn w.2) (fun w => hab w.1), hsub (qd (qd s a) q) (fun j hj => qd_in.mp (qd_in.mp hj).1)]
  · rw [h2]
    rfl
  · rw [h1, qd_in.mpr ⟨hb, hab⟩, Bool.and_self, if_pos rfl, hsub (qd (qd s a) b) (fun j hj => qd_in.mp (qd_in.mp hj).1)]
theorem tog_F (he : ∀ a b, a < 14 → b < 14 → qe al a b = qe al b a) (he2 : ∀ a b, a < 14 → b < 14 → qe al2 a b = qe al2 b a) {s a b : Nat} (hs : s < 16384) (ha : s.testBit a = true) (hb : s.testBit b = true) (hab : a ≠ b) (h1 : qe al a b = true) (h2 : qe al2 a b = false)
    (hsame : ∀ u v, u < 14 → v < 14 → ¬ (u = a ∧ v = b) → ¬ (u = b ∧ v = a) → qe al u v = qe al2 u v) :
    mF al s = (if mF al2 (qd (qd s a) b) + 1 < mF al2 s then mF al2 s else mF al2 (qd (qd s a) b) + 1) ∧ mW al s = (if mF al2 s = mF al2 (qd (qd s a) b) + 1 then mW al2 s + mW al2 (qd (qd s a) b) else if mF al2 (qd (qd s a) b) + 1 < mF al2 s then mW al2 s else mW al2 (qd (qd s a) b)) ∧
    mF al (qd (qd s a) b) = mF al2 (qd (qd s a) b) ∧ mW al (qd (qd s a) b) = mW al2 (qd (qd s a) b) := by
  have h3 := Tp_add (qFW (al := al2) hs) (Tp_sh (qFW (al := al2) (s := qd (qd s a) b) (qd_14 (qd_14 hs))))
  have h4 := Tp_one (qFW (al := al) hs) (Tp_cong h3 (fun k => tog_P he he2 hs ha hb hab h1 h2 hsame k))
  have h5 := mF_set (al := al) (al2 := al2) (s := qd (qd s a) b) (fun u v x y => by
    have x1 := qd_in.mp (qd_in.mp x).1
    have y1 := qd_in.mp (qd_in.mp y).1
    exact hsame u v (qj hs x1.1) (qj hs y1.1) (fun w => x1.2 w.1.symm) (fun w => y1.2 w.2.symm))
  exact ⟨h4.1, h4.2, h5.1, h5.2⟩
theorem F_more (he : ∀ a b, a < 14 → b < 14 → qe al a b = qe al b a) (he2 : ∀ a b, a < 14 → b < 14 → qe al2 a b = qe al2 b a) (h : ∀ u v, qe al u v = true → qe al2 u v = true) : ∀ (n s : Nat), qb_pc s ≤ n → s < 16384 → mF al s ≤ mF al2 s := by
  intro n
  induction n with
  | zero =>
    intro s hn hs
    rw [qb_pc0 hs (fun j y => absurd (qd_pc y (qj hs y)) (by omega)), F_0]
    exact Nat.zero_le _
  | succ n ih =>
    intro s hn hs
    by_cases z : s = 0
    · rw [z, F_0]
      exact Nat.zero_le _
    · have hl := lo_in hs z
      have p1 := qd_pc hl (qj hs hl)
      rcases F3 he hs hl with e | ⟨q, q1, q2, e⟩
      · have a1 := ih (qd s (qb_lo s)) (by omega) (qd_14 hs)
        have a2 := F1 he2 hs hl
        omega
      · have p2 := qd_pc q1 (qj (qd_14 hs) q1)
        have a1 := ih (qd (qd s (qb_lo s)) q) (by omega) (qd_14 (qd_14 hs))
        have a2 := F2 he2 hs hl (qd_in.mp q1).1 (qd_in.mp q1).2 (h _ _ q2)
        omega
end QK
theorem mod_s (x k : Nat) : x % 2 ^ (k + 1) = x % 2 ^ k + (if x.testBit k = true then 2 ^ k else 0) := by
  rw [Nat.mod_pow_succ, Nat.testBit_eq_decide_div_mod_eq]
  rcases Nat.mod_two_eq_zero_or_one (x / 2 ^ k) with h | h
  · simp [h]
  · simp [h]
theorem lt_bit {X Y i : Nat} (h0 : ¬ X.testBit i = true) (h1 : Y.testBit i = true) (h : ∀ j, i < j → X.testBit j = Y.testBit j) : X < Y := by
  have e : X / 2 ^ (i + 1) = Y / 2 ^ (i + 1) := Nat.eq_of_testBit_eq (fun j => by
    rw [Nat.testBit_div_two_pow, Nat.testBit_div_two_pow]
    exact h _ (by omega))
  have a := Nat.div_add_mod X (2 ^ (i + 1))
  have b := Nat.div_add_mod Y (2 ^ (i + 1))
  have c := Nat.mod_lt X (Nat.two_pow_pos i)
  rw [mod_s, if_neg h0, e] at a
  rw [mod_s, if_pos h1] at b
  generalize 2 ^ (i + 1) * (Y / 2 ^ (i + 1)) = Q at a b
  omega
/-- below the lowest of a set, less one -/
theorem qb_low1 {c i : Nat} (hc : c < 16384) (h0 : 0 < c) (hi : i < 14) : (c - 1).testBit i = (if i < qb_lo c then true else if i = qb_lo c then false else c.testBit i) := by
  obtain ⟨l1, l2, l3, l4, l5⟩ := qb_lw_ok hc h0
  have hm0 : c % 2 ^ qb_lo c = 0 := Nat.eq_of_testBit_eq (fun j => by
    rw [Nat.testBit_mod_two_pow, Nat.zero_testBit]
    by_cases z : j < qb_lo c
    · rw [show c.testBit j = false from fa_first_no c.testBit 14 j z, Bool.and_false]
    · rw [decide_eq_false z, Bool.false_and])
  have hm1 : c % 2 ^ (qb_lo c + 1) = 2 ^ qb_lo c := by
    rw [mod_s, hm0, if_pos l2, Nat.zero_add]
  have hdiv := Nat.div_add_mod c (2 ^ (qb_lo c + 1))
  rw [hm1] at hdiv
  have hp1 := Nat.two_pow_pos (qb_lo c)
  have hp2 := Nat.pow_lt_pow_right (a := 2) (by decide) (Nat.lt_succ_self (qb_lo c))
  have e : c - 1 = 2 ^ (qb_lo c + 1) * (c / 2 ^ (qb_lo c + 1)) + (2 ^ qb_lo c - 1) := by
    generalize 2 ^ (qb_lo c + 1) * (c / 2 ^ (qb_lo c + 1)) = Q at hdiv ⊢
    omega
  rw [e, Nat.testBit_two_pow_mul_add _ (show 2 ^ qb_lo c - 1 < 2 ^ (qb_lo c + 1) from Nat.lt_of_le_of_lt (Nat.sub_le _ _) hp2)]
  by_cases z : i < qb_lo c
  · rw [if_pos (by omega), if_pos z, Nat.testBit_two_pow_sub_one, decide_eq_true z]
  · rw [if_neg z]
    by_cases y : i = qb_lo c
    · rw [if_pos (by omega), if_pos y, Nat.testBit_two_pow_sub_one, decide_eq_false z]
    · rw [if_neg (by omega), if_neg y, Nat.testBit_div_two_pow, show i - (qb_lo c + 1) + (qb_lo c + 1) = i by omega]
/-- the next of the sets within o -/
def nx (o s : Nat) : Nat := qb_dif o (qb_dif o s - 1)
theorem nx_bit {o s j : Nat} (ho : o < 16384) (hs : ∀ j, s.testBit j = true → o.testBit j = true) (hn : ¬ s = o) : (nx o s).testBit j = true ↔ j = qb_lo (qb_dif o s) ∨ (qb_lo (qb_dif o s) < j ∧ s.testBit j = true) := by
  have hc : qb_dif o s < 16384 := dif_14 ho
  have h0 : ¬ qb_dif o s = 0 := fun y => hn (qs_eq (fun j => ⟨hs j, fun a => Classical.byContradiction (fun b => by
    have := qm_in.mpr ⟨a, b⟩
    rw [y, Nat.zero_testBit] at this
    cases this)⟩))
  obtain ⟨l1, l2, l3, l4, l5⟩ := qb_lw_ok hc (Nat.pos_of_ne_zero h0)
  unfold nx
  rw [qm_in]
  constructor
  · rintro ⟨a, b⟩
    rw [qb_low1 hc (Nat.pos_of_ne_zero h0) (qj ho a)] at b
    by_cases z : j < qb_lo (qb_dif o s)
    · rw [if_pos z] at b
      exact absurd rfl b
    · rw [if_neg z] at b
      by_cases y : j = qb_lo (qb_dif o s)
      · exact Or.inl y
      · rw [if_neg y] at b
        exact Or.inr ⟨by omega, Classical.byContradiction (fun w => b (qm_in.mpr ⟨a, w⟩))⟩
  · rintro (a | ⟨a, b⟩)
    · rw [a, qb_low1 hc (Nat.pos_of_ne_zero h0) l1, if_neg (Nat.lt_irrefl _), if_pos rfl]
      exact ⟨(qm_in.mp l2).1, by decide⟩
    · have hj := hs j b
      rw [qb_low1 hc (Nat.pos_of_ne_zero h0) (qj ho hj), if_neg (by omega), if_neg (by omega)]
      exact ⟨hj, fun w => (qm_in.mp w).2 b⟩
theorem add_dif {a b : Nat} (h : ∀ j, a.testBit j = true → b.testBit j = true) : ∀ k, a % 2 ^ k + qb_dif b a % 2 ^ k = b % 2 ^ k
  | 0 => by simp [Nat.mod_one]
  | k + 1 => by
    have ih := add_dif h k
    rw [mod_s a, mod_s (qb_dif b a), mod_s b, qb_dif_bit]
    have hk := h k
    cases x : a.testBit k
    · cases y : b.testBit k <;> simp <;> omega
    · rw [hk x]
      simp
      omega
theorem sub_dif {a b : Nat} (hb : b < 16384) (h : ∀ j, a.testBit j = true → b.testBit j = true) : a + qb_dif b a = b := by
  have h1 := add_dif h 14
  have ha : a < 16384 := qs_lt hb h
  rwa [Nat.mod_eq_of_lt ha, Nat.mod_eq_of_lt (dif_14 (c := a) hb), Nat.mod_eq_of_lt hb] at h1
theorem nx_int {o s : Nat} (ho : o < 16384) (hs : ∀ j, s.testBit j = true → o.testBit j = true) (hn : ¬ s = o) : (nI s - nI o) &&& nI o = nI (nx o s) := by
  have h1 := sub_dif ho hs
  have hlt := dif_14 (c := s) ho
  have h0 : 0 < qb_dif o s := Nat.pos_of_ne_zero (fun y => hn (by omega))
  have e : nI s - nI o = nI (2 ^ 32 - ((qb_dif o s - 1) + 1)) := by
    have e1 : nI o = nI s + nI (qb_dif o s) := by rw [nI_add, h1]
    have e2 : nI (2 ^ 32 - ((qb_dif o s - 1) + 1)) + nI (qb_dif o s) = 0 := by
      rw [nI_add, show 2 ^ 32 - (qb_dif o s - 1 + 1) + qb_dif o s = 2 ^ 32 by omega]
      decide
    have e3 : nI (2 ^ 32 - ((qb_dif o s - 1) + 1)) = -nI (qb_dif o s) := by
      rw [← Int32.add_left_inj (nI (qb_dif o s)), e2, Int32.add_left_neg]
    rw [e3, e1, ← Int32.sub_sub, Int32.sub_self, Int32.zero_sub]
  rw [e]
  apply b_ext
  intro i hi
  rw [b_and, qb_bt _ hi, qb_bt _ hi, qb_bt _ hi, Nat.testBit_two_pow_sub_succ (by omega)]
  unfold nx
  rw [qb_dif_bit, decide_eq_true hi, Bool.true_and, Bool.and_comm]
theorem topdiff {X Y : Nat} : ∀ n, (∀ j, n ≤ j → X.testBit j = Y.testBit j) → X = Y ∨ ∃ i, X.testBit i ≠ Y.testBit i ∧ ∀ j, i < j → X.testBit j = Y.testBit j
  | 0, h => Or.inl (Nat.eq_of_testBit_eq (fun j => h j (Nat.zero_le _)))
  | n + 1, h => by
    by_cases z : X.testBit n = Y.testBit n
    · exact topdiff n (fun j hj => by
        by_cases e : j = n
        · rw [e, z]
        · exact h j (by omega))
    · exact Or.inr ⟨n, z, fun j hj => h j (by omega)⟩
theorem nx_lt {o s : Nat} (ho : o < 16384) (hs : ∀ j, s.testBit j = true → o.testBit j = true) (hn : ¬ s = o) : s < nx o s := by
  have hc : qb_dif o s < 16384 := dif_14 ho
  have h1 := sub_dif ho hs
  obtain ⟨l1, l2, l3, l4, l5⟩ := qb_lw_ok hc (by omega)
  refine lt_bit (i := qb_lo (qb_dif o s)) ?_ ((nx_bit ho hs hn).mpr (Or.inl rfl)) (fun j hj => ?_)
  · have := (qm_in.mp l2).2
    simpa using this
  · rw [Bool.eq_iff_iff, nx_bit ho hs hn]
    exact ⟨fun h => Or.inr ⟨hj, h⟩, fun h => h.elim (fun e => absurd e (by omega)) (fun w => w.2)⟩
theorem nx_least {o s m : Nat} (ho : o < 16384) (hs : ∀ j, s.testBit j = true → o.testBit j = true) (hn : ¬ s = o) (hm : ∀ j, m.testBit j = true → o.testBit j = true) (h : s < m) : nx o s ≤ m := by
  have hc : qb_dif o s < 16384 := dif_14 ho
  have h1 := sub_dif ho hs
  obtain ⟨l1, l2, l3, l4, l5⟩ := qb_lw_ok hc (by omega)
  rcases topdiff (X := m) (Y := s) 14 (fun j hj => by
    have a : m.testBit j = false := by
      cases e : m.testBit j
      · rfl
      · have := qj ho (hm j e)
        omega
    have b : s.testBit j = false := by
      cases e : s.testBit j
      · rfl
      · have := qj ho (hs j e)
        omega
    rw [a, b]) with e | ⟨i, i1, i2⟩
  · omega
  · have hmi : m.testBit i = true := by
      cases e : m.testBit i
      · have e2 : s.testBit i = true := by
          cases y : s.testBit i
          · rw [e, y] at i1
            exact absurd rfl i1
          · rfl
        have := lt_bit (by rw [e]; decide) e2 i2
        omega
      · rfl
    have hsi : ¬ s.testBit i = true := fun y => i1 (by rw [hmi, y])
    have hci : (qb_dif o s).testBit i = true := qm_in.mpr ⟨hm i hmi, hsi⟩
    have hge : ¬ i < qb_lo (qb_dif o s) := fun y => by
      have := fa_first_no (qb_dif o s).testBit 14 i y
      rw [hci] at this
      cases this
    by_cases z : i = qb_lo (qb_dif o s)
    · refine pc_le_of (fun j hj => ?_)
      rcases (nx_bit ho hs hn).mp hj with w | ⟨w, v⟩
      · rw [w, ← z]
        exact hmi
      · rw [i2 j (by omega)]
        exact v
    · refine Nat.le_of_lt (lt_bit (i := i) ?_ hmi (fun j hj => ?_))
      · cases e : (nx o s).testBit i
        · decide
        · rcases (nx_bit ho hs hn).mp e with w | w
          · exact absurd w z
          · exact absurd w.2 hsi
      · rw [i2 j hj, Bool.eq_iff_iff, nx_bit ho hs hn]
        exact ⟨fun w => w.elim (fun e => absurd e (by omega)) (fun v => v.2), fun w => Or.inr ⟨by omega, w⟩⟩
/-- of the sets below m the best one: the fewest pupils, the smallest number; 16384: none -/
def sp (P : Nat → Bool) : Nat → Nat
  | 0 => 16384
  | m + 1 => if (sp P m = 16384 ∨ qb_pc m < qb_pc (sp P m)) ∧ P m = true then m else sp P m
theorem sp_skip {P : Nat → Bool} {m : Nat} : ∀ k, (∀ j, m ≤ j → j < m + k → ¬ P j = true) → sp P (m + k) = sp P m
  | 0, _ => rfl
  | k + 1, h => by
    rw [← Nat.add_assoc, sp, if_neg (fun w => h (m + k) (by omega) (by omega) w.2), sp_skip k (fun j a b => h j a (by omega))]
theorem sp_some {P : Nat → Bool} : ∀ m, sp P m = 16384 ∨ (sp P m < m ∧ P (sp P m) = true)
  | 0 => Or.inl rfl
  | m + 1 => by
    rw [sp]
    by_cases z : (sp P m = 16384 ∨ qb_pc m < qb_pc (sp P m)) ∧ P m = true
    · rw [if_pos z]
      exact Or.inr ⟨Nat.lt_succ_self m, z.2⟩
    · rw [if_neg z]
      rcases sp_some (P := P) m with h | h
      · exact Or.inl h
      · exact Or.inr ⟨by omega, h.2⟩
theorem sp_none {P : Nat → Bool} : ∀ m, m ≤ 16384 → sp P m = 16384 → ∀ j, j < m → ¬ P j = true
  | 0, _, _, j, hj => absurd hj (Nat.not_lt_zero j)
  | m + 1, hm, h, j, hj => by
    rw [sp] at h
    by_cases z : (sp P m = 16384 ∨ qb_pc m < qb_pc (sp P m)) ∧ P m = true
    · rw [if_pos z] at h
      omega
    · rw [if_neg z] at h
      by_cases e : j = m
      · rw [e]
        exact fun w => z ⟨Or.inl h, w⟩
      · exact sp_none m (by omega) h j (by omega)
theorem sp_stay {P : Nat → Bool} {m : Nat} (h : sp P m ≠ 16384) (h0 : qb_pc (sp P m) = 0) : ∀ k, sp P (m + k) = sp P m
  | 0 => rfl
  | k + 1 => by
    rw [← Nat.add_assoc, sp, sp_stay h h0 k, if_neg (fun w => by
      rcases w.1 with a | a
      · exact h a
      · omega)]
