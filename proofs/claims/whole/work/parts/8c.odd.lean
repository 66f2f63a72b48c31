/-! Pupils that may stay free; parts; odd parts prove the most pairs, and some set proves them. -/
section QK
variable {al : Nat → Nat}
theorem zb {j : Nat} : ¬ Nat.testBit 0 j = true := by
  rw [Nat.zero_testBit]
  decide
theorem qd_14 {s v : Nat} (h : s < 16384) : qd s v < 16384 := qd_lt (n := 14) h
theorem F_gal (he : ∀ a b, a < 14 → b < 14 → qe al a b = qe al b a) : ∀ (n s u w v : Nat), qb_pc s ≤ n → s < 16384 → s.testBit u = true → s.testBit w = true → s.testBit v = true → u ≠ w → v ≠ u → v ≠ w →
    mF al (qd (qd s u) w) = mF al s → mF al (qd s v) = mF al s → mF al (qd (qd s v) u) = mF al s ∨ mF al (qd (qd s v) w) = mF al s := by
  intro n
  induction n with
  | zero =>
    intro s u w v hn hs hu _ _ _ _ _ _ _
    exact absurd (qd_pc hu (qj hs hu)) (by omega)
  | succ n ih =>
    intro s u w v hn hs hu hw hv huw hvu hvw h1 h2
    have hT : qd (qd s u) w < 16384 := qd_14 (qd_14 hs)
    have hvT : (qd (qd s u) w).testBit v = true := qd_in.mpr ⟨qd_in.mpr ⟨hv, Ne.symm hvu⟩, Ne.symm hvw⟩
    have hsv : qd s v < 16384 := qd_14 hs
    have top : ∀ a b, mF al (qd (qd s a) b) ≤ mF al s := fun a b => F_mono he hs (fun j hj => (qd_in.mp (qd_in.mp hj).1).1)
    rcases F3 he hT hvT with e | ⟨v1, q1, q2, e⟩
    · refine Or.inl (Nat.le_antisymm (top _ _) ?_)
      have a : mF al (qd (qd (qd s u) w) v) ≤ mF al (qd (qd s v) u) := F_mono he (qd_14 hsv) (fun j hj => by
        have b1 := qd_in.mp hj
        have b2 := qd_in.mp b1.1
        have b3 := qd_in.mp b2.1
        exact qd_in.mpr ⟨qd_in.mpr ⟨b3.1, b1.2⟩, b3.2⟩)
      omega
    · have b1 := qd_in.mp q1
      have b2 := qd_in.mp b1.1
      have b3 := qd_in.mp b2.1
      have hv1 : (qd s v).testBit v1 = true := qd_in.mpr ⟨b3.1, b1.2⟩
      have a1 := F2 he hs hv b3.1 b1.2 q2
      rcases F3 he hsv hv1 with e2 | ⟨v2, r1, r2, e2⟩
      · omega
      · have c1 := qd_in.mp r1
        have hS : qd (qd s v) v1 < 16384 := qd_14 hsv
        have eS : qd (qd (qd (qd s v) v1) u) w = qd (qd (qd (qd s u) w) v) v1 := by
          rw [qd_comm (qd s v) v1 u, qd_comm s v u, qd_comm (qd (qd s u) v) v1 w, qd_comm (qd s u) v w]
        have a2 : mF al (qd (qd (qd (qd s v) v1) u) w) + 1 = mF al s := by
          rw [eS]
          omega
        have a3 : mF al (qd (qd (qd (qd s v) v1) u) w) ≤ mF al (qd (qd s v) v1) := F_mono he hS (fun j hj => (qd_in.mp (qd_in.mp hj).1).1)
        have hAu : (qd (qd s v) u).testBit v1 = true := qd_in.mpr ⟨hv1, b3.2⟩
        have hAw : (qd (qd s v) w).testBit v1 = true := qd_in.mpr ⟨hv1, b2.2⟩
        by_cases z1 : v2 = u
        · rw [z1] at c1 r2
          refine Or.inr (Nat.le_antisymm (top _ _) ?_)
          have a4 := F2 he (qd_14 hsv) hAw (show (qd (qd s v) w).testBit u = true from qd_in.mpr ⟨qd_in.mpr ⟨hu, hvu⟩, Ne.symm huw⟩) c1.2 r2
          rw [qd_comm (qd s v) w v1, qd_comm (qd (qd s v) v1) w u] at a4
          omega
        · by_cases z2 : v2 = w
          · rw [z2] at c1 r2
            refine Or.inl (Nat.le_antisymm (top _ _) ?_)
            have a4 := F2 he (qd_14 hsv) hAu (show (qd (qd s v) u).testBit w = true from qd_in.mpr ⟨qd_in.mpr ⟨hw, hvw⟩, huw⟩) c1.2 r2
            rw [qd_comm (qd s v) u v1] at a4
            omega
          · have p1 := qd_pc hv (qj hs hv)
            have p2 := qd_pc hv1 (qj hsv hv1)
            rcases ih (qd (qd s v) v1) u w v2 (by omega) hS (qd_in.mpr ⟨qd_in.mpr ⟨hu, hvu⟩, Ne.symm b3.2⟩) (qd_in.mpr ⟨qd_in.mpr ⟨hw, hvw⟩, Ne.symm b2.2⟩) r1 huw z1 z2 (by omega) (by omega) with i | i
            · refine Or.inl (Nat.le_antisymm (top _ _) ?_)
              have a4 := F2 he (qd_14 hsv) hAu (show (qd (qd s v) u).testBit v2 = true from qd_in.mpr ⟨c1.1, Ne.symm z1⟩) c1.2 r2
              rw [qd_comm (qd s v) u v1, qd_comm (qd (qd s v) v1) u v2] at a4
              omega
            · refine Or.inr (Nat.le_antisymm (top _ _) ?_)
              have a4 := F2 he (qd_14 hsv) hAw (show (qd (qd s v) w).testBit v2 = true from qd_in.mpr ⟨c1.1, Ne.symm z2⟩) c1.2 r2
              rw [qd_comm (qd s v) w v1, qd_comm (qd (qd s v) v1) w v2] at a4
              omega
theorem F_gap (he : ∀ a b, a < 14 → b < 14 → qe al a b = qe al b a) : ∀ (n s : Nat), qb_pc s ≤ n → s < 16384 → 2 * mF al s < qb_pc s → ∃ w, s.testBit w = true ∧ mF al (qd s w) = mF al s := by
  intro n
  induction n with
  | zero =>
    intro s hn hs h
    omega
  | succ n ih =>
    intro s hn hs h
    obtain ⟨v, v1, hv⟩ := fb_ct_pos.mp (show 0 < fb_ct s.testBit 14 from Nat.lt_of_le_of_lt (Nat.zero_le _) h)
    rcases F3 he hs hv with e | ⟨q, q1, q2, e⟩
    · exact ⟨v, hv, e.symm⟩
    · have p1 := qd_pc hv v1
      have p2 := qd_pc q1 (qj (qd_14 hs) q1)
      obtain ⟨w, w1, w2⟩ := ih (qd (qd s v) q) (by omega) (qd_14 (qd_14 hs)) (by omega)
      have b1 := qd_in.mp w1
      have b2 := qd_in.mp b1.1
      have b3 := qd_in.mp q1
      refine ⟨w, b2.1, Nat.le_antisymm (F1 he hs b2.1) ?_⟩
      have a4 := F2 he (qd_14 hs) (show (qd s w).testBit v = true from qd_in.mpr ⟨hv, Ne.symm b2.2⟩) (show (qd s w).testBit q = true from qd_in.mpr ⟨b3.1, Ne.symm b1.2⟩) b3.2 q2
      rw [qd_comm s w v, qd_comm (qd s v) w q] at a4
      omega
/-- whom one comes to within a set -/
def Rc (al : Nat → Nat) (s p x : Nat) : Prop := ∀ D : Nat → Prop, D p → (∀ u q, D u → s.testBit u = true → s.testBit q = true → qe al u q = true → D q) → D x
noncomputable def co (al : Nat → Nat) (s p : Nat) : Nat := qb_of (fun x => @decide (Rc al s p x) (Classical.propDecidable _)) 14
theorem co_in {s p x : Nat} : (co al s p).testBit x = true ↔ x < 14 ∧ Rc al s p x := by
  unfold co
  simp only [qb_of_bit, Bool.and_eq_true, decide_eq_true_eq]
theorem co_p {s p : Nat} (hs : s < 16384) (hp : s.testBit p = true) : (co al s p).testBit p = true := co_in.mpr ⟨qj hs hp, fun D h _ => h⟩
theorem co_s {s p x : Nat} (hp : s.testBit p = true) (h : (co al s p).testBit x = true) : s.testBit x = true := (co_in.mp h).2 (fun x => s.testBit x = true) hp (fun u q _ _ a _ => a)
theorem co_c {s p u q : Nat} (hs : s < 16384) (hp : s.testBit p = true) (h : (co al s p).testBit u = true) (hq : s.testBit q = true) (e : qe al u q = true) : (co al s p).testBit q = true :=
  co_in.mpr ⟨qj hs hq, fun D h1 h2 => h2 u q ((co_in.mp h).2 D h1 h2) (co_s hp h) hq e⟩
theorem co_m {s p x : Nat} (h : (co al s p).testBit x = true) (D : Nat → Prop) (h1 : D p) (h2 : ∀ u q, D u → s.testBit u = true → s.testBit q = true → qe al u q = true → D q) : D x := (co_in.mp h).2 D h1 h2
theorem co_eq {s p X : Nat} (x1 : X.testBit p = true) (x2 : ∀ x, X.testBit x = true → x < 14 ∧ Rc al s p x) (x3 : ∀ u q, X.testBit u = true → s.testBit u = true → s.testBit q = true → qe al u q = true → X.testBit q = true) : X = co al s p :=
  qs_eq (fun j => ⟨fun h => co_in.mpr (x2 j h), fun h => (co_in.mp h).2 (fun x => X.testBit x = true) x1 x3⟩)
/-- within a closed part of a set it is the same -/
theorem co_part {s l p : Nat} (h1 : ∀ j, l.testBit j = true → s.testBit j = true) (h2 : ∀ u q, l.testBit u = true → s.testBit q = true → qe al u q = true → l.testBit q = true) (hp : l.testBit p = true) : co al s p = co al l p := by
  refine qs_eq (fun j => ?_)
  rw [co_in, co_in]
  refine and_congr_right (fun _ => ⟨fun h D d1 d2 => ?_, fun h D d1 d2 => h D d1 (fun u q a b c e => d2 u q a (h1 u b) (h1 q c) e)⟩)
  exact (h (fun x => l.testBit x = true ∧ D x) ⟨hp, d1⟩ (fun u q a _ c e => ⟨h2 u q a.1 c e, d2 u q a.2 a.1 (h2 u q a.1 c e) e⟩)).2
theorem pc_dif {C s : Nat} (h : ∀ j, C.testBit j = true → s.testBit j = true) : qb_pc C + qb_pc (qb_dif s C) = qb_pc s := by
  unfold qb_pc
  rw [← fb_ct_or (fun k _ w => (qm_in.mp w.2).2 w.1)]
  refine fb_ct_cong (fun k _ => ?_)
  rw [qb_dif_bit]
  have := h k
  cases a : C.testBit k
  · cases b : s.testBit k <;> rfl
  · rw [this a]
    rfl
/-- how many odd parts, how many parts: so many at most -/
noncomputable def od (al : Nat → Nat) : Nat → Nat → Nat
  | 0, _ => 0
  | k + 1, s => if s = 0 then 0 else qb_pc (co al s (qb_lo s)) % 2 + od al k (qb_dif s (co al s (qb_lo s)))
theorem lo_in {s : Nat} (hs : s < 16384) (h0 : ¬ s = 0) : s.testBit (qb_lo s) = true := (qb_lw_ok hs (Nat.pos_of_ne_zero h0)).2.1
theorem dif_14 {s c : Nat} (hs : s < 16384) : qb_dif s c < 16384 := qb_dif_le (n := 14) hs
theorem od_w (he : ∀ a b, a < 14 → b < 14 → qe al a b = qe al b a) : ∀ (k s : Nat), s < 16384 → 2 * mF al s + od al k s ≤ qb_pc s
  | 0, s, hs => F_half hs
  | k + 1, s, hs => by
    unfold od
    by_cases z : s = 0
    · rw [if_pos z]
      exact F_half hs
    · rw [if_neg z]
      have hl := lo_in hs z
      have h1 := F_add he hs (fun j => co_s (al := al) hl) (fun u q a b c => co_c hs hl a b c)
      have h2 := od_w he k (qb_dif s (co al s (qb_lo s))) (dif_14 hs)
      have h3 := pc_dif (fun j => co_s (al := al) (x := j) hl)
      have h4 := F_half (al := al) (qs_lt hs (fun j => co_s (al := al) (x := j) hl))
      omega
theorem od_w2 (he : ∀ a b, a < 14 → b < 14 → qe al a b = qe al b a) (k : Nat) : ∀ (n A s : Nat), qb_pc A ≤ n → s < 16384 → (∀ j, A.testBit j = true → s.testBit j = true) → 2 * mF al s + od al k (qb_dif s A) ≤ qb_pc s + qb_pc A := by
  intro n
  induction n with
  | zero =>
    intro A s hn hs h
    rw [dif_0 (fun j y => absurd (qd_pc y (qj (qs_lt hs h) y)) (by omega))]
    have := od_w he k s hs
    omega
  | succ n ih =>
    intro A s hn hs h
    by_cases z : ∃ v, A.testBit v = true
    · obtain ⟨v, hv⟩ := z
      have p1 := qd_pc hv (qj hs (h v hv))
      have p2 := qd_pc (h v hv) (qj hs (h v hv))
      have h1 := ih (qd A v) (qd s v) (by omega) (qd_14 hs) (fun j hj => qd_in.mpr ⟨h j (qd_in.mp hj).1, (qd_in.mp hj).2⟩)
      rw [dif_qd hv] at h1
      have h2 := F4 he hs (h v hv)
      omega
    · rw [dif_0 (fun j y => z ⟨j, y⟩)]
      have := od_w he k s hs
      omega
/-- a part in which each may stay free -/
theorem F_one (he : ∀ a b, a < 14 → b < 14 → qe al a b = qe al b a) {s p : Nat} (hs : s < 16384) (hp : s.testBit p = true) (hf : ∀ v, (co al s p).testBit v = true → mF al (qd (co al s p) v) = mF al (co al s p)) : 2 * mF al (co al s p) + 1 = qb_pc (co al s p) := by
  have hC : co al s p < 16384 := qs_lt hs (fun j => co_s (al := al) (x := j) hp)
  have hpC := co_p (al := al) hs hp
  have key : ∀ x, (co al s p).testBit x = true → (co al s p).testBit x = true ∧ (x = p ∨ mF al (qd (qd (co al s p) p) x) < mF al (co al s p)) := by
    intro x hx
    refine co_m hx (fun x => (co al s p).testBit x = true ∧ (x = p ∨ mF al (qd (qd (co al s p) p) x) < mF al (co al s p))) ⟨hpC, Or.inl rfl⟩ ?_
    rintro u q ⟨u1, u2⟩ su sq e
    have hq := co_c hs hp u1 sq e
    refine ⟨hq, ?_⟩
    by_cases zq : q = p
    · exact Or.inl zq
    refine Or.inr ?_
    by_cases zu : u = p
    · rw [zu] at e
      have := F2 he hC hpC hq (Ne.symm zq) e
      omega
    · have u3 := u2.resolve_left zu
      by_cases zuq : q = u
      · rw [zuq]
        exact u3
      · refine Nat.lt_of_not_le (fun y => ?_)
        have y2 : mF al (qd (qd (co al s p) p) q) = mF al (co al s p) := Nat.le_antisymm (F_mono he hC (fun j hj => (qd_in.mp (qd_in.mp hj).1).1)) y
        rcases F_gal he _ (co al s p) p q u (Nat.le_refl _) hC hpC hq u1 (Ne.symm zq) zu (Ne.symm zuq) y2 (hf u u1) with i | i
        · rw [qd_comm] at i
          omega
        · have := F2 he hC u1 hq (Ne.symm zuq) e
          omega
  have h1 := hf p hpC
  have h2 := qd_pc hpC (qj hC hpC)
  have h3 : ¬ 2 * mF al (qd (co al s p) p) < qb_pc (qd (co al s p) p) := by
    intro y
    obtain ⟨w, w1, w2⟩ := F_gap he _ (qd (co al s p) p) (Nat.le_refl _) (qd_14 hC) y
    have b := qd_in.mp w1
    rcases (key w b.1).2 with r | r
    · exact b.2 r.symm
    · omega
  have h4 := F_half (al := al) (qd_14 (v := p) hC)
  omega
theorem rest_c (he : ∀ a b, a < 14 → b < 14 → qe al a b = qe al b a) {s C : Nat} (hs : s < 16384) (hc : ∀ u q, C.testBit u = true → s.testBit q = true → qe al u q = true → C.testBit q = true) {u q : Nat} (hu : (qb_dif s C).testBit u = true) (hq : s.testBit q = true) (e : qe al u q = true) : (qb_dif s C).testBit q = true := by
  have h1 := qm_in.mp hu
  refine qm_in.mpr ⟨hq, fun y => h1.2 (hc q u y h1.1 ?_)⟩
  rw [he q u (qj hs hq) (qj hs h1.1)]
  exact e
theorem dif_qd2 {s C v : Nat} : qb_dif (qd s v) C = qd (qb_dif s C) v := by
  refine qs_eq (fun j => ?_)
  rw [qm_in, qd_in, qd_in, qm_in]
  exact ⟨fun h => ⟨⟨h.1.1, h.2⟩, h.1.2⟩, fun h => ⟨⟨h.1.1, h.2⟩, h.1.2⟩⟩
/-- where each may stay free -/
theorem od_free (he : ∀ a b, a < 14 → b < 14 → qe al a b = qe al b a) : ∀ (k s : Nat), qb_pc s ≤ k → s < 16384 → (∀ v, s.testBit v = true → mF al (qd s v) = mF al s) → 2 * mF al s + od al k s = qb_pc s := by
  intro k
  induction k with
  | zero =>
    intro s hn hs _
    have := F_half (al := al) hs
    show 2 * mF al s + 0 = _
    omega
  | succ k ih =>
    intro s hn hs hf
    unfold od
    by_cases z : s = 0
    · rw [if_pos z, z, F_0, qb_pc_0]
    · rw [if_neg z]
      have hl := lo_in hs z
      have hsub : ∀ j, (co al s (qb_lo s)).testBit j = true → s.testBit j = true := fun j => co_s (al := al) hl
      have hcl : ∀ u q, (co al s (qb_lo s)).testBit u = true → s.testBit q = true → qe al u q = true → (co al s (qb_lo s)).testBit q = true := fun u q a b c => co_c hs hl a b c
      have hC : co al s (qb_lo s) < 16384 := qs_lt hs hsub
      have h1 := F_add he hs hsub hcl
      have h3 := pc_dif hsub
      have hlC := co_p (al := al) hs hl
      have p1 := qd_pc hlC (qj hC hlC)
      have hfC : ∀ v, (co al s (qb_lo s)).testBit v = true → mF al (qd (co al s (qb_lo s)) v) = mF al (co al s (qb_lo s)) := by
        intro v hv
        have a := F_add he (qd_14 (v := v) hs) (C := qd (co al s (qb_lo s)) v) (fun j hj => qd_in.mpr ⟨hsub j (qd_in.mp hj).1, (qd_in.mp hj).2⟩) (fun u q x y w => qd_in.mpr ⟨hcl u q (qd_in.mp x).1 (qd_in.mp y).1 w, (qd_in.mp y).2⟩)
        rw [dif_qd hv, hf v (hsub v hv)] at a
        omega
      have hfR : ∀ v, (qb_dif s (co al s (qb_lo s))).testBit v = true → mF al (qd (qb_dif s (co al s (qb_lo s))) v) = mF al (qb_dif s (co al s (qb_lo s))) := by
        intro v hv
        have hv2 := qm_in.mp hv
        have a := F_add he (qd_14 (v := v) hs) (C := co al s (qb_lo s)) (fun j hj => qd_in.mpr ⟨hsub j hj, fun e => hv2.2 (e ▸ hj)⟩) (fun u q x y w => hcl u q x (qd_in.mp y).1 w)
        rw [dif_qd2, hf v hv2.1] at a
        omega
      have h4 := F_one he hs hl hfC
      have h5 := ih (qb_dif s (co al s (qb_lo s))) (by omega) (dif_14 hs) hfR
      omega
theorem od_ex (he : ∀ a b, a < 14 → b < 14 → qe al a b = qe al b a) : ∀ (n s : Nat), qb_pc s ≤ n → s < 16384 → ∃ A, (∀ j, A.testBit j = true → s.testBit j = true) ∧ 2 * mF al s + od al 14 (qb_dif s A) = qb_pc s + qb_pc A := by
  intro n
  induction n with
  | zero =>
    intro s hn hs
    have h0 : s = 0 := qb_pc0 hs (fun j y => absurd (qd_pc y (qj hs y)) (by omega))
    refine ⟨0, fun j y => absurd y zb, ?_⟩
    rw [h0, F_0, qb_pc_0, dif_0 (fun j y => absurd y zb)]
    show 0 + od al 14 0 = 0
    unfold od
    rw [if_pos rfl]
  | succ n ih =>
    intro s hn hs
    by_cases z : ∃ v, s.testBit v = true ∧ ¬ mF al (qd s v) = mF al s
    · obtain ⟨v, v1, v2⟩ := z
      have p1 := qd_pc v1 (qj hs v1)
      obtain ⟨A, a1, a2⟩ := ih (qd s v) (by omega) (qd_14 hs)
      have hA : ¬ A.testBit v = true := fun y => (qd_in.mp (a1 v y)).2 rfl
      have hin : ∀ j, (A ||| 2 ^ v).testBit j = true ↔ A.testBit j = true ∨ v = j := fun j => by
        rw [Nat.testBit_or, qb_two, Bool.or_eq_true, decide_eq_true_eq]
      have hsub : ∀ j, (A ||| 2 ^ v).testBit j = true → s.testBit j = true := fun j hj => by
        rcases (hin j).mp hj with y | y
        · exact (qd_in.mp (a1 j y)).1
        · exact y ▸ v1
      have hvA : (A ||| 2 ^ v).testBit v = true := (hin v).mpr (Or.inr rfl)
      have e1 : qd (A ||| 2 ^ v) v = A := qs_eq (fun j => by
        rw [qd_in, hin]
        exact ⟨fun y => y.1.resolve_right y.2, fun y => ⟨Or.inl y, fun e => hA (e ▸ y)⟩⟩)
      have e2 : qb_dif s (A ||| 2 ^ v) = qb_dif (qd s v) A := by
        rw [← dif_qd (Y := s) hvA, e1]
      have p2 := qd_pc hvA (qj hs v1)
      rw [e1] at p2
      refine ⟨A ||| 2 ^ v, hsub, ?_⟩
      rw [e2]
      have h1 := F1 he hs v1
      have h2 := F4 he hs v1
      omega
    · refine ⟨0, fun j y => absurd y zb, ?_⟩
      rw [dif_0 (fun j y => absurd y zb), qb_pc_0]
      exact od_free he 14 s (qb_pc_le s) hs (fun v hv => Classical.byContradiction (fun y => z ⟨v, hv, y⟩))
/-- no pupil of a proof is loose -/
theorem od_tight (he : ∀ a b, a < 14 → b < 14 → qe al a b = qe al b a) {A s k v : Nat} (hs : s < 16384) (h : ∀ j, A.testBit j = true → s.testBit j = true) (e : 2 * mF al s + od al k (qb_dif s A) = qb_pc s + qb_pc A) (hv : A.testBit v = true) : mF al (qd s v) < mF al s := by
  have p1 := qd_pc hv (qj hs (h v hv))
  have p2 := qd_pc (h v hv) (qj hs (h v hv))
  have h1 := od_w2 he k _ (qd A v) (qd s v) (Nat.le_refl _) (qd_14 hs) (fun j hj => qd_in.mpr ⟨h j (qd_in.mp hj).1, (qd_in.mp hj).2⟩)
  rw [dif_qd hv] at h1
  omega
end QK
