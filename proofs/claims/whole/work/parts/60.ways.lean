/-! Ways as lists; a way is turned. -/
def qz (k : Nat) : Int32 := if k < 14 then nI k else -1
theorem qz_lt {k : Nat} (h : k < 14) : qz k = nI k := if_pos h
theorem qz_ge {k : Nat} (h : ¬ k < 14) : qz k = -1 := if_neg h
theorem qz_14 : qz 14 = -1 := rfl
/-- what may have changed -/
def qf (P : Nat → Prop) (M M' : qxM) : Prop := (∀ a, ¬ P a → M'.1 a = M.1 a) ∧ M'.2 = M.2
theorem qf_refl (P : Nat → Prop) (M : qxM) : qf P M M := ⟨fun _ _ => rfl, rfl⟩
theorem qf_trans {P : Nat → Prop} {M M1 M2 : qxM} (h : qf P M M1) (g : qf P M1 M2) : qf P M M2 := ⟨fun a ha => by rw [g.1 a ha, h.1 a ha], by rw [g.2, h.2]⟩
theorem qf_mono {P Q : Nat → Prop} {M M' : qxM} (h : qf P M M') (hPQ : ∀ a, P a → Q a) : qf Q M M' := ⟨fun a ha => h.1 a (fun q => ha (hPQ a q)), h.2⟩
theorem qf_up {P : Nat → Prop} (M : qxM) (t k : Nat) (v : Int32) (h : P t) : qf P M (qx_up M t k v) := ⟨fun a ha => qx_up_ne M k v (fun e => ha (e ▸ h)), rfl⟩
theorem qf_ur {P : Nat → Prop} (M : qxM) (t : Nat) (f : Nat → Int32) (h : P t) : qf P M (qx_ur M t f) := ⟨fun a ha => qx_ur_ne M f (fun e => ha (e ▸ h)), rfl⟩
theorem qx_up_at (M : qxM) (t k : Nat) (v : Int32) (a j : Nat) : (qx_up M t k v).1 a j = if a = t ∧ j = k then v else M.1 a j := rfl
/-- the ways at t -/
def qW (t : Nat) (M : qxM) (wy : Nat → List Nat) : Prop := ∀ p, p < 14 → (wy p).length ≤ 14 ∧ M.1 (t + 2) p = nI (wy p).length ∧ ∀ i, i < (wy p).length → M.1 (t + 1) (p * 14 + i) = nI ((wy p).getD i 0)
def qWf (t a : Nat) : Prop := a = t + 1 ∨ a = t + 2
theorem qW_fr {t : Nat} {M M' : qxM} {wy : Nat → List Nat} {P : Nat → Prop} (h : qW t M wy) (hf : qf P M M') (h1 : ¬ P (t + 1)) (h2 : ¬ P (t + 2)) : qW t M' wy := by
  intro p hp
  rw [hf.1 _ h1, hf.1 _ h2]
  exact h p hp
theorem qs_drop : ∀ (l : List Nat) (i b : Nat) (r : List Nat), l.drop i = b :: r → l.getD i 0 = b ∧ i < l.length ∧ l.drop (i + 1) = r
  | [], i, b, r, h => by simp at h
  | a :: l, 0, b, r, h => by
    simp only [List.drop_zero, List.cons.injEq] at h
    exact ⟨h.1, by simp, h.2⟩
  | a :: l, i + 1, b, r, h => by
    simp only [List.drop_succ_cons] at h
    obtain ⟨h1, h2, h3⟩ := qs_drop l i b r h
    exact ⟨by simpa using h1, by simpa using h2, by simpa using h3⟩
theorem qW_add {t p q : Nat} {M : qxM} {wy : Nat → List Nat} (h : qW t M wy) (hp : p < 14) (hl : (wy p).length < 14) : qW t (qx_up (qx_up M (t + 1) (p * 14 + (wy p).length) (nI q)) (t + 2) p (nI ((wy p).length + 1))) (qu wy p (wy p ++ [q])) := by
  intro o ho
  obtain ⟨h1, h2, h3⟩ := h o ho
  by_cases e : o = p
  · rw [e, qu_eq, List.length_append, List.length_singleton]
    refine ⟨by omega, ?_, ?_⟩
    · rw [qx_up_at, if_pos ⟨rfl, rfl⟩]
    · intro i hi
      rw [qx_up_at, if_neg (by omega), qx_up_at]
      rw [e] at h3
      by_cases ei : i = (wy p).length
      · rw [ei, if_pos ⟨rfl, rfl⟩]
        simp [List.getD_eq_getElem?_getD]
      · rw [if_neg (by omega), h3 i (by omega)]
        simp [List.getD_eq_getElem?_getD, List.getElem?_append_left (show i < (wy p).length by omega)]
  · rw [qu_ne _ _ e]
    refine ⟨h1, ?_, ?_⟩
    · rw [qx_up_at, if_neg (by omega), qx_up_at, if_neg (by omega), h2]
    · intro i hi
      have := h3 i hi
      rw [qx_up_at, if_neg (by omega), qx_up_at, if_neg (by omega), this]
section QL
variable {L : Nat} {xs : Nat → Int32} {d x : Nat}
theorem g89 {t p q : Nat} {M : qxM} {wy : Nat → List Nat} (hY : qx_Y t) (hp : p < 14) (h : qW t M wy) (hl : (wy p).length < 14) :
    ∃ M', Rs L xs (d + 1) 89 0 [some (.ref (t)), some (.int (nI p)), some (.int (nI q)), none] [] (M) x = some (.inl (none), M', x) ∧ qW t M' (qu wy p (wy p ++ [q])) ∧ qf (qWf t) M M' :=
  ⟨_, m89 hY hp (h p hp).2.1 hl, qW_add h hp hl, qf_trans (qf_up _ _ _ _ (Or.inl rfl)) (qf_up _ _ _ _ (Or.inr rfl))⟩
theorem g85 {t : Nat} {M : qxM} (hY : qx_Y t) : ∃ M', Rs L xs (d + 1) 85 0 [some (.ref (t))] [] (M) x = some (.inl (none), M', x) ∧ qW t M' (fun _ => []) ∧ qf (qWf t) M M' := by
  refine ⟨_, m85 hY, ?_, qf_ur _ _ _ (Or.inr rfl)⟩
  intro p hp
  refine ⟨Nat.zero_le _, ?_, fun i hi => absurd hi (Nat.not_lt_zero i)⟩
  rw [qx_ur_eq]
  exact if_pos hp
theorem qu_twice {α : Type} (f : Nat → α) (i : Nat) (a b : α) : qu (qu f i a) i b = qu f i b := by
  funext k
  unfold qu
  by_cases h : k = i
  · rw [if_pos h, if_pos h]
  · rw [if_neg h, if_neg h, if_neg h]
theorem qu_self {α : Type} (f : Nat → α) (i : Nat) : qu f i (f i) = f := by
  funext k
  unfold qu
  split
  · rename_i h
    rw [h]
  · rfl
theorem g90l {t p o : Nat} (hY : qx_Y t) (hp : p < 14) (ho : o < 14) (hpo : p ≠ o) : ∀ (r : List Nat) (i : Nat) (M : qxM) (wy : Nat → List Nat), (wy o).drop i = r → i ≤ (wy o).length → qW t M wy → (wy p).length + r.length ≤ 14 →
    ∃ M', Rs L xs (d + 2) 90 9 [some (.ref (t)), some (.int (nI p)), some (.int (nI o)), some (.int (nI (wy o).length)), some (.int (nI i))] [] (M) x = some (.inl (none), M', x) ∧ qW t M' (qu wy p (wy p ++ r)) ∧ qf (qWf t) M M' := by
  intro r
  induction r with
  | nil =>
    intro i M wy hr hil hW hl
    have hi : (wy o).length ≤ i := by
      have := congrArg List.length hr
      rw [List.length_drop, List.length_nil] at this
      omega
    have hlo := (hW o ho).1
    have h1 : (nI (wy o).length ≤ nI i) = True := by rw [show i = (wy o).length by omega]; exact eq_true (Int32.le_refl _)
    refine ⟨M, ?_, ?_, qf_refl _ _⟩
    · simp only [s90_0, s90_1, s90_2, s90_5i, s90_5r, s90_5n, s90_6, s90_7i, s90_7r, s90_7n, s90_9, s90_11, s90_12, s90_15, s90_16, s90_17, s90_18, s90_19, s90_21, s90_24, s90_27i, s90_27r, s90_27n, s90_33, h1, ↓reduceIte]
    · rw [List.append_nil, qu_self]
      exact hW
  | cons b r ih =>
    intro i M wy hr hil hW hl
    obtain ⟨d1, d2, d3⟩ := qs_drop _ _ _ _ hr
    have hlo := hW o ho
    have h1 : ¬ nI (wy o).length ≤ nI i := nI_ge (by omega) (by omega)
    rw [List.length_cons] at hl
    obtain ⟨M1, e1, w1, f1⟩ := g89 (L := L) (xs := xs) (d := d) (x := 0) (q := b) hY hp hW (by omega)
    have eo : qu wy p (wy p ++ [b]) o = wy o := qu_ne _ _ (Ne.symm hpo)
    obtain ⟨M2, e2, w2, f2⟩ := ih (i + 1) M1 (qu wy p (wy p ++ [b])) (by rw [eo]; exact d3) (by rw [eo]; omega) w1 (by rw [qu_eq, List.length_append, List.length_singleton]; omega)
    rw [eo] at e2
    rw [qu_eq, qu_twice, List.append_assoc, List.singleton_append] at w2
    refine ⟨M2, ?_, w2, qf_trans f1 f2⟩
    simp only [s90_0, s90_1, s90_2, s90_5i, s90_5r, s90_5n, s90_6, s90_7i, s90_7r, s90_7n, s90_9, s90_11, s90_12, s90_15, s90_16, s90_17, s90_18, s90_19, s90_21, s90_24, s90_27i, s90_27r, s90_27n, s90_33, h1, hY.1, m88 hY ho hlo.2.1 hlo.1 d2, hlo.2.2 i d2, d1, e1, List.length_cons, List.length_nil, Nat.zero_le, Nat.reduceAdd, Nat.reduceLeDiff, Option.bind_some, qx_kn_v, qx_kn_n, Nat.add_zero, ↓reduceIte, nI_add]
    rw [s90_30, e2]
theorem g90 {t p o : Nat} {M : qxM} {wy : Nat → List Nat} (hY : qx_Y t) (hp : p < 14) (ho : o < 14) (hpo : p ≠ o) (hW : qW t M wy) (hl : (wy p).length + (wy o).length ≤ 14) :
    ∃ M', Rs L xs (d + 2) 90 0 [some (.ref (t)), some (.int (nI p)), some (.int (nI o)), none, none] [] (M) x = some (.inl (none), M', x) ∧ qW t M' (qu wy p (wy p ++ wy o)) ∧ qf (qWf t) M M' := by
  obtain ⟨M1, e1, w1, f1⟩ := g90l (L := L) (xs := xs) (d := d) (x := x) hY hp ho hpo (wy o) 0 M wy (List.drop_zero) (Nat.zero_le _) hW hl
  refine ⟨M1, ?_, w1, f1⟩
  simp only [s90_0, s90_1, s90_2, s90_5i, s90_5r, s90_5n, s90_6, s90_7i, s90_7r, s90_7n, s90_11, s90_12, s90_15, s90_16, s90_17, s90_18, s90_19, s90_21, s90_24, s90_27i, s90_27r, s90_27n, s90_30, s90_33, hY.1, m87 hY ho, (hW o ho).2.1, List.length_cons, List.length_nil, Nat.zero_le, Nat.reduceAdd, Nat.reduceLeDiff, Option.bind_some, qx_kn_v, qx_kn_n, Nat.add_zero, ↓reduceIte]
  exact e1
end QL
