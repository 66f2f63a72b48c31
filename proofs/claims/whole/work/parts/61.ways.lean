/-! Ways: a way backward; the pairs of a way are turned. -/
theorem qi_pred (k : Nat) : nI (k + 1) + (-1) = nI k := by
  rw [← nI_add, Int32.add_assoc, show nI 1 + (-1) = 0 by decide, Int32.add_zero]
theorem qi_eq {a b : Nat} (ha : a < 2 ^ 31) (hb : b < 2 ^ 31) : (nI a = nI b) = (a = b) := by
  apply propext
  constructor
  · intro h
    have := congrArg Int32.toNatClampNeg h
    rw [nI_clamp ha, nI_clamp hb] at this
    exact this
  · intro h
    rw [h]
theorem qi_z1 : (nI 1 = 0) = False := by decide
theorem qi_z0 : (nI 0 = 0) = True := by decide
theorem qs_take (l : List Nat) (k : Nat) (h : k < l.length) : l.take (k + 1) = l.take k ++ [l.getD k 0] := by
  rw [List.take_succ, List.getD_eq_getElem?_getD, List.getElem?_eq_getElem h]
  rfl
theorem qs_getD_mem (l : List Nat) (k : Nat) (h : k < l.length) : l.getD k 0 ∈ l := by
  rw [List.getD_eq_getElem?_getD, List.getElem?_eq_getElem h]
  exact List.getElem_mem h
section QL
variable {L : Nat} {xs : Nat → Int32} {d x : Nat}
theorem g91c {t p o : Nat} (hY : qx_Y t) (hp : p < 14) (ho : o < 14) (hpo : p ≠ o) : ∀ (k : Nat) (M : qxM) (wy : Nat → List Nat), k ≤ (wy o).length → (∀ a, a ∈ wy o → a < 14) → qW t M wy → (wy p).length + k ≤ 14 →
    ∃ M', Rs L xs (d + 2) 91 11 [some (.ref (t)), some (.int (nI p)), some (.int (nI o)), some (.int (nI 1)), some (.int (nI k + (-1)))] [] (M) x = some (.inl (none), M', x) ∧ qW t M' (qu wy p (wy p ++ ((wy o).take k).reverse)) ∧ qf (qWf t) M M' := by
  intro k
  induction k with
  | zero =>
    intro M wy hk hel hW hl
    have h1 : (nI 0 + (-1) < 0) = True := by decide
    refine ⟨M, ?_, ?_, qf_refl _ _⟩
    · simp only [s91_0, s91_1i, s91_1r, s91_1n, s91_2, s91_3, s91_4, s91_7, s91_8, s91_9i, s91_9r, s91_9n, s91_11, s91_13, s91_16, s91_17, s91_20, s91_21, s91_22, s91_24, s91_27, s91_28, s91_31, s91_32, s91_35, s91_36i, s91_36r, s91_36n, s91_37, s91_38, s91_41, s91_42, s91_43, s91_44, s91_45, s91_47, s91_50, s91_53i, s91_53r, s91_53n, s91_59, h1, ↓reduceIte]
    · rw [List.take_zero, List.reverse_nil, List.append_nil, qu_self]
      exact hW
  | succ k ih =>
    intro M wy hk hel hW hl
    have hlo := hW o ho
    have h1 : ¬ nI k < 0 := nI_pos (by omega)
    have hel2 := hel _ (qs_getD_mem (wy o) k (by omega))
    obtain ⟨M1, e1, w1, f1⟩ := g89 (L := L) (xs := xs) (d := d) (x := 0) (q := (wy o).getD k 0) hY hp hW (by omega)
    have eo : qu wy p (wy p ++ [(wy o).getD k 0]) o = wy o := qu_ne _ _ (Ne.symm hpo)
    obtain ⟨M2, e2, w2, f2⟩ := ih M1 (qu wy p (wy p ++ [(wy o).getD k 0])) (by rw [eo]; omega) (by rw [eo]; exact hel) w1 (by rw [qu_eq, List.length_append, List.length_singleton]; omega)
    rw [qu_eq, qu_twice, eo, List.append_assoc, List.singleton_append] at w2
    refine ⟨M2, ?_, ?_, qf_trans f1 f2⟩
    · simp only [s91_0, s91_1i, s91_1r, s91_1n, s91_2, s91_3, s91_4, s91_7, s91_8, s91_9i, s91_9r, s91_9n, s91_11, s91_13, s91_16, s91_17, s91_20, s91_21, s91_22, s91_24, s91_27, s91_28, s91_31, s91_32, s91_35, s91_36i, s91_36r, s91_36n, s91_37, s91_38, s91_41, s91_42, s91_43, s91_44, s91_45, s91_47, s91_50, s91_53i, s91_53r, s91_53n, s91_59, qi_pred, qi_z1, h1, hY.1, m88 hY ho hlo.2.1 hlo.1 (show k < (wy o).length by omega), hlo.2.2 k (by omega), e1, List.length_cons, List.length_nil, Nat.zero_le, Nat.reduceAdd, Nat.reduceLeDiff, Option.bind_some, qx_kn_v, qx_kn_n, Nat.add_zero, ↓reduceIte]
      rw [s91_56, e2]
    · rw [qs_take _ _ (by omega), List.reverse_append, List.reverse_singleton, List.singleton_append]
      exact w2
theorem g91b {t p o : Nat} (hY : qx_Y t) (hp : p < 14) (ho : o < 14) (hpo : p ≠ o) : ∀ (k : Nat) (M : qxM) (wy : Nat → List Nat) (l1 l2 : List Nat), k ≤ (wy o).length → (∀ a, a ∈ wy o → a < 14) → (wy o).take k = l1 ++ p :: l2 → p ∉ l2 → qW t M wy → (wy p).length + l1.length + 1 ≤ 14 →
    ∃ M', Rs L xs (d + 2) 91 11 [some (.ref (t)), some (.int (nI p)), some (.int (nI o)), some (.int (nI 0)), some (.int (nI k + (-1)))] [] (M) x = some (.inl (none), M', x) ∧ qW t M' (qu wy p (wy p ++ (p :: l1.reverse))) ∧ qf (qWf t) M M' := by
  intro k
  induction k with
  | zero =>
    intro M wy l1 l2 hk hel ht h2 hW hl
    rw [List.take_zero] at ht
    simp at ht
  | succ k ih =>
    intro M wy l1 l2 hk hel ht h2 hW hl
    have hlo := hW o ho
    have h1 : ¬ nI k < 0 := nI_pos (by omega)
    have hel2 := hel _ (qs_getD_mem (wy o) k (by omega))
    have htk := qs_take (wy o) k (by omega)
    have hcp : (nI ((wy o).getD k 0) = nI p) = ((wy o).getD k 0 = p) := qi_eq (by omega) (by omega)
    rcases List.eq_nil_or_concat l2 with hn | ⟨l3, b, hb⟩
    · rw [hn, htk] at ht
      obtain ⟨q1, q2⟩ := List.append_inj' ht rfl
      have q3 : (wy o).getD k 0 = p := by simpa using q2
      obtain ⟨M1, e1, w1, f1⟩ := g89 (L := L) (xs := xs) (d := d) (x := 0) (q := p) hY hp hW (by omega)
      have eo : qu wy p (wy p ++ [p]) o = wy o := qu_ne _ _ (Ne.symm hpo)
      have hk1 : l1.length = k := by rw [← q1, List.length_take]; omega
      obtain ⟨M2, e2, w2, f2⟩ := g91c (L := L) (xs := xs) (d := d) (x := x) hY hp ho hpo k M1 (qu wy p (wy p ++ [p])) (by rw [eo]; omega) (by rw [eo]; exact hel) w1 (by rw [qu_eq, List.length_append, List.length_singleton]; omega)
      rw [qu_eq, qu_twice, eo, List.append_assoc, List.singleton_append, q1] at w2
      refine ⟨M2, ?_, w2, qf_trans f1 f2⟩
      simp only [s91_0, s91_1i, s91_1r, s91_1n, s91_2, s91_3, s91_4, s91_7, s91_8, s91_9i, s91_9r, s91_9n, s91_11, s91_13, s91_16, s91_17, s91_20, s91_21, s91_22, s91_24, s91_27, s91_28, s91_31, s91_32, s91_35, s91_36i, s91_36r, s91_36n, s91_37, s91_38, s91_41, s91_42, s91_43, s91_44, s91_45, s91_47, s91_50, s91_53i, s91_53r, s91_53n, s91_59, qi_pred, qi_z0, qi_z1, h1, hY.1, m88 hY ho hlo.2.1 hlo.1 (show k < (wy o).length by omega), hlo.2.2 k (by omega), q3, e1, List.length_cons, List.length_nil, Nat.zero_le, Nat.reduceAdd, Nat.reduceLeDiff, Option.bind_some, qx_kn_v, qx_kn_n, Nat.add_zero, ↓reduceIte]
      rw [s91_56, e2]
    · rw [List.concat_eq_append] at hb
      rw [hb, htk, ← List.cons_append, ← List.append_assoc] at ht
      obtain ⟨q1, q2⟩ := List.append_inj' ht rfl
      have q3 : (wy o).getD k 0 = b := by simpa using q2
      have q4 : ¬ b = p := fun e => h2 (by rw [hb, e]; exact List.mem_append_right _ List.mem_cons_self)
      obtain ⟨M2, e2, w2, f2⟩ := ih M wy l1 l3 (by omega) hel q1 (fun q => h2 (by rw [hb]; exact List.mem_append_left _ q)) hW hl
      refine ⟨M2, ?_, w2, f2⟩
      rw [q3] at hcp
      simp only [s91_0, s91_1i, s91_1r, s91_1n, s91_2, s91_3, s91_4, s91_7, s91_8, s91_9i, s91_9r, s91_9n, s91_11, s91_13, s91_16, s91_17, s91_20, s91_21, s91_22, s91_24, s91_27, s91_28, s91_31, s91_32, s91_35, s91_36i, s91_36r, s91_36n, s91_37, s91_38, s91_41, s91_42, s91_43, s91_44, s91_45, s91_47, s91_50, s91_53i, s91_53r, s91_53n, s91_59, qi_pred, qi_z0, qi_z1, h1, hY.1, m88 hY ho hlo.2.1 hlo.1 (show k < (wy o).length by omega), hlo.2.2 k (by omega), q3, hcp, q4, List.length_cons, List.length_nil, Nat.zero_le, Nat.reduceAdd, Nat.reduceLeDiff, Option.bind_some, qx_kn_v, qx_kn_n, Nat.add_zero, ↓reduceIte]
      rw [s91_56, e2]
theorem g91 {t p o : Nat} {M : qxM} {wy : Nat → List Nat} {l1 l2 : List Nat} (hY : qx_Y t) (hp : p < 14) (ho : o < 14) (hpo : p ≠ o) (hel : ∀ a, a ∈ wy o → a < 14) (ht : wy o = l1 ++ p :: l2) (h2 : p ∉ l2) (hW : qW t M wy) (hl : (wy p).length + l1.length + 1 ≤ 14) :
    ∃ M', Rs L xs (d + 2) 91 0 [some (.ref (t)), some (.int (nI p)), some (.int (nI o)), none, none] [] (M) x = some (.inl (none), M', x) ∧ qW t M' (qu wy p (wy p ++ (p :: l1.reverse))) ∧ qf (qWf t) M M' := by
  obtain ⟨M1, e1, w1, f1⟩ := g91b (L := L) (xs := xs) (d := d) (x := x) hY hp ho hpo (wy o).length M wy l1 l2 (Nat.le_refl _) hel (by rw [List.take_length]; exact ht) h2 hW hl
  refine ⟨M1, ?_, w1, f1⟩
  have hs : nI (wy o).length - nI 1 = nI (wy o).length + (-1) := by rw [Int32.sub_eq_add_neg]; rfl
  simp only [s91_0, s91_1i, s91_1r, s91_1n, s91_2, s91_3, s91_4, s91_7, s91_8, s91_9i, s91_9r, s91_9n, hY.1, m87 hY ho, (hW o ho).2.1, hs, List.length_cons, List.length_nil, Nat.zero_le, Nat.reduceAdd, Nat.reduceLeDiff, Option.bind_some, qx_kn_v, qx_kn_n, Nat.add_zero, ↓reduceIte]
  exact e1
/-- mates -/
def qMt (u : Nat) (M : qxM) (mt : Nat → Nat) : Prop := ∀ p, p < 14 → M.1 (u + 2) p = qz (mt p)
theorem qMt_up {u k z : Nat} {M : qxM} {mt : Nat → Nat} (h : qMt u M mt) : qMt u (qx_up M (u + 2) k (qz z)) (qu mt k z) := by
  intro p hp
  rw [qx_up_at]
  by_cases e : p = k
  · rw [if_pos ⟨rfl, e⟩, e, qu_eq]
  · rw [if_neg (by omega), qu_ne _ _ e, h p hp]
theorem qMt_fr {u : Nat} {M M' : qxM} {mt : Nat → Nat} {P : Nat → Prop} (h : qMt u M mt) (hf : qf P M M') (h1 : ¬ P (u + 2)) : qMt u M' mt := by
  intro p hp
  rw [hf.1 _ h1]
  exact h p hp
theorem g49 {u a b : Nat} {M : qxM} {mt : Nat → Nat} (hP : qx_P u) (ha : a < 14) (hb : b < 14) (h : qMt u M mt) :
    ∃ M', Rs L xs (d + 1) 49 0 [some (.ref (u)), some (.int (nI a)), some (.int (nI b))] [] (M) x = some (.inl (none), M', x) ∧ qMt u M' (qu (qu mt a b) b a) ∧ qf (fun k => k = u + 2) M M' := by
  refine ⟨_, m49 hP ha hb, ?_, qf_trans (qf_up _ _ _ _ rfl) (qf_up _ _ _ _ rfl)⟩
  rw [← qz_lt ha, ← qz_lt hb]
  exact qMt_up (qMt_up h)
theorem g52l {u t p : Nat} {wy : Nat → List Nat} (hP : qx_P u) (hY : qx_Y t) (hp : p < 14) (h1 : u + 2 ≠ t + 1) (h2 : u + 2 ≠ t + 2) : ∀ (r : List Nat) (i : Nat) (M : qxM) (mt : Nat → Nat), (wy p).drop i = r → i ≤ (wy p).length → r.length % 2 = 0 → (∀ a, a ∈ r → a < 14) → qMt u M mt → qW t M wy →
    ∃ M', Rs L xs (d + 2) 52 18 [some (.ref (u)), some (.ref (t)), some (.int (nI p)), some (.int (nI (wy p).length)), some (.int (nI i))] [] (M) x = some (.inl (none), M', x) ∧ qMt u M' (qs_jn mt r) ∧ qf (fun k => k = u + 2) M M'
  | [], i, M, mt, hr, hi, _, _, hm, hW => by
    have hw := hW p hp
    have hil : (wy p).length ≤ i := by
      have := congrArg List.length hr
      rw [List.length_drop, List.length_nil] at this
      omega
    have e1 : (nI (wy p).length ≤ nI (i + 1)) = True := by
      rw [show i = (wy p).length by omega]
      exact eq_true (Int32.le_of_lt (nI_lt (by omega) (by omega)))
    refine ⟨M, ?_, hm, qf_refl _ _⟩
    simp only [s52_0, s52_1, s52_4, s52_5, s52_6, s52_9, s52_10, s52_11, s52_14i, s52_14r, s52_14n, s52_15, s52_16i, s52_16r, s52_16n, s52_18, s52_20, s52_21, s52_22, s52_23, s52_26, s52_27, s52_28, s52_29, s52_31, s52_34, s52_35, s52_36, s52_38, s52_39, s52_40, s52_43, s52_46i, s52_46r, s52_46n, s52_52, nI_add, e1, ↓reduceIte]
  | [_], _, _, _, _, _, h, _, _, _ => by simp at h
  | b :: c :: r, i, M, mt, hr, hi, hev, hel, hm, hW => by
    have hw := hW p hp
    obtain ⟨d1, d2, d3⟩ := qs_drop _ _ _ _ hr
    obtain ⟨d4, d5, d6⟩ := qs_drop _ _ _ _ d3
    have e1 : ¬ nI (wy p).length ≤ nI (i + 1) := nI_ge (by omega) (by omega)
    obtain ⟨M1, g1, m1, f1⟩ := g49 (L := L) (xs := xs) (d := d) (x := 0) hP (hel b List.mem_cons_self) (hel c (List.mem_cons_of_mem _ List.mem_cons_self)) hm
    obtain ⟨M2, g2, m2, f2⟩ := g52l hP hY hp h1 h2 r (i + 2) M1 _ d6 (by omega) (by simp only [List.length_cons] at hev; omega) (fun a ha => hel a (List.mem_cons_of_mem _ (List.mem_cons_of_mem _ ha))) m1 (qW_fr hW f1 (fun q => h1 q.symm) (fun q => h2 q.symm))
    refine ⟨M2, ?_, ?_, qf_trans f1 f2⟩
    · simp only [s52_0, s52_1, s52_4, s52_5, s52_6, s52_9, s52_10, s52_11, s52_14i, s52_14r, s52_14n, s52_15, s52_16i, s52_16r, s52_16n, s52_18, s52_20, s52_21, s52_22, s52_23, s52_26, s52_27, s52_28, s52_29, s52_31, s52_34, s52_35, s52_36, s52_38, s52_39, s52_40, s52_43, s52_46i, s52_46r, s52_46n, s52_52, nI_add, e1, hY.1, hP.1, m88 hY hp hw.2.1 hw.1 d2, m88 hY hp hw.2.1 hw.1 d5, hw.2.2 i d2, hw.2.2 (i + 1) d5, d1, d4, g1, List.length_cons, List.length_nil, Nat.zero_le, Nat.reduceAdd, Nat.reduceLeDiff, Option.bind_some, qx_kn_v, qx_kn_n, Nat.add_zero, ↓reduceIte]
      rw [s52_49, g2]
    · rw [qs_jn]
      exact m2
theorem g52 {u t p : Nat} {M : qxM} {mt : Nat → Nat} {wy : Nat → List Nat} {r : List Nat} (hP : qx_P u) (hY : qx_Y t) (hp : p < 14) (h1 : u + 2 ≠ t + 1) (h2 : u + 2 ≠ t + 2) (hr : wy p = p :: r) (hev : r.length % 2 = 0) (hel : ∀ a, a ∈ r → a < 14) (hm : qMt u M mt) (hW : qW t M wy) :
    ∃ M', Rs L xs (d + 2) 52 0 [some (.ref (u)), some (.ref (t)), some (.int (nI p)), none, none] [] (M) x = some (.inl (none), M', x) ∧ qMt u M' (qs_jn (qu mt p 14) r) ∧ qf (fun k => k = u + 2) M M' := by
  have f0 : qf (fun k => k = u + 2) M (qx_up M (u + 2) p (qz 14)) := qf_up _ _ _ _ rfl
  have hW1 := qW_fr hW f0 (fun q => h1 q.symm) (fun q => h2 q.symm)
  obtain ⟨M1, g1, m1, f1⟩ := g52l (L := L) (xs := xs) (d := d) (x := x) hP hY hp h1 h2 r 1 (qx_up M (u + 2) p (qz 14)) (qu mt p 14) (by rw [hr]; rfl) (by rw [hr]; simp) hev hel (qMt_up hm) hW1
  refine ⟨M1, ?_, m1, qf_trans f0 f1⟩
  simp only [s52_0, s52_1, s52_4, s52_5, s52_6, s52_9, s52_10, s52_11, s52_14i, s52_14r, s52_14n, s52_15, s52_16i, s52_16r, s52_16n, s52_20, s52_21, s52_22, s52_23, s52_26, s52_27, s52_28, s52_29, s52_31, s52_34, s52_35, s52_36, s52_38, s52_39, s52_40, s52_43, s52_46i, s52_46r, s52_46n, s52_49, s52_52, hY.1, hP.1, ← qz_14, m174 hP.2.2.2.1 hP.2.2.2.2 hp (by decide), m87 hY hp, (hW1 p hp).2.1, List.length_cons, List.length_nil, Nat.zero_le, Nat.reduceAdd, Nat.reduceLeDiff, Option.bind_some, qx_kn_v, qx_kn_n, Nat.add_zero, ↓reduceIte]
  exact g1
end QL
