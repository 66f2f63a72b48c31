/-! prepare, and what stands on valueOf. -/
/-- friends that may be told: each is the other's -/
def qAl (al : Nat → Nat) : Prop := (∀ a b, a < 14 → b < 14 → qe al a b = qe al b a) ∧ ∀ p, p < 14 → al p < 16384
def qTs (al : Nat → Nat) (st all : Nat) (M : qxM) : Prop := qTc al st M ∧ M.1 40 0 = nI all
section QK
variable {al al1 : Nat → Nat}
theorem qP_al (h : ∀ p, p < 14 → al p = al1 p) : ∀ t s, qP al t s = qP al1 t s
  | 0, _ => rfl
  | t + 1, s => by
    funext k
    unfold qP
    rw [qP_al h t, qP_al h t]
    have e : ∀ q, qe al (13 - t) q = qe al1 (13 - t) q := fun q => by
      unfold qe
      rw [h (13 - t) (by omega)]
    have e2 : ∀ q, qP al t (qd (qd s (13 - t)) q) = qP al1 t (qd (qd s (13 - t)) q) := fun q => qP_al h t _
    simp only [e, e2]
theorem mF_al (h : ∀ p, p < 14 → al p = al1 p) (s : Nat) : mF al s = mF al1 s := by
  unfold mF
  rw [qP_al h]
theorem mW_al (h : ∀ p, p < 14 → al p = al1 p) (s : Nat) : mW al s = mW al1 s := by
  unfold mW
  rw [qP_al h, mF_al h]
theorem qv_al (h : ∀ p, p < 14 → al p = al1 p) (s : Nat) : qv al s = qv al1 s := by
  unfold qv
  rw [mW_al h, mF_al h]
end QK
theorem qTc_fr {al : Nat → Nat} {st : Nat} {M M1 : qxM} (h : qTc al st M) (h1 : M1.1 41 = M.1 41) (h2 : M1.1 40 4 = M.1 40 4) (h3 : M1.1 42 = M.1 42) (h4 : M1.1 43 = M.1 43) : qTc al st M1 := by
  unfold qTc
  rw [h1, h2, h3, h4]
  exact h
section QL
variable {L : Nat} {xs : Nat → Int32} {al : Nat → Nat} {st all : Nat}
theorem m0l {d n r q st : Nat} {f al1 : Nat → Nat} (hr : r ≤ 2) (hq2 : q < 16384) (hf : ∀ p, p < 14 → f p < 16384) (hal1 : ∀ p, p < 14 → al1 p = qp_al r q (f p) p) (hst : st < 100000) : ∀ (k i x : Nat) (M : qxM) (b : Bool) (a5 : Option Value), i + k = 14 →
    M.1 101 2 = nI q → (∀ p, p < 14 → M.1 102 p = nI (f p)) → M.1 40 4 = nI st → (∀ p, p < 14 → M.1 41 p = nI (if p < i then al1 p else al p)) → (∀ p, p < 14 → al p < 16384) → (b = false → ∀ p, p < i → al p = al1 p) →
    ∃ M' b', Rs L xs (d + 2) 0 13 [some (.ref 40), some (.ref 101), some (.int (nI r)), some (.int (bI b)), some (.int (nI i)), a5] [] M x = some (.inl none, M', x) ∧ M'.1 40 4 = nI (if b' then st + 1 else st) ∧ M'.1 40 0 = M.1 40 0 ∧ (∀ p, p < 14 → M'.1 41 p = nI (al1 p)) ∧ (b' = false → ∀ p, p < 14 → al p = al1 p) ∧ qf (fun a => a = 40 ∨ a = 41) M M' := by
  obtain ⟨k1, k2, k3, _⟩ := qx_m40
  have hP : qx_P 101 := qx_T100.2.1
  intro k
  induction k with
  | zero =>
    intro i x M b a5 hi h2 h7 h4 h41 hal hb
    have e : i = 14 := by omega
    subst e
    have h1 : (nI 14 ≤ nI 14) = True := eq_true (Int32.le_refl _)
    have h41' : ∀ p, p < 14 → M.1 41 p = nI (al1 p) := fun p hp => by rw [h41 p hp, if_pos hp]
    cases b with
    | true =>
      refine ⟨qx_up M 40 4 (nI (st + 1)), true, ?_, ?_, ?_, ?_, fun h => absurd h (by decide), qf_up _ _ _ _ (Or.inl rfl)⟩
      · simp only [s0_13, s0_15, s0_17, s0_67, s0_68, s0_71, s0_72r, s0_72i, s0_73, s0_76, s0_77, s0_78, s0_81, h1, qbt, k1, h4, nI_add, ↓reduceIte]
      · simp [qx_up_at]
      · rw [qx_up_at, if_neg (by omega)]
      · intro p hp
        rw [qx_up_ne _ _ _ (by decide), h41' p hp]
    | false =>
      refine ⟨M, false, ?_, h4, rfl, h41', fun _ p hp => hb rfl p hp, qf_refl _ _⟩
      simp only [s0_13, s0_15, s0_17, s0_67, s0_68, s0_71, s0_72r, s0_72i, s0_73, s0_76, s0_77, s0_78, s0_81, h1, qbf, ↓reduceIte]
  | succ k ih =>
    intro i x M b a5 hi h2 h7 h4 h41 hal hb
    have hi14 : i < 14 := by omega
    have h1 : ¬ nI 14 ≤ nI i := nI_ge hi14 (by decide)
    have h43 := m43 (L := L) (xs := xs) (d := d) (x := 0) (M := M) hP hi14 hr h2 hq2 (h7 i hi14)
    rw [← hal1 i hi14] at h43
    have hlt1 : al1 i < 16384 := by
      rw [hal1 i hi14]
      exact qp_al_lt (hf i hi14)
    have hlt0 := hal i hi14
    have hold : M.1 41 i = nI (al i) := by rw [h41 i hi14, if_neg (Nat.lt_irrefl i)]
    have h9 := m9 (L := L) (xs := xs) (d := d + 1) (x := 0) (M := M) hi14 hold
    have h174 := m174 (L := L) (xs := xs) (d := d + 1) (x := 0) (M := M) (v := nI (al1 i)) k2 k3 hi14 (by decide)
    have heq : (nI (al i) = nI (al1 i)) = (al i = al1 i) := qi_eq (by omega) (by omega)
    have f1 : qf (fun a => a = 40 ∨ a = 41) M (qx_up M 41 i (nI (al1 i))) := qf_up _ _ _ _ (Or.inr rfl)
    have hnext : ∀ p, p < 14 → (qx_up M 41 i (nI (al1 i))).1 41 p = nI (if p < i + 1 then al1 p else al p) := fun p hp => by
      rw [qx_up_at]
      by_cases e : p = i
      · rw [if_pos ⟨rfl, e⟩, if_pos (by omega), e]
      · rw [if_neg (fun w => e w.2), h41 p hp]
        by_cases l : p < i
        · rw [if_pos l, if_pos (by omega)]
        · rw [if_neg l, if_neg (by omega)]
    have key : ∀ b1 : Bool, (b1 = false → b = false ∧ al i = al1 i) → ∃ M' b', Rs L xs (d + 2) 0 13 [some (.ref 40), some (.ref 101), some (.int (nI r)), some (.int (bI b1)), some (.int (nI (i + 1))), some (.int (nI (al1 i)))] [] (qx_up M 41 i (nI (al1 i))) x = some (.inl none, M', x) ∧ M'.1 40 4 = nI (if b' then st + 1 else st) ∧ M'.1 40 0 = M.1 40 0 ∧ (∀ p, p < 14 → M'.1 41 p = nI (al1 p)) ∧ (b' = false → ∀ p, p < 14 → al p = al1 p) ∧ qf (fun a => a = 40 ∨ a = 41) M M' := by
      intro b1 hb1
      obtain ⟨M', b', g, c1, c2, c3, c4, c5⟩ := ih (i + 1) x (qx_up M 41 i (nI (al1 i))) b1 (some (.int (nI (al1 i)))) (by omega) (by rw [qx_up_ne _ _ _ (by decide), h2]) (fun p hp => by rw [qx_up_ne _ _ _ (by decide), h7 p hp]) (by rw [qx_up_ne _ _ _ (by decide), h4]) hnext hal (fun h p hp => by
        obtain ⟨z1, z2⟩ := hb1 h
        by_cases e : p = i
        · rw [e, z2]
        · exact hb z1 p (by omega))
      exact ⟨M', b', g, c1, by rw [c2, qx_up_ne _ _ _ (by decide)], c3, c4, qf_trans f1 c5⟩
    cases b with
    | true =>
      obtain ⟨M', b', g, c⟩ := key true (fun h => absurd h (by decide))
      refine ⟨M', b', ?_, c⟩
      simp only [s0_13, s0_15, s0_17, s0_20, s0_21, s0_22, s0_24, s0_27i, s0_27r, s0_27n, s0_29, s0_30, s0_33, s0_34, s0_36, s0_39, s0_41, s0_44, s0_45, s0_48, s0_49i, s0_49r, s0_49n, s0_50, s0_51, s0_54, s0_56, s0_58, s0_61i, s0_61r, s0_61n, hP.1, h1, h43, qbt, k1, h9, h174, nI_add, List.length_cons, List.length_nil, Nat.zero_le, Nat.reduceAdd, Nat.reduceLeDiff, Option.bind_some, qx_kn_v, qx_kn_n, Nat.add_zero, Bool.false_eq_true, ↓reduceIte]
      rw [s0_64]
      exact g
    | false =>
      by_cases e : al i = al1 i
      · obtain ⟨M', b', g, c⟩ := key false (fun _ => ⟨rfl, e⟩)
        refine ⟨M', b', ?_, c⟩
        simp only [s0_13, s0_15, s0_17, s0_20, s0_21, s0_22, s0_24, s0_27i, s0_27r, s0_27n, s0_29, s0_30, s0_33, s0_34, s0_36, s0_39, s0_41, s0_44, s0_45, s0_48, s0_49i, s0_49r, s0_49n, s0_50, s0_51, s0_54, s0_56, s0_58, s0_61i, s0_61r, s0_61n, hP.1, h1, h43, qbf, k1, h9, h174, heq, e, nI_add, List.length_cons, List.length_nil, Nat.zero_le, Nat.reduceAdd, Nat.reduceLeDiff, Option.bind_some, qx_kn_v, qx_kn_n, Nat.add_zero, Bool.false_eq_true, ↓reduceIte]
        rw [s0_64]
        exact g
      · obtain ⟨M', b', g, c⟩ := key true (fun h => absurd h (by decide))
        refine ⟨M', b', ?_, c⟩
        simp only [s0_13, s0_15, s0_17, s0_20, s0_21, s0_22, s0_24, s0_27i, s0_27r, s0_27n, s0_29, s0_30, s0_33, s0_34, s0_36, s0_39, s0_41, s0_44, s0_45, s0_48, s0_49i, s0_49r, s0_49n, s0_50, s0_51, s0_54, s0_56, s0_58, s0_61i, s0_61r, s0_61n, hP.1, h1, h43, qbf, k1, h9, h174, heq, e, nI_add, List.length_cons, List.length_nil, Nat.zero_le, Nat.reduceAdd, Nat.reduceLeDiff, Option.bind_some, qx_kn_v, qx_kn_n, Nat.add_zero, Bool.false_eq_true, ↓reduceIte]
        rw [s0_64]
        exact g
theorem m0 {d x n r q : Nat} {f al1 : Nat → Nat} {M : qxM} (hn : M.1 101 0 = nI n) (hn14 : n ≤ 14) (hr : r ≤ 2) (hq : M.1 101 2 = nI q) (hq2 : q < 16384) (h7 : ∀ p, p < 14 → M.1 102 p = nI (f p)) (hf : ∀ p, p < 14 → f p < 16384) (hal1 : ∀ p, p < 14 → al1 p = qp_al r q (f p) p)
    (hst : st < 100000) (hal : ∀ p, p < 14 → al p < 16384) (hT : qTc al st M) : ∃ M' st', Rs L xs (d + 2) 0 0 [some (.ref 40), some (.ref 101), some (.int (nI r)), none, none, none] [] M x = some (.inl none, M', x) ∧ st' ≤ st + 1 ∧ qTs al1 st' (2 ^ n - 1) M' ∧ qf (fun a => a = 40 ∨ a = 41) M M' := by
  obtain ⟨k1, k2, k3, _⟩ := qx_m40
  have hP : qx_P 101 := qx_T100.2.1
  have h36 := m36 (L := L) (xs := xs) (d := d) (x := 0) (M := M) hP hn hn14
  obtain ⟨t1, t2, t3⟩ := hT
  obtain ⟨M', b', g, c1, c2, c3, c4, c5⟩ := m0l (L := L) (xs := xs) (d := d) (n := n) (al := al) hr hq2 hf hal1 hst 14 0 x (qx_up M 40 0 (nI (2 ^ n - 1))) false none (by omega) (by rw [qx_up_ne _ _ _ (by decide), hq]) (fun p hp => by rw [qx_up_ne _ _ _ (by decide), h7 p hp]) (by rw [qx_up_at, if_neg (by omega), t2]) (fun p hp => by rw [qx_up_ne _ _ _ (by decide), t1 p hp, if_neg (Nat.not_lt_zero p)]) hal (fun _ p hp => absurd hp (Nat.not_lt_zero p))
  have f0 : qf (fun a => a = 40 ∨ a = 41) M (qx_up M 40 0 (nI (2 ^ n - 1))) := qf_up _ _ _ _ (Or.inl rfl)
  have fa := qf_trans f0 c5
  refine ⟨M', if b' then st + 1 else st, ?_, by split <;> omega, ⟨⟨c3, c1, fun j hj => ?_⟩, ?_⟩, fa⟩
  · simp only [s0_0, s0_1i, s0_1r, s0_1n, s0_2, s0_3, s0_4, s0_7, s0_10, s0_11i, s0_11r, s0_11n, k1, hP.1, h36, List.length_cons, List.length_nil, Nat.zero_le, Nat.reduceAdd, Nat.reduceLeDiff, Option.bind_some, qx_kn_v, qx_kn_n, Nat.add_zero, Bool.false_eq_true, ↓reduceIte]
    exact g
  · obtain ⟨t, u1, u2, u3⟩ := t3 j hj
    refine ⟨t, by split <;> omega, ?_, fun ht => ?_⟩
    · rw [fa.1 43 (by decide), u2]
    · rw [fa.1 42 (by decide)]
      cases b' with
      | true =>
        rw [if_pos rfl] at ht
        omega
      | false =>
        rw [if_neg (by decide)] at ht
        rw [u3 ht, qv_al (c4 rfl)]
  · rw [c2, qx_up_at, if_pos ⟨rfl, rfl⟩]
theorem m5 {d x s : Nat} {M : qxM} (ha : qAl al) (hst : st < 100000) (hs : s < 16384) (hT : qTs al st all M) : ∃ M', Rs L xs (d + 17) 5 0 [some (.ref (40)), some (.int (nI s))] [] (M) x = some (.inl (some (.int (nI (mF al s)))), M', x) ∧ qTs al st all M' ∧ qf qMm M M' := by
  obtain ⟨M', g, c, f⟩ := m7 (L := L) (xs := xs) ha.1 ha.2 hst 14 d s 0 0 M (qb_pc_le s) hs (by have := qb_pc_le s; omega) hT.1
  have g' : Rs L xs (d + 16) 7 0 [some (.ref 40), some (.int (nI s)), some (.int (nI 0)), none, none, none, none, none, none] [] M 0 = some (.inl (some (.int (nI (1048576 * mF al s + mW al s)))), M', 0) := g
  have h0 : ¬ nI 1048576 = 0 := by decide
  refine ⟨M', ?_, ⟨c, by rw [f.1 40 (by unfold qMm; omega), hT.2]⟩, f⟩
  simp only [s5_0, s5_1, s5_2, s5_3, s5_6, s5_8, s5_9, g', qv_div (show mF al s ≤ 20 from Nat.le_trans (F_7 hs) (by decide)) (W_lt hs), h0, not_false_eq_true, ne_eq, List.length_cons, List.length_nil, Nat.zero_le, Nat.reduceAdd, Nat.reduceLeDiff, Option.bind_some, qx_kn_v, qx_kn_n, Nat.add_zero, Bool.false_eq_true, ↓reduceIte]
theorem m6 {d x s : Nat} {M : qxM} (ha : qAl al) (hst : st < 100000) (hs : s < 16384) (hT : qTs al st all M) : ∃ M', Rs L xs (d + 17) 6 0 [some (.ref (40)), some (.int (nI s))] [] (M) x = some (.inl (some (.int (nI (mW al s)))), M', x) ∧ qTs al st all M' ∧ qf qMm M M' := by
  obtain ⟨M', g, c, f⟩ := m7 (L := L) (xs := xs) ha.1 ha.2 hst 14 d s 0 0 M (qb_pc_le s) hs (by have := qb_pc_le s; omega) hT.1
  have g' : Rs L xs (d + 16) 7 0 [some (.ref 40), some (.int (nI s)), some (.int (nI 0)), none, none, none, none, none, none] [] M 0 = some (.inl (some (.int (nI (1048576 * mF al s + mW al s)))), M', 0) := g
  have h0 : ¬ nI 1048576 = 0 := by decide
  refine ⟨M', ?_, ⟨c, by rw [f.1 40 (by unfold qMm; omega), hT.2]⟩, f⟩
  simp only [s6_0, s6_1, s6_2, s6_3, s6_6, s6_8, s6_9, g', qv_mod (show mF al s ≤ 20 from Nat.le_trans (F_7 hs) (by decide)) (W_lt hs), h0, not_false_eq_true, ne_eq, List.length_cons, List.length_nil, Nat.zero_le, Nat.reduceAdd, Nat.reduceLeDiff, Option.bind_some, qx_kn_v, qx_kn_n, Nat.add_zero, Bool.false_eq_true, ↓reduceIte]
theorem m1 {d x : Nat} {M : qxM} (ha : qAl al) (hst : st < 100000) (hs : all < 16384) (hT : qTs al st all M) : ∃ M', Rs L xs (d + 18) 1 0 [some (.ref (40))] [] (M) x = some (.inl (some (.int (nI (mF al all)))), M', x) ∧ qTs al st all M' ∧ qf qMm M M' := by
  obtain ⟨M', g, c, f⟩ := m5 (L := L) (xs := xs) (d := d) (x := 0) ha hst hs hT
  refine ⟨M', ?_, c, f⟩
  simp only [s1_0, s1_1, s1_2, s1_5, s1_8, qx_m40, hT.2, g, List.length_cons, List.length_nil, Nat.zero_le, Nat.reduceAdd, Nat.reduceLeDiff, Option.bind_some, qx_kn_v, qx_kn_n, Nat.add_zero, Bool.false_eq_true, ↓reduceIte]
theorem m2 {d x : Nat} {M : qxM} (ha : qAl al) (hst : st < 100000) (hs : all < 16384) (hT : qTs al st all M) : ∃ M', Rs L xs (d + 19) 2 0 [some (.ref (40))] [] (M) x = some (.inl (some (.int (nI (qb_pc all - 2 * mF al all)))), M', x) ∧ qTs al st all M' ∧ qf qMm M M' := by
  obtain ⟨M', g, c, f⟩ := m1 (L := L) (xs := xs) (d := d) (x := 0) ha hst hs hT
  refine ⟨M', ?_, c, f⟩
  simp only [s2_0, s2_1, s2_4, s2_7, s2_8, s2_9, s2_12, s2_13, s2_14, qx_m40, hT.2, m334, qb_bc_ok hs, g, pk_mul, pk_sub (F_half (al := al) hs), List.length_cons, List.length_nil, Nat.zero_le, Nat.reduceAdd, Nat.reduceLeDiff, Option.bind_some, qx_kn_v, qx_kn_n, Nat.add_zero, Bool.false_eq_true, ↓reduceIte]
theorem m4 {d x a b : Nat} {M : qxM} (hs : all < 16384) (h : M.1 40 0 = nI all) (hp : a < 14) (hb : b < 14) : Rs L xs (d + 1) 4 0 [some (.ref (40)), some (.int (nI a)), some (.int (nI b))] [] (M) x = some (.inl (some (.int (nI (qd (qd all a) b)))), M, x) := by
  simp only [s4_0, s4_1, s4_4, s4_5, s4_8, s4_9, s4_10, s4_11, s4_12, s4_15, s4_16, s4_17, s4_18, qx_m40, h, m169 (show a < 31 by omega), m169 (show b < 31 by omega), qb_andn, List.length_cons, List.length_nil, Nat.zero_le, Nat.reduceAdd, Nat.reduceLeDiff, Option.bind_some, qx_kn_v, qx_kn_n, Nat.add_zero, Bool.false_eq_true, ↓reduceIte]
  rfl
theorem m3 {d x a b : Nat} {M : qxM} (ha : qAl al) (hst : st < 100000) (hs : all < 16384) (hp : a < 14) (hb : b < 14) (hT : qTs al st all M) : ∃ M', Rs L xs (d + 18) 3 0 [some (.ref (40)), some (.int (nI a)), some (.int (nI b))] [] (M) x = some (.inl (some (.int (nI (mF al (qd (qd all a) b))))), M', x) ∧ qTs al st all M' ∧ qf qMm M M' := by
  obtain ⟨M', g, c, f⟩ := m5 (L := L) (xs := xs) (d := d) (x := 0) ha hst (qd_14 (v := b) (qd_14 (v := a) hs)) hT
  have h4 := m4 (L := L) (xs := xs) (d := d + 16) (x := 0) (M := M) hs hT.2 hp hb
  refine ⟨M', ?_, c, f⟩
  simp only [s3_0, s3_1, s3_2, s3_3, s3_4, s3_7, s3_10, qx_m40, h4, g, List.length_cons, List.length_nil, Nat.zero_le, Nat.reduceAdd, Nat.reduceLeDiff, Option.bind_some, qx_kn_v, qx_kn_n, Nat.add_zero, Bool.false_eq_true, ↓reduceIte]
end QL
