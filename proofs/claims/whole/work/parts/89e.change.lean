/-! Changes: befriend. -/
def qb_fl (on : Bool) (x k : Nat) : Nat := if on then x ||| 2 ^ k else qb_dif x (2 ^ k)
theorem qb_fl_bit (on : Bool) (x k i : Nat) : (qb_fl on x k).testBit i = if i = k then on else x.testBit i := by
  unfold qb_fl
  by_cases h : i = k
  · rw [if_pos h, h]
    cases on
    · rw [if_neg (by decide), qb_dif_bit, qb_two]
      simp
    · rw [if_pos rfl, Nat.testBit_or, qb_two]
      simp
  · rw [if_neg h]
    have h2 : (2 ^ k).testBit i = false := by rw [qb_two]; simpa using (fun e => h e.symm)
    cases on
    · rw [if_neg (by decide), qb_dif_bit, h2]
      simp
    · rw [if_pos rfl, Nat.testBit_or, h2]
      simp
theorem qb_fl_lt {on : Bool} {x k n : Nat} (hx : x < 2 ^ n) (hk : k < n) : qb_fl on x k < 2 ^ n := by
  unfold qb_fl
  split
  · exact Nat.or_lt_two_pow hx (Nat.pow_lt_pow_right (by decide) hk)
  · exact qb_dif_le hx
def qp_be (f : Nat → Nat) (a b : Nat) (on : Bool) : Nat → Nat := qu (qu f a (qb_fl on (f a) b)) b (qb_fl on (f b) a)
theorem qp_be_ok {n r q : Nat} {f mt : Nat → Nat} (hp : qp_ok n r q f mt) {a b : Nat} (ha : a < n) (hb : b < n) (hab : a ≠ b) (on : Bool) : qp_ok n r q (qp_be f a b on) mt := by
  obtain ⟨h1, h2, h3, h4, h5, h6⟩ := hp
  have bit : ∀ p z, (qp_be f a b on p).testBit z = if p = b ∧ z = a ∨ p = a ∧ z = b then on else (f p).testBit z := by
    intro p z
    unfold qp_be
    by_cases e1 : p = b
    · rw [e1, qu_eq, qb_fl_bit]
      by_cases e2 : z = a
      · rw [if_pos e2, if_pos (Or.inl ⟨rfl, e2⟩)]
      · rw [if_neg e2, if_neg (by rintro (⟨_, w⟩ | ⟨w, _⟩); exact e2 w; exact hab w.symm)]
    · rw [qu_ne _ _ e1]
      by_cases e3 : p = a
      · rw [e3, qu_eq, qb_fl_bit]
        by_cases e2 : z = b
        · rw [if_pos e2, if_pos (Or.inr ⟨rfl, e2⟩)]
        · rw [if_neg e2, if_neg (by rintro (⟨w, _⟩ | ⟨_, w⟩); exact hab w; exact e2 w)]
      · rw [qu_ne _ _ e3, if_neg (by rintro (⟨w, _⟩ | ⟨w, _⟩); exact e1 w; exact e3 w)]
  refine ⟨h1, h2, h3, ?_, ?_, h6⟩
  · intro p hp
    refine ⟨?_, ?_⟩
    · unfold qp_be
      by_cases e1 : p = b
      · rw [e1, qu_eq]
        exact qb_fl_lt (h4 b (by omega)).1 ha
      · rw [qu_ne _ _ e1]
        by_cases e3 : p = a
        · rw [e3, qu_eq]
          exact qb_fl_lt (h4 a (by omega)).1 hb
        · rw [qu_ne _ _ e3]
          exact (h4 p hp).1
    · rw [bit, if_neg (by rintro (⟨w1, w2⟩ | ⟨w1, w2⟩) <;> omega)]
      exact (h4 p hp).2
  · intro x y hx hy
    rw [bit, bit]
    by_cases e : x = b ∧ y = a ∨ x = a ∧ y = b
    · rw [if_pos e, if_pos (by rcases e with ⟨w1, w2⟩ | ⟨w1, w2⟩; exact Or.inr ⟨w2, w1⟩; exact Or.inl ⟨w2, w1⟩)]
    · rw [if_neg e, if_neg (by rintro (⟨w1, w2⟩ | ⟨w1, w2⟩); exact e (Or.inr ⟨w2, w1⟩); exact e (Or.inl ⟨w2, w1⟩))]
      exact h5 x y hx hy
section QL
variable {L : Nat} {xs : Nat → Int32} {d x : Nat} {M : qxM}
theorem g217 {n r q : Nat} {f mt : Nat → Nat} (hu : nPu M n r q f mt) {a b : Nat} (ha : a < 14) (hb : b < 14) (hab : a ≠ b) (on : Bool) :
    ∃ M', Rs L xs (d) 217 0 [some (.ref (400)), some (.int (nI a)), some (.int (nI b)), some (.int (bI on))] [] (M) x = some (.inl (none), M', x) ∧ nPu M' n r q (qp_be f a b on) mt ∧ mf (fun j => 7 ≤ j ∧ j < 21) M M' := by
  obtain ⟨k1, k2, k3⟩ := qx_m400
  obtain ⟨u0, u1, u2, u3, u4⟩ := hu
  have f1 : mf (fun j => 7 ≤ j ∧ j < 21) M (qx_up (qx_up M 401 (7 + a) (nI (qb_fl on (f a) b))) 401 (7 + b) (nI (qb_fl on (f b) a))) := mf_trans (mf_up _ _ _ (by omega)) (mf_up _ _ _ (by omega))
  have e1 := u3 a ha
  have e2 : ∀ v, (qx_up M 401 (7 + a) v).1 401 (7 + b) = nI (f b) := fun v => by rw [qx_up_at, if_neg (by omega), u3 b hb]
  refine ⟨_, ?_, ⟨?_, ?_, ?_, ?_, nMt_fr u4 f1 (by omega)⟩, f1⟩
  · cases on with
    | true =>
      have hA : f a ||| 2 ^ b = qb_fl true (f a) b := rfl
      have hB : f b ||| 2 ^ a = qb_fl true (f b) a := rfl
      simp only [s217_0, s217_1, s217_4, s217_6, s217_7, s217_8, s217_9, s217_12, s217_13, s217_16, s217_18, s217_19, s217_20, s217_21, s217_22, s217_23, s217_24, s217_25, s217_28, s217_29, s217_32, s217_34, s217_35, s217_36, s217_37, s217_38, s217_39, s217_40, s217_41, s217_42, s217_43, s217_44, s217_45, s217_48, s217_50, s217_51, s217_52, s217_53, s217_56, s217_57, s217_60, s217_62, s217_63, s217_64, s217_65, s217_66, s217_67, s217_68, s217_69, s217_72, s217_73, s217_76, s217_78, s217_79, s217_80, s217_81, s217_82, s217_83, s217_84, s217_85, s217_86, s217_87, s217_88, k1, k2, k3, nI_add, qbt, e1, e2, qb_shl (show a < 32 by omega), qb_shl (show b < 32 by omega), qb_or, hA, hB, (qn_c (7 + a) (by omega)).1, (qn_c (7 + a) (by omega)).2, (qn_c (7 + b) (by omega)).1, (qn_c (7 + b) (by omega)).2, List.length_cons, List.length_nil, Nat.zero_le, Nat.reduceAdd, Nat.reduceLeDiff, Option.bind_some, qx_kn_v, qx_kn_n, Nat.add_zero, Bool.false_eq_true, ↓reduceIte]
    | false =>
      have hA : qb_dif (f a) (2 ^ b) = qb_fl false (f a) b := rfl
      have hB : qb_dif (f b) (2 ^ a) = qb_fl false (f b) a := rfl
      simp only [s217_0, s217_1, s217_4, s217_6, s217_7, s217_8, s217_9, s217_12, s217_13, s217_16, s217_18, s217_19, s217_20, s217_21, s217_22, s217_23, s217_24, s217_25, s217_28, s217_29, s217_32, s217_34, s217_35, s217_36, s217_37, s217_38, s217_39, s217_40, s217_41, s217_42, s217_43, s217_44, s217_45, s217_48, s217_50, s217_51, s217_52, s217_53, s217_56, s217_57, s217_60, s217_62, s217_63, s217_64, s217_65, s217_66, s217_67, s217_68, s217_69, s217_72, s217_73, s217_76, s217_78, s217_79, s217_80, s217_81, s217_82, s217_83, s217_84, s217_85, s217_86, s217_87, s217_88, k1, k2, k3, nI_add, qbf, e1, e2, qb_shl (show a < 32 by omega), qb_shl (show b < 32 by omega), qb_andn, hA, hB, (qn_c (7 + a) (by omega)).1, (qn_c (7 + a) (by omega)).2, (qn_c (7 + b) (by omega)).1, (qn_c (7 + b) (by omega)).2, List.length_cons, List.length_nil, Nat.zero_le, Nat.reduceAdd, Nat.reduceLeDiff, Option.bind_some, qx_kn_v, qx_kn_n, Nat.add_zero, Bool.false_eq_true, ↓reduceIte]
  · rw [f1.2 0 (by omega), u0]
  · rw [f1.2 1 (by omega), u1]
  · rw [f1.2 2 (by omega), u2]
  · intro p hp
    unfold qp_be
    rw [qx_up_at]
    by_cases y : p = b
    · rw [if_pos ⟨rfl, by omega⟩, y, qu_eq]
    · rw [if_neg (by omega), qu_ne _ _ y, qx_up_at]
      by_cases y2 : p = a
      · rw [if_pos ⟨rfl, by omega⟩, y2, qu_eq]
      · rw [if_neg (by omega), qu_ne _ _ y2, u3 p hp]
theorem qPu_be {n r q : Nat} {f mt : Nat → Nat} (hu : qPu 101 M n r q f mt) {a b : Nat} (ha : a < 14) (hb : b < 14) (hab : a ≠ b) (on : Bool) :
    ∃ M', Rs L xs (d + 1) 40 0 [some (.ref (101)), some (.int (nI a)), some (.int (nI b)), some (.int (bI on))] [] (M) x = some (.inl (none), M', x) ∧ qPu 101 M' n r q (qp_be f a b on) mt ∧ qf (fun k => k = 102) M M' := by
  have hP : qx_P 101 := qx_T100.2.1
  obtain ⟨u0, u1, u2, u3, u4⟩ := hu
  have h := m40 (L := L) (xs := xs) (d := d) (x := x) (M := M) hP ha hb hab (u3 a ha) (u3 b hb) on
  have f1 : qf (fun k => k = 102) M (qx_up (qx_up M 102 a (nI (qb_fl on (f a) b))) 102 b (nI (qb_fl on (f b) a))) := qf_trans (qf_up _ _ _ _ rfl) (qf_up _ _ _ _ rfl)
  refine ⟨qx_up (qx_up M 102 a (nI (qb_fl on (f a) b))) 102 b (nI (qb_fl on (f b) a)), h, ⟨?_, ?_, ?_, ?_, qMt_fr u4 f1 (by decide)⟩, f1⟩
  · rw [f1.1 101 (by decide), u0]
  · rw [f1.1 101 (by decide), u1]
  · rw [f1.1 101 (by decide), u2]
  · intro p hp
    unfold qp_be
    show (qx_up _ 102 b _).1 102 p = _
    rw [qx_up_at]
    by_cases y : p = b
    · rw [if_pos ⟨rfl, y⟩, y, qu_eq]
    · rw [if_neg (by omega), qu_ne _ _ y, qx_up_at]
      by_cases y2 : p = a
      · rw [if_pos ⟨rfl, y2⟩, y2, qu_eq]
      · rw [if_neg (by omega), qu_ne _ _ y2]
        exact u3 p hp
/-- may, with a third condition that stands as a number -/
theorem z180e (w : Bool) : Rs L xs d 180 0 [some (.ref 400), some (.int (bI false)), some (.int (bI w)), some (.int (nI 0))] [] M x = some (.inl (some (.int (bI false))), qx_up M 400 0 (nI 1), x) := a180 false w false
theorem z180f (w : Bool) : Rs L xs d 180 0 [some (.ref 400), some (.int (bI false)), some (.int (bI w)), some (.int (nI 1))] [] M x = some (.inl (some (.int (bI false))), qx_up M 400 0 (nI 1), x) := a180 false w true
theorem z180g : Rs L xs d 180 0 [some (.ref 400), some (.int (bI true)), some (.int (nI 0)), some (.int (nI 1))] [] M x = some (.inl (some (.int (bI false))), qx_up M 400 0 (nI 2), x) := a180 true false true
theorem j152 (hR : qREL M) (z y : Int32) (on : Bool) : qPair L xs (d + 40) 152 [some (.ref 10), some (.int z), some (.int y), some (.int (bI on))] 327 [some (.ref 400), some (.int z), some (.int y), some (.int (bI on))] ke021 M := by
  obtain ⟨k1, k2, k3⟩ := qx_m400
  have hmod : ∀ (d : Nat) (M : qxM) (b : Bool) (n : Nat), M.1 400 6 = bI b → M.1 401 0 = nI n → n ≤ 14 → Rs L xs (d + 40) 327 0 [some (.ref 400), some (.int z), some (.int y), some (.int (bI on))] [] M 0 = (Rs L xs (d + 39) 180 0 [some (.ref 400), some (.int (bI b)), some (.int (bI (!decide (qOut n z) && !decide (qOut n y)))), some (.int (bI (decide (z ≠ y))))] [] M 0).bind (qx_kn L xs (d + 40) 327 36 39 180 [some (.ref 400), some (.int z), some (.int y), some (.int (bI on))] [] 0) := by
    intro d M b n hb hn hn2
    have hx := fun d w => a211 (L := L) (xs := xs) (d := d) (x := 0) hn hn2 w
    by_cases hzy : z = y
    · subst hzy
      rw [show decide (z ≠ z) = false from decide_eq_false (fun h => h rfl)]
      cases h1 : decide (qOut n z)
      · simp only [s327_0, s327_1, s327_2, s327_5, s327_6, s327_7, s327_10, s327_13, s327_14, s327_15, s327_18, s327_21, s327_22, s327_25, s327_26, s327_27, s327_28, s327_31, s327_32, s327_35, s327_36, k1, hb, hx, h1, Bool.not_false, qbt, eq_self, Bool.and_self, List.length_cons, List.length_nil, Nat.zero_le, Nat.reduceAdd, Nat.reduceLeDiff, Option.bind_some, qx_kn_v, qx_kn_n, Nat.add_zero, Bool.false_eq_true, ↓reduceIte]
        rfl
      · simp only [s327_0, s327_1, s327_2, s327_5, s327_6, s327_7, s327_10, s327_13, s327_14, s327_15, s327_18, s327_21, s327_22, s327_25, s327_26, s327_27, s327_28, s327_31, s327_32, s327_35, s327_36, k1, hb, hx, h1, Bool.not_true, qbf, eq_self, Bool.false_and, List.length_cons, List.length_nil, Nat.zero_le, Nat.reduceAdd, Nat.reduceLeDiff, Option.bind_some, qx_kn_v, qx_kn_n, Nat.add_zero, Bool.false_eq_true, ↓reduceIte]
        rfl
    · rw [show decide (z ≠ y) = true from decide_eq_true hzy]
      cases h1 : decide (qOut n z)
      · cases h2 : decide (qOut n y)
        · simp only [s327_0, s327_1, s327_2, s327_5, s327_6, s327_7, s327_10, s327_13, s327_14, s327_15, s327_18, s327_21, s327_22, s327_25, s327_26, s327_27, s327_28, s327_31, s327_32, s327_35, s327_36, k1, hb, hx, h1, h2, Bool.not_false, qbt, hzy, Bool.and_self, List.length_cons, List.length_nil, Nat.zero_le, Nat.reduceAdd, Nat.reduceLeDiff, Option.bind_some, qx_kn_v, qx_kn_n, Nat.add_zero, Bool.false_eq_true, ↓reduceIte]
          rfl
        · simp only [s327_0, s327_1, s327_2, s327_5, s327_6, s327_7, s327_10, s327_13, s327_14, s327_15, s327_18, s327_21, s327_22, s327_25, s327_26, s327_27, s327_28, s327_31, s327_32, s327_35, s327_36, k1, hb, hx, h1, h2, Bool.not_false, Bool.not_true, qbt, qbf, hzy, Bool.and_false, List.length_cons, List.length_nil, Nat.zero_le, Nat.reduceAdd, Nat.reduceLeDiff, Option.bind_some, qx_kn_v, qx_kn_n, Nat.add_zero, Bool.false_eq_true, ↓reduceIte]
          rfl
      · simp only [s327_0, s327_1, s327_2, s327_5, s327_6, s327_7, s327_10, s327_13, s327_14, s327_15, s327_18, s327_21, s327_22, s327_25, s327_26, s327_27, s327_28, s327_31, s327_32, s327_35, s327_36, k1, hb, hx, h1, Bool.not_true, qbf, hzy, Bool.false_and, List.length_cons, List.length_nil, Nat.zero_le, Nat.reduceAdd, Nat.reduceLeDiff, Option.bind_some, qx_kn_v, qx_kn_n, Nat.add_zero, Bool.false_eq_true, ↓reduceIte]
        rfl
  rcases qREL_cmp hR with ⟨b1, b2, b3, b4⟩ | ⟨b1, b2, n, r, q, f, mt, s1, s2, s3, s4, st, rt, sp, bm, ou, inn, qb, e, as, qa, bs, lk, nr, fr, wy, hp, hn1, hT, hou, hinn, he14, hst4, hu, ⟨a1, a2, a3, a4⟩, hS, hm, ⟨m1, m2, m3, m4⟩, h35, hN⟩
  · refine qPair_of hR 1 0 (by decide) ?_ ?_
    · rw [if_neg (by decide)]
      simp only [s152_0, s152_1, s152_2, s152_3, qx_m10, a161t b1, List.length_cons, List.length_nil, Nat.zero_le, Nat.reduceAdd, Nat.reduceLeDiff, Option.bind_some, qx_kn_v, qx_kn_n, Nat.add_zero, Bool.false_eq_true, ↓reduceIte]
      exact qx_kn_t rfl rfl rfl
    · intro o
      refine ⟨nI 0, ?_, fun h => absurd h (by decide)⟩
      rw [hmod d (M.1, o) false 0 b2 b3 (by decide), c180a]
      simp only [s327_39, s327_42, s327_43, qbf, List.length_cons, List.length_nil, Nat.zero_le, Nat.reduceAdd, Nat.reduceLeDiff, Option.bind_some, qx_kn_v, qx_kn_n, Nat.add_zero, Bool.false_eq_true, ↓reduceIte]
  · have hn14 : n ≤ 14 := hp.1
    have hn0 : M.1 101 0 = nI n := hu.1
    have hZ : qx_Z 104 := qx_T100.2.2
    have hP : qx_P 101 := qx_T100.2.1
    by_cases hz : qOut n z ∨ qOut n y
    · refine qPair_of hR 2 0 (by decide) ?_ ?_
      · rw [if_neg (by decide)]
        simp only [s152_0, s152_1, s152_2, s152_3, qx_m10, a161o b1 hn0 hn14 hz, List.length_cons, List.length_nil, Nat.zero_le, Nat.reduceAdd, Nat.reduceLeDiff, Option.bind_some, qx_kn_v, qx_kn_n, Nat.add_zero, Bool.false_eq_true, ↓reduceIte]
        exact qx_kn_t rfl rfl rfl
      · intro o
        refine ⟨nI 0, ?_, fun h => absurd h (by decide)⟩
        have e : (!decide (qOut n z) && !decide (qOut n y)) = false := by
          rcases hz with h | h
          · rw [decide_eq_true h]
            rfl
          · rw [decide_eq_true h, Bool.not_true, Bool.and_false]
        rw [hmod d (M.1, o) true n b2 hm.1 hn14, e, c180b]
        simp only [s327_39, s327_42, s327_43, qbf, List.length_cons, List.length_nil, Nat.zero_le, Nat.reduceAdd, Nat.reduceLeDiff, Option.bind_some, qx_kn_v, qx_kn_n, Nat.add_zero, Bool.false_eq_true, ↓reduceIte]
    · have hz1 : ¬ qOut n z := fun w => hz (Or.inl w)
      have hz2 : ¬ qOut n y := fun w => hz (Or.inr w)
      obtain ⟨p, p1, p2⟩ := qOut_not (by omega) hz1
      obtain ⟨p0, p3, p4⟩ := qOut_not (by omega) hz2
      subst p2 p4
      have hp14 : p < 14 := by omega
      have hq14 : p0 < 14 := by omega
      have hneed := fun (d x : Nat) => a161 (L := L) (xs := xs) (d := d) (x := x) b1 hn0 hn14 p1 p3
      have eT : (!decide (qOut n (nI p)) && !decide (qOut n (nI p0))) = true := by
        rw [decide_eq_false hz1, decide_eq_false hz2]
        rfl
      by_cases hab : p = p0
      · have he : (nI p = nI p0) = True := eq_true (by rw [hab])
        refine qPair_of hR 3 0 (by decide) ?_ ?_
        · rw [if_neg (by decide)]
          simp only [s152_0, s152_1, s152_2, s152_3, s152_6, s152_7, s152_8, s152_11, qx_m10, hneed, he, List.length_cons, List.length_nil, Nat.zero_le, Nat.reduceAdd, Nat.reduceLeDiff, Option.bind_some, qx_kn_v, qx_kn_n, Nat.add_zero, Bool.false_eq_true, ↓reduceIte]
          rfl
        · intro o
          refine ⟨nI 0, ?_, fun h => absurd h (by decide)⟩
          rw [hmod d (M.1, o) true n b2 hm.1 hn14, eT, show decide (nI p ≠ nI p0) = false from decide_eq_false (fun h => h (by rw [hab])), c180c]
          simp only [s327_39, s327_42, s327_43, qbf, List.length_cons, List.length_nil, Nat.zero_le, Nat.reduceAdd, Nat.reduceLeDiff, Option.bind_some, qx_kn_v, qx_kn_n, Nat.add_zero, Bool.false_eq_true, ↓reduceIte]
      · have he : (nI p = nI p0) = False := eq_false (fun h => hab ((nI_eq (by omega) (by omega)).mp h))
        have hp1 := qp_be_ok hp p1 p3 hab on
        have hpf := qm_pf_ok (al := fun z => qp_al r q (qp_be f p p0 on z) z) hn14 n 0 mt 0 (by omega) hp.2.2.2.2.2
        have hp2 := qp_wm hp1 hpf.1
        obtain ⟨c, E, hc8, hE8, hE, hc, hc7⟩ := qREL_ring hR
        have hcT : cT 100 M ((n, r, q), f, mt, (s1, s2, s3, s4), ((st, rt, sp, bm), (ou, inn, qb, e, as), qa, bs, lk, nr, fr, wy)) := ⟨hu, ⟨a1, a2, a3, a4⟩, hS⟩
        have hmT : mT M ((n, r, q), f, mt, (s1, s2, s3, s4), ((st, rt, sp, bm), (ou, inn, qb, e, as), qa, bs, lk, nr, fr, wy)) := ⟨hm, ⟨m1, m2, m3, m4⟩, h35, hN⟩
        have hG : gG ((n, r, q), f, mt, (s1, s2, s3, s4), ((st, rt, sp, bm), (ou, inn, qb, e, as), qa, bs, lk, nr, fr, wy)) := ⟨hp, hT, ⟨hou, hinn, he14⟩, hst4⟩
        obtain ⟨Ma, ga, kC1, cTa⟩ := kC_of (L := L) (xs := xs) (d := d + 35) (x := 0) hE hE8 hc hc8 hcT he14
        obtain ⟨Mb, gb, cTb, fb⟩ := zEnd (L := L) (xs := xs) (d := d + 39) (x := 0) cTa
        obtain ⟨Mc, gc, huc, fc⟩ := qPu_be (L := L) (xs := xs) (d := d + 38) (x := 0) cTb.1 hp14 hq14 hab on
        have cTc := cT_pu cTb fc (by omega) huc
        obtain ⟨Md, gd, cTd, fd⟩ := zPart (L := L) (xs := xs) (d := d + 36) (x := 0) hp1 cTc
        have cTe := cT_sum (v := s4 + nI (qm_pf (fun z => qp_al r q (qp_be f p p0 on z) z) n 0 mt 0).2) cTd
        have kC2 := kC_fr hE8 (kC_fr hE8 (kC_fr hE8 (kC_fr hE8 kC1 fb) (qf_mono fc (fun a ha => by unfold qTf; omega))) fd) (qf_up Md 100 5 (s4 + nI (qm_pf (fun z => qp_al r q (qp_be f p p0 on z) z) n 0 mt 0).2) (by unfold qTf; omega))
        obtain ⟨e401, e400⟩ := kC_401 hE8 kC2
        have h1005 : Mc.1 100 5 = s4 := cTc.2.1.2.2.2
        have hfs := fun d x => m44 (L := L) (xs := xs) (d := d) (x := x) hP cTe.1.1 hn14 (qPu_f hp2 cTe.1)
        refine qPair_chg hR hE8 hc8 hE hc b1 hmT hG hn1 (nI (qp_sm (fun z => qb_pc (qp_be f p p0 on z)) 0 n / 2)) ?_ kC2 cTe ?_ (gG_end hG hp2) hn1
        · simp only [s152_0, s152_1, s152_2, s152_3, s152_6, s152_7, s152_8, s152_11, s152_14r, s152_14i, s152_22, s152_23, s152_26, s152_27, s152_30, s152_33, s152_36, s152_37, s152_40, s152_43, s152_44, s152_45, s152_46, s152_49, s152_50, s152_53r, s152_53i, s152_54, s152_57, s152_58, s152_61, s152_64, s152_67, s152_68, s152_71, s152_72, s152_75, s152_78, s152_81, qx_m10, qx_T100.1, hP.1, hZ.1, hneed, he, ga, gb, gc, gd, h1005, hfs, List.length_cons, List.length_nil, Nat.zero_le, Nat.reduceAdd, Nat.reduceLeDiff, Option.bind_some, qx_kn_v, qx_kn_n, Nat.add_zero, Bool.false_eq_true, ↓reduceIte]
        · intro o
          generalize hMz : qx_up Md 100 5 (s4 + nI (qm_pf (fun z => qp_al r q (qp_be f p p0 on z) z) n 0 mt 0).2) = Mz at e401 e400
          have h6 : Mz.1 400 6 = bI true := by rw [e400, b2]
          have hN2 : nPu (Mz.1, o) n r q f mt := nPu_cp hm (fun k _ => by show Mz.1 401 k = _; rw [e401])
          obtain ⟨Mw, gw, kM1, w401, w35, wo⟩ := z319 (L := L) (xs := xs) (d := d + 37) (x := 0) (M := (Mz.1, o)) (c := c) (by show Mz.1 400 7 = nI c; rw [e400, hc7]) hc8
          have w4 : ∀ k, k ≠ 35 → Mw.1 401 k = M.1 401 k := fun k h => by rw [w401 k h]; show Mz.1 401 k = _; rw [e401]
          have hnd := nPu_cp hm (M' := Mw) (fun k hk => w4 k (by omega))
          obtain ⟨Mx, gx, hne, f1⟩ := g217 (L := L) (xs := xs) (d := d + 39) (x := 0) hnd hp14 hq14 hab on
          obtain ⟨Mv, gv, mv, fv⟩ := g221 (L := L) (xs := xs) (d := d + 36) (x := 0) hp1 hne
          have hnv := nPu_step hne fv mv (by omega)
          have f6 : mf (fun j => j = 6) Mv (qx_up Mv 401 6 (s4 + nI (qm_pf (fun z => qp_al r q (qp_be f p p0 on z) z) n 0 mt 0).2)) := mf_up _ _ _ rfl
          have hnf := nPu_step hnv f6 (nMt_fr mv f6 (by omega)) (by omega)
          have h66 : Mx.1 401 6 = s4 := by rw [f1.2 6 (by omega), w4 6 (by decide), m4]
          have h222 : ∀ d, Rs L xs (d + 4) 222 0 [some (.ref 400), some (.int (nI 0)), none, none] [] (qx_up Mv 401 6 (s4 + nI (qm_pf (fun z => qp_al r q (qp_be f p p0 on z) z) n 0 mt 0).2)) 0 = some (.inl (some (.int (nI (qp_sm (fun z => qb_pc (qp_be f p p0 on z)) 0 n / 2)))), qx_up Mv 401 6 (s4 + nI (qm_pf (fun z => qp_al r q (qp_be f p p0 on z) z) n 0 mt 0).2), 0) := fun d => g222 (L := L) (xs := xs) (d := d) (x := 0) hp2 hnf false
          refine ⟨_, ?_, ?_, kM_fr (kM_fr (kM_fr kM1 f1.1) fv.1) f6.1, mT_fin hnf ?_ ?_ ?_ ?_ ?_⟩
          · rw [hmod d (Mz.1, o) true n h6 hN2.1 hn14, eT, show decide (nI p ≠ nI p0) = true from decide_eq_true (fun h => hab ((nI_eq (by omega) (by omega)).mp h)), c180d]
            simp only [s327_39, s327_42, s327_43, s327_44, s327_45, s327_48, s327_49, s327_50, s327_51, s327_52, s327_55, s327_56, s327_59, s327_61, s327_62, s327_63, s327_64, s327_67, s327_68, s327_69, s327_70, s327_71, s327_74, k1, k2, k3, qbt, gw, gx, gv, h66, h222, (qn_c (6) (by omega)).1, (qn_c (6) (by omega)).2, List.length_cons, List.length_nil, Nat.zero_le, Nat.reduceAdd, Nat.reduceLeDiff, Option.bind_some, qx_kn_v, qx_kn_n, Nat.add_zero, Bool.false_eq_true, ↓reduceIte]
          · rw [f6.1.2, fv.1.2, f1.1.2, wo]
          · rw [f6.2 3 (by omega), fv.2 3 (by omega), f1.2 3 (by omega), w4 3 (by decide), m1]
          · rw [f6.2 4 (by omega), fv.2 4 (by omega), f1.2 4 (by omega), w4 4 (by decide), m2]
          · rw [f6.2 5 (by omega), fv.2 5 (by omega), f1.2 5 (by omega), w4 5 (by decide), m3]
          · rw [qx_up_at, if_pos ⟨rfl, rfl⟩]
          · rw [f6.2 35 (by omega), fv.2 35 (by omega), f1.2 35 (by omega), w35]
end QL
