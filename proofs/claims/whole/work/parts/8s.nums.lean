/-! friendAt, meanFriends, pairedShare, textByte. -/
theorem qx_up_eq (M : qxM) (t k : Nat) (v : Int32) : (qx_up M t k v).1 t k = v := if_pos ⟨rfl, rfl⟩
theorem qi_12 : (nI 1 ≤ 0) = False := by decide
theorem qi_22 : (nI 2 ≤ 0) = False := by decide
theorem qi_02 : (nI 0 ≤ 0) = True := by decide
/-- the pupil of a set by its place, from k on -/
def km : Nat → Nat → Nat → Int32 → Int32
  | 0, _, _, _ => -1
  | f + 1, l, k, z => if l = 0 then -1 else if nI k = z then nI (qb_lo l) else km f (qd l (qb_lo l)) (k + 1) z
theorem km_neg {z : Int32} (hz : z < 0) : ∀ (f l k : Nat), k + f < 1000 → km f l k z = -1
  | 0, _, _, _ => rfl
  | f + 1, l, k, hk => by
    unfold km
    by_cases h0 : l = 0
    · rw [if_pos h0]
    · rw [if_neg h0, if_neg (fun (e : nI k = z) => nI_pos (show k < 2 ^ 31 by omega) (by rw [e]; exact hz)), km_neg hz f _ _ (by omega)]
section QL
variable {L : Nat} {xs : Nat → Int32}
theorem a100l {d s : Nat} {y z : Int32} {M : qxM} (hs : s < 16384) : ∀ (k i x l c f : Nat), i + k = 14 → (∀ j, l.testBit j = true ↔ s.testBit j = true ∧ i ≤ j) → qb_pc l ≤ f →
    Rs L xs (d + 1) 100 23 [some (.ref 10), some (.int y), some (.int z), some (.int (nI s)), some (.int (nI c)), some (.int (nI i))] [] M x = some (.inl (some (.int (km f l c z))), M, x) := by
  intro k
  induction k with
  | zero =>
    intro i x l c f hi hl hf
    have e : i = 14 := by omega
    subst e
    have h1 : (nI 14 ≤ nI 14) = True := eq_true (Int32.le_refl _)
    have h0 : l = 0 := qs_eq (fun j => ⟨fun w => by
      have a := (hl j).mp w
      have b := qj hs a.1
      omega, fun w => absurd w zb⟩)
    have hz : km f l c z = -1 := by
      rw [h0]
      cases f with
      | zero => rfl
      | succ f => exact if_pos rfl
    rw [hz]
    simp only [s100_23, s100_25, s100_27, s100_57, s100_58, h1, ↓reduceIte]
  | succ k ih =>
    intro i x l c f hi hl hf
    have hi14 : i < 14 := by omega
    have h1 : ¬ nI 14 ≤ nI i := nI_ge hi14 (by decide)
    have h170 := m170 (L := L) (xs := xs) (d := d) (x := 0) (M := M) (show s < 2 ^ 31 by omega) (show i < 31 by omega)
    have hi1 : nI i + nI 1 = nI (i + 1) := nI_add _ _
    have hc1 : nI c + nI 1 = nI (c + 1) := nI_add _ _
    cases w : s.testBit i
    · rw [w] at h170
      have g := ih (i + 1) x l c f (by omega) (fun j => by
        rw [hl j]
        constructor
        · rintro ⟨a, b⟩
          refine ⟨a, ?_⟩
          by_cases e : j = i
          · rw [e, w] at a
            cases a
          · omega
        · rintro ⟨a, b⟩
          exact ⟨a, by omega⟩) hf
      simp only [s100_23, s100_25, s100_27, s100_30, s100_31, s100_33, s100_36, s100_39, s100_41, s100_42, s100_45, s100_47, s100_48i, s100_48r, s100_48n, s100_51i, s100_51r, s100_51n, h1, h170, qbf, hi1, List.length_cons, List.length_nil, Nat.zero_le, Nat.reduceAdd, Nat.reduceLeDiff, Option.bind_some, qx_kn_v, qx_kn_n, Nat.add_zero, Bool.false_eq_true, ↓reduceIte]
      rw [s100_54, g]
    · rw [w] at h170
      have hl16 : l < 16384 := qs_lt hs (fun j h => ((hl j).mp h).1)
      have hli : l.testBit i = true := (hl i).mpr ⟨w, Nat.le_refl _⟩
      have hlo : qb_lo l = i := fa_first_is hi14 hli (fun j hj => by
        cases y : l.testBit j
        · rfl
        · have := ((hl j).mp y).2
          omega)
      have h0 : ¬ l = 0 := fun y => by
        rw [y] at hli
        exact zb hli
      have hpc := qd_pc hli hi14
      obtain ⟨f, rfl⟩ : ∃ f', f = f' + 1 := ⟨f - 1, by omega⟩
      unfold km
      rw [if_neg h0, hlo]
      by_cases e : nI c = z
      · rw [if_pos e]
        simp only [s100_23, s100_25, s100_27, s100_30, s100_31, s100_33, s100_36, s100_39, s100_41, s100_42, s100_45, s100_47, h1, h170, qbt, e, List.length_cons, List.length_nil, Nat.zero_le, Nat.reduceAdd, Nat.reduceLeDiff, Option.bind_some, qx_kn_v, qx_kn_n, Nat.add_zero, Bool.false_eq_true, ↓reduceIte]
      · rw [if_neg e]
        have g := ih (i + 1) x (qd l i) (c + 1) f (by omega) (fun j => by
          rw [qd_in, hl j]
          constructor
          · rintro ⟨⟨a, b⟩, b2⟩
            exact ⟨a, by omega⟩
          · rintro ⟨a, b⟩
            exact ⟨⟨a, by omega⟩, by omega⟩) (by omega)
        simp only [s100_23, s100_25, s100_27, s100_30, s100_31, s100_33, s100_36, s100_39, s100_41, s100_42, s100_45, s100_47, s100_48i, s100_48r, s100_48n, s100_51i, s100_51r, s100_51n, h1, h170, qbt, e, hc1, hi1, List.length_cons, List.length_nil, Nat.zero_le, Nat.reduceAdd, Nat.reduceLeDiff, Option.bind_some, qx_kn_v, qx_kn_n, Nat.add_zero, Bool.false_eq_true, ↓reduceIte]
        rw [s100_54, g]
theorem m230l {d j : Nat} {y : Int32} {M : qxM} (hj : j < 2 ^ 31) : ∀ (f k x l : Nat), qb_pc l ≤ f → l < 16384 → k ≤ j → k + f < 2 ^ 31 →
    Rs L xs (d + 2) 230 34 [some (.ref 400), some (.int y), some (.int (nI j)), some (.int (nI l)), some (.int (nI k))] [] M x = some (.inl (some (.int (km f l k (nI j)))), M, x) := by
  intro f
  induction f with
  | zero =>
    intro k x l hf hl hk hb
    have h0 : l = 0 := qb_pc0 hl (fun j y => absurd (qd_pc y (qj hl y)) (by omega))
    subst h0
    have e : (nI j ≤ nI k) = (j ≤ k) := qi_le hj (by omega)
    by_cases z : j ≤ k
    · simp only [s230_34, s230_36, s230_37, s230_40, s230_41, s230_44, s230_45, s230_46, s230_47, s230_48, s230_49i, s230_49r, s230_49n, s230_50i, s230_50r, s230_50n, s230_53, s230_56, s230_57, s230_60, s230_61, s230_68, e, z, qi_z0, ↓reduceIte]
      rfl
    · simp only [s230_34, s230_36, s230_37, s230_40, s230_41, s230_44, s230_45, s230_46, s230_47, s230_48, s230_49i, s230_49r, s230_49n, s230_50i, s230_50r, s230_50n, s230_53, s230_56, s230_57, s230_60, s230_61, s230_68, e, z, qi_z0, ↓reduceIte]
      rfl
  | succ f ih =>
    intro k x l hf hl hk hb
    have e : (nI j ≤ nI k) = (j ≤ k) := qi_le hj (by omega)
    unfold km
    by_cases h0 : l = 0
    · subst h0
      rw [if_pos rfl]
      by_cases z : j ≤ k
      · simp only [s230_34, s230_36, s230_37, s230_40, s230_41, s230_44, s230_45, s230_46, s230_47, s230_48, s230_49i, s230_49r, s230_49n, s230_50i, s230_50r, s230_50n, s230_53, s230_56, s230_57, s230_60, s230_61, s230_68, e, z, qi_z0, ↓reduceIte]
      · simp only [s230_34, s230_36, s230_37, s230_40, s230_41, s230_44, s230_45, s230_46, s230_47, s230_48, s230_49i, s230_49r, s230_49n, s230_50i, s230_50r, s230_50n, s230_53, s230_56, s230_57, s230_60, s230_61, s230_68, e, z, qi_z0, ↓reduceIte]
    · rw [if_neg h0]
      have z0 : ¬ nI l = 0 := nI_ne0 (by omega) (by omega)
      obtain ⟨l1, l2, l3, l4, l5⟩ := qb_lw_ok hl (Nat.pos_of_ne_zero h0)
      have hpc := qd_pc l2 l1
      have h210 := m210 (L := L) (xs := xs) (d := d) (x := 0) (M := M) hl (Nat.pos_of_ne_zero h0)
      by_cases z : k = j
      · rw [if_pos (by rw [z])]
        have t : (j ≤ k) = True := eq_true (by omega)
        simp only [s230_34, s230_36, s230_37, s230_40, s230_41, s230_44, s230_45, s230_46, s230_47, s230_48, s230_49i, s230_49r, s230_49n, s230_50i, s230_50r, s230_50n, s230_53, s230_56, s230_57, s230_60, s230_61, s230_64, s230_65, s230_68, e, t, z0, h210, List.length_cons, List.length_nil, Nat.zero_le, Nat.reduceAdd, Nat.reduceLeDiff, Option.bind_some, qx_kn_v, qx_kn_n, Nat.add_zero, Bool.false_eq_true, ↓reduceIte]
      · rw [if_neg (fun w => z ((nI_eq (by omega) hj).mp w))]
        have t : (j ≤ k) = False := eq_false (by omega)
        have g := ih (k + 1) x (qd l (qb_lo l)) (by omega) (qd_14 hl) (by omega) (by omega)
        have hl1 : nI l - nI 1 = nI (l - 1) := pk_sub (by omega)
        simp only [s230_34, s230_36, s230_37, s230_40, s230_41, s230_44, s230_45, s230_46, s230_47, s230_48, s230_49i, s230_49r, s230_49n, s230_50i, s230_50r, s230_50n, e, t, z0, hl1, fa_and, l4, nI_add, ↓reduceIte]
        rw [s230_53]
        exact g
theorem i_ge0 {z : Int32} (h : ¬ z < 0) : ∃ j, j < 2 ^ 31 ∧ z = nI j := by
  have h0 : 0 ≤ z := by
    rw [← i_nlt]
    exact h
  have h1 : (0 : Int) ≤ z.toInt := by
    have := Int32.le_iff_toInt_le.mp h0
    exact this
  refine ⟨z.toInt.toNat, ?_, ?_⟩
  · have := Int32.toInt_lt z
    omega
  · rw [← Int32.toInt_inj]
    have h2 := Int32.toInt_lt z
    rw [nI_toInt (by omega)]
    omega
end QL
section QL
variable {L : Nat} {xs : Nat → Int32} {d x : Nat}
theorem j100 {M : qxM} (hR : qREL M) (z : Int32) (v : Int32) : qPair L xs (d + 40) 100 [some (.ref 10), some (.int z), some (.int v), none, none, none] 230 [some (.ref 400), some (.int z), some (.int v), none, none] ke02 M := by
  obtain ⟨k1, k2, k3⟩ := qx_m400
  rcases qREL_cmp hR with ⟨b1, b2, b3, b4⟩ | ⟨b1, b2, n, r, q, f, mt, s1, s2, s3, s4, st, rt, sp, bm, ou, inn, qb, e, as, qa, bs, lk, nr, fr, wy, hp, hn1, hT, hou, hinn, he14, hst4, hu, ⟨a1, a2, a3, a4⟩, hS, hm, ⟨m1, m2, m3, m4⟩, h35, hN⟩
  · refine qPair_of hR 1 0 (by decide) ?_ ?_
    · rw [if_neg (by decide)]
      simp only [s100_0, s100_1, s100_2, qx_m10, a160t b1, List.length_cons, List.length_nil, Nat.zero_le, Nat.reduceAdd, Nat.reduceLeDiff, Option.bind_some, qx_kn_v, qx_kn_n, Nat.add_zero, Bool.false_eq_true, ↓reduceIte]
      exact qx_kn_t rfl rfl rfl
    · intro o
      refine ⟨nI 0, ?_, fun h => absurd h (by decide)⟩
      have h1 := fun (d : Nat) => b226a (L := L) (xs := xs) (d := d) (x := 0) (M := (M.1, o)) b2 b3 (by decide) z
      simp only [s230_0, s230_1, s230_2, s230_5, s230_8, s230_9, s230_12, s230_13, s230_16, s230_19, s230_20, s230_23, s230_24, qx_up_eq, qi_12, qi_22, k1, h1, qbt, qbf, qi_z0, true_or, List.length_cons, List.length_nil, Nat.zero_le, Nat.reduceAdd, Nat.reduceLeDiff, Option.bind_some, qx_kn_v, qx_kn_n, Nat.add_zero, Bool.false_eq_true, ↓reduceIte]
  · have hn14 : n ≤ 14 := hp.1
    have hn0 : M.1 101 0 = nI n := hu.1
    by_cases hz : qOut n z
    · refine qPair_of hR 2 0 (by decide) ?_ ?_
      · rw [if_neg (by decide)]
        simp only [s100_0, s100_1, s100_2, qx_m10, a160o b1 hn0 hz, List.length_cons, List.length_nil, Nat.zero_le, Nat.reduceAdd, Nat.reduceLeDiff, Option.bind_some, qx_kn_v, qx_kn_n, Nat.add_zero, Bool.false_eq_true, ↓reduceIte]
        exact qx_kn_t rfl rfl rfl
      · intro o
        refine ⟨nI 0, ?_, fun h => absurd h (by decide)⟩
        have h1 := fun (d : Nat) => b226b (L := L) (xs := xs) (d := d) (x := 0) (M := (M.1, o)) b2 hm.1 hn14 hz
        simp only [s230_0, s230_1, s230_2, s230_5, s230_8, s230_9, s230_12, s230_13, s230_16, s230_19, s230_20, s230_23, s230_24, qx_up_eq, qi_12, qi_22, k1, h1, qbt, qbf, qi_z0, true_or, List.length_cons, List.length_nil, Nat.zero_le, Nat.reduceAdd, Nat.reduceLeDiff, Option.bind_some, qx_kn_v, qx_kn_n, Nat.add_zero, Bool.false_eq_true, ↓reduceIte]
    obtain ⟨p, p1, p2⟩ := qOut_not (by omega) hz
    subst p2
    have hp14 : p < 14 := by omega
    have hneed := fun (d x : Nat) => a160 (L := L) (xs := xs) (d := d) (x := x) b1 hn0 hn14 p1
    have hmay := fun (o : (Nat → Int64) × (Nat → UInt64)) (d : Nat) => b226c (L := L) (xs := xs) (d := d) (x := 0) (M := (M.1, o)) b2 hm.1 hn14 p1
    have hZ : qx_Z 104 := qx_T100.2.2
    have hP : qx_P 101 := qx_T100.2.1
    have hst0 : M.1 104 0 = nI st := hS.1.1
    have hsn : qp_al r q (f p) p < 2 ^ n := qp_al_ltn (hp.2.2.2.1 p hp14).1
    have hs : qp_al r q (f p) p < 16384 := by have := n14 hn14; omega
    have h42 := m42 (L := L) (xs := xs) (d := d + 37) (x := 0) (M := M) hP hp14 hp.2.1 hu.2.1 hu.2.2.1 hp.2.2.1 (hu.2.2.2.1 p hp14)
    have g1 := a100l (L := L) (xs := xs) (d := d + 39) (y := nI p) (z := v) (M := M) hs 14 0 0 (qp_al r q (f p) p) 0 14 (by omega) (fun j => ⟨fun h => ⟨h, Nat.zero_le j⟩, fun h => h.1⟩) (qb_pc_le _)
    refine qPair_of hR 0 (km 14 (qp_al r q (f p) p) 0 v) (by decide) ?_ (fun o => ⟨km 14 (qp_al r q (f p) p) 0 v, ?_, fun _ => rfl⟩)
    · rw [if_pos rfl]
      simp only [s100_0, s100_1, s100_2, s100_5, s100_6, s100_9, s100_12, s100_13, s100_16i, s100_16r, s100_16n, s100_17, s100_18i, s100_18r, s100_18n, s100_20, s100_21i, s100_21r, s100_21n, qx_m10, qx_T100.1, hP.1, hneed, h42, List.length_cons, List.length_nil, Nat.zero_le, Nat.reduceAdd, Nat.reduceLeDiff, Option.bind_some, qx_kn_v, qx_kn_n, Nat.add_zero, Bool.false_eq_true, ↓reduceIte]
      exact g1
    · by_cases hz : v < 0
      · have hz2 : (0 ≤ v) = False := eq_false (fun y => by
          rw [← i_nlt] at y
          exact y hz)
        rw [km_neg hz 14 _ 0 (by omega)]
        simp only [s230_0, s230_1, s230_2, s230_5, s230_8, s230_9, s230_12, s230_13, s230_16, s230_19, s230_20, s230_23, s230_24, k1, hmay, qbt, hz2, qx_up_eq, qi_02, List.length_cons, List.length_nil, Nat.zero_le, Nat.reduceAdd, Nat.reduceLeDiff, Option.bind_some, qx_kn_v, qx_kn_n, Nat.add_zero, Bool.false_eq_true, ↓reduceIte]
      · obtain ⟨j, j1, j2⟩ := i_ge0 hz
        have hz2 : (0 ≤ v) = True := eq_true (by
          rw [← i_nlt]
          exact hz)
        have h220 := m220 (L := L) (xs := xs) (d := d + 36) (x := 0) (M := qx_up (M.1, o) 400 0 (nI 0)) hp14 hm.1 hn14 (hm.2.2.2.1 p hp14) (hp.2.2.2.1 p hp14).1 hm.2.1 hp.2.1 hm.2.2.1 hp.2.2.1
        have g2 := m230l (L := L) (xs := xs) (d := d + 38) (y := nI p) (M := qx_up (M.1, o) 400 0 (nI 0)) j1 14 0 0 (qp_al r q (f p) p) (qb_pc_le _) hs (Nat.zero_le _) (by omega)
        rw [← j2] at g2
        simp only [s230_0, s230_1, s230_2, s230_5, s230_8, s230_9, s230_12, s230_13, s230_16, s230_19, s230_20, s230_23, s230_24, s230_25, s230_26, s230_27, s230_30i, s230_30r, s230_30n, s230_31, s230_32i, s230_32r, s230_32n, k1, hmay, qbt, hz2, h220, List.length_cons, List.length_nil, Nat.zero_le, Nat.reduceAdd, Nat.reduceLeDiff, Option.bind_some, qx_kn_v, qx_kn_n, Nat.add_zero, Bool.false_eq_true, ↓reduceIte]
        exact g2
theorem qx_dd : qb_all (fun a => (List.range 14).all (fun b => decide (FP.ddiv (FP.i2d (nI a)) (FP.i2d (nI (b + 1))) &&& 0x7fffffffffffffff ≤ 0x7ff0000000000000))) 200 0 = true := by decide +kernel
theorem qx_dd_ok {a b : Nat} (ha : a < 200) (hb : 0 < b) (hb2 : b ≤ 14) : FP.ddiv (FP.i2d (nI a)) (FP.i2d (nI b)) &&& 0x7fffffffffffffff ≤ 0x7ff0000000000000 := by
  have h1 := qb_all_of qx_dd a (Nat.zero_le _) (by omega)
  have h2 := of_decide_eq_true (List.all_eq_true.mp h1 (b - 1) (List.mem_range.mpr (by omega)))
  rw [show b - 1 + 1 = b by omega] at h2
  exact h2
theorem qx_de : qb_all (fun a => (List.range 14).all (fun b => decide (Op.cmpValue (FP.dcmp (FP.ddiv (FP.i2d (nI a)) (FP.i2d (nI (b + 1)))) (FP.ddiv (FP.i2d (nI a)) (FP.i2d (nI (b + 1))))) .l = 0))) 200 0 = true := by decide +kernel
theorem qx_de_ok {a b : Nat} (ha : a < 200) (hb : 0 < b) (hb2 : b ≤ 14) : Op.cmpValue (FP.dcmp (FP.ddiv (FP.i2d (nI a)) (FP.i2d (nI b))) (FP.ddiv (FP.i2d (nI a)) (FP.i2d (nI b)))) .l = 0 := by
  have h1 := qb_all_of qx_de a (Nat.zero_le _) (by omega)
  have h2 := of_decide_eq_true (List.all_eq_true.mp h1 (b - 1) (List.mem_range.mpr (by omega)))
  rw [show b - 1 + 1 = b by omega] at h2
  exact h2
/-- numbers that equal themselves -/
def qPd (v : UInt64) : Prop := Op.cmpValue (FP.dcmp v v) .l = 0
def qPf (v : UInt32) : Prop := FP.f2d v &&& 0x7fffffffffffffff ≤ 0x7ff0000000000000 ∧ Op.cmpValue (FP.dcmp (FP.f2d v) (FP.f2d v)) .l = 0
abbrev qYd : Type := {v : UInt64 // qPd v}
abbrev qYf : Type := {v : UInt32 // qPf v}
theorem qPd_0 : qPd FP.dconst0 := by
  unfold qPd
  decide +kernel
theorem qPf_0 : qPf FP.fconst0 := by
  unfold qPf
  decide +kernel
theorem qx_fe : (List.range 20).all (fun a => (List.range 14).all (fun b => decide (FP.f2d (FP.fdiv (FP.i2f (nI a)) (FP.i2f (nI (b + 1)))) &&& 0x7fffffffffffffff ≤ 0x7ff0000000000000) && decide (Op.cmpValue (FP.dcmp (FP.f2d (FP.fdiv (FP.i2f (nI a)) (FP.i2f (nI (b + 1))))) (FP.f2d (FP.fdiv (FP.i2f (nI a)) (FP.i2f (nI (b + 1)))))) .l = 0))) = true := by decide +kernel
theorem qx_fe_ok {a b : Nat} (ha : a < 20) (hb : 0 < b) (hb2 : b ≤ 14) : qPf (FP.fdiv (FP.i2f (nI a)) (FP.i2f (nI b))) := by
  have h1 := List.all_eq_true.mp qx_fe a (List.mem_range.mpr ha)
  have h2 := List.all_eq_true.mp h1 (b - 1) (List.mem_range.mpr (by omega))
  rw [show b - 1 + 1 = b by omega, Bool.and_eq_true] at h2
  exact ⟨of_decide_eq_true h2.1, of_decide_eq_true h2.2⟩
theorem qx_fd : (List.range 20).all (fun a => (List.range 14).all (fun b => decide (FP.fdiv (FP.i2f (nI a)) (FP.i2f (nI (b + 1))) &&& 0x7fffffff ≤ 0x7f800000))) = true := by decide +kernel
theorem qx_fd_ok {a b : Nat} (ha : a < 20) (hb : 0 < b) (hb2 : b ≤ 14) : FP.fdiv (FP.i2f (nI a)) (FP.i2f (nI b)) &&& 0x7fffffff ≤ 0x7f800000 := by
  have h1 := List.all_eq_true.mp qx_fd a (List.mem_range.mpr ha)
  have h2 := of_decide_eq_true (List.all_eq_true.mp h1 (b - 1) (List.mem_range.mpr (by omega)))
  rw [show b - 1 + 1 = b by omega] at h2
  exact h2
theorem j139 {M : qxM} {B : Nat} (hR : qREL M) (hT0 : qTab B M) (hB : B < 90000) : qPairG (fun v : qYd => Value.double v.1) B L xs (d + 40) 139 [some (.ref 10), none] 309 [some (.ref 400)] ke0 M := by
  obtain ⟨k1, k2, k3⟩ := qx_m400
  rcases qREL_cmp hR with ⟨b1, b2, b3, b4⟩ | ⟨b1, b2, n, r, q, f, mt, s1, s2, s3, s4, st, rt, sp, bm, ou, inn, qb, e, as, qa, bs, lk, nr, fr, wy, hp, hn1, hT, hou, hinn, he14, hst4, hu, ⟨a1, a2, a3, a4⟩, hS, hm, ⟨v1, v2, v3, v4⟩, h35, hN⟩
  · refine qPairG_of hT0 hR 1 ⟨FP.dconst0, qPd_0⟩ (by decide) ?_ ?_
    · rw [if_neg (by decide)]
      simp only [s139_0, s139_1, qx_m10, a159t b1, List.length_cons, List.length_nil, Nat.zero_le, Nat.reduceAdd, Nat.reduceLeDiff, Option.bind_some, qx_kn_v, qx_kn_n, Nat.add_zero, Bool.false_eq_true, ↓reduceIte]
      exact qx_kn_t rfl rfl rfl
    · intro o
      refine ⟨⟨FP.dconst0, qPd_0⟩, ?_, fun h => absurd h (by decide)⟩
      have h1 := fun (d : Nat) => b263a (L := L) (xs := xs) (d := d) (x := 0) (M := (M.1, o)) b2
      simp only [s309_0, s309_1, s309_4, s309_7, s309_8, s309_9, s309_10, s309_13, s309_14, s309_15, s309_16, s309_19, s309_20, s309_21, s309_22, s309_23, s309_26, s309_27, k1, h1, qbt, qbf, qi_z0, true_or, List.length_cons, List.length_nil, Nat.zero_le, Nat.reduceAdd, Nat.reduceLeDiff, Option.bind_some, qx_kn_v, qx_kn_n, Nat.add_zero, Bool.false_eq_true, ↓reduceIte]
  · have hn14 : n ≤ 14 := hp.1
    have hn0 : M.1 101 0 = nI n := hu.1
    have hneed := fun (d x : Nat) => a159 (L := L) (xs := xs) (d := d) (x := x) b1
    have hmay := fun (o : (Nat → Int64) × (Nat → UInt64)) (d : Nat) => b263c (L := L) (xs := xs) (d := d) (x := 0) (M := (M.1, o)) b2
    have hZ : qx_Z 104 := qx_T100.2.2
    have hP : qx_P 101 := qx_T100.2.1
    have hst0 : M.1 104 0 = nI st := hS.1.1
    have hsm : qp_sm (fun p => qb_pc (qp_al r q (f p) p)) 0 n / 2 ≤ 98 := by
      have := qp_sm_le (f := fun p => qb_pc (qp_al r q (f p) p)) (c := 14) (fun j => qb_pc_le _) n 0
      omega
    have h45 := m45 (L := L) (xs := xs) (d := d + 36) (x := 0) (M := M) hP hn0 hn14 hp.2.1 hu.2.1 hu.2.2.1 hp.2.2.1 (fun p h => ⟨hu.2.2.2.1 p h, qp_f14 hp h⟩)
    have hle : ¬ nI n ≤ 0 := nI_nle (by omega) (by omega)
    have hdd := qx_dd_ok (a := 2 * (qp_sm (fun p => qb_pc (qp_al r q (f p) p)) 0 n / 2)) (b := n) (by omega) (by omega) hn14
    have hsd : qPd (FP.ddiv (FP.i2d (nI (2 * (qp_sm (fun p => qb_pc (qp_al r q (f p) p)) 0 n / 2)))) (FP.i2d (nI n))) := qx_de_ok (by omega) (by omega) hn14
    refine qPairG_of hT0 hR 0 ⟨FP.ddiv (FP.i2d (nI (2 * (qp_sm (fun p => qb_pc (qp_al r q (f p) p)) 0 n / 2)))) (FP.i2d (nI n)), hsd⟩ (by decide) ?_ (fun o => ⟨⟨FP.ddiv (FP.i2d (nI (2 * (qp_sm (fun p => qb_pc (qp_al r q (f p) p)) 0 n / 2)))) (FP.i2d (nI n)), hsd⟩, ?_, fun _ => rfl⟩)
    · rw [if_pos rfl]
      simp only [s139_0, s139_1, s139_4, s139_5, s139_8, s139_11, s139_14i, s139_14r, s139_14n, s139_15, s139_16, s139_19, s139_20, s139_21, s139_24, s139_27, s139_30, s139_31, s139_32, s139_33, s139_34, s139_35, s139_38, s139_39, qx_m10, qx_T100.1, hP.1, hneed, hn0, hle, h45, pk_mul, hdd, List.length_cons, List.length_nil, Nat.zero_le, Nat.reduceAdd, Nat.reduceLeDiff, Option.bind_some, qx_kn_v, qx_kn_n, Nat.add_zero, Bool.false_eq_true, ↓reduceIte]
    · have h222 := g222 (L := L) (xs := xs) (d := d + 35) (x := 0) (M := qx_up (M.1, o) 400 0 (nI 0)) hp (nPu_F hm (qf_refl qFm M) o (nI 0)) true
      rw [← bI_t] at h222
      have hn3 : (qx_up (M.1, o) 400 0 (nI 0)).1 401 0 = nI n := hm.1
      simp only [if_true] at h222
      simp only [s309_0, s309_1, s309_4, s309_7, s309_8, s309_9, s309_10, s309_13, s309_14, s309_15, s309_16, s309_19, s309_20, s309_21, s309_22, s309_23, s309_26, s309_27, k1, k2, k3, hmay, qbt, h222, pk_mul, hn3, hdd, (qn_c (0) (by omega)).1, (qn_c (0) (by omega)).2, List.length_cons, List.length_nil, Nat.zero_le, Nat.reduceAdd, Nat.reduceLeDiff, Option.bind_some, qx_kn_v, qx_kn_n, Nat.add_zero, Bool.false_eq_true, ↓reduceIte]
theorem j140 {M : qxM} {B : Nat} (hR : qREL M) (hT0 : qTab B M) (hB : B < 90000) : qPairG (fun v : qYf => Value.float v.1) B L xs (d + 40) 140 [some (.ref 10), none] 310 [some (.ref 400)] ke0 M := by
  obtain ⟨k1, k2, k3⟩ := qx_m400
  rcases qREL_cmp hR with ⟨b1, b2, b3, b4⟩ | ⟨b1, b2, n, r, q, f, mt, s1, s2, s3, s4, st, rt, sp, bm, ou, inn, qb, e, as, qa, bs, lk, nr, fr, wy, hp, hn1, hT, hou, hinn, he14, hst4, hu, ⟨a1, a2, a3, a4⟩, hS, hm, ⟨v1, v2, v3, v4⟩, h35, hN⟩
  · refine qPairG_of hT0 hR 1 ⟨FP.fconst0, qPf_0⟩ (by decide) ?_ ?_
    · rw [if_neg (by decide)]
      simp only [s140_0, s140_1, qx_m10, a159t b1, List.length_cons, List.length_nil, Nat.zero_le, Nat.reduceAdd, Nat.reduceLeDiff, Option.bind_some, qx_kn_v, qx_kn_n, Nat.add_zero, Bool.false_eq_true, ↓reduceIte]
      exact qx_kn_t rfl rfl rfl
    · intro o
      refine ⟨⟨FP.fconst0, qPf_0⟩, ?_, fun h => absurd h (by decide)⟩
      have h1 := fun (d : Nat) => b263a (L := L) (xs := xs) (d := d) (x := 0) (M := (M.1, o)) b2
      simp only [s310_0, s310_1, s310_4, s310_7, s310_8, s310_9, s310_12, s310_13, s310_14, s310_15, s310_18, s310_19, s310_20, s310_21, s310_22, s310_25, s310_26, k1, h1, qbt, qbf, qi_z0, true_or, List.length_cons, List.length_nil, Nat.zero_le, Nat.reduceAdd, Nat.reduceLeDiff, Option.bind_some, qx_kn_v, qx_kn_n, Nat.add_zero, Bool.false_eq_true, ↓reduceIte]
  · have hn14 : n ≤ 14 := hp.1
    have hn0 : M.1 101 0 = nI n := hu.1
    have hneed := fun (d x : Nat) => a159 (L := L) (xs := xs) (d := d) (x := x) b1
    have hmay := fun (o : (Nat → Int64) × (Nat → UInt64)) (d : Nat) => b263c (L := L) (xs := xs) (d := d) (x := 0) (M := (M.1, o)) b2
    have hZ : qx_Z 104 := qx_T100.2.2
    have hP : qx_P 101 := qx_T100.2.1
    have hst0 : M.1 104 0 = nI st := hS.1.1
    have hnp : qm_np n mt ≤ 7 := by
      unfold qm_np
      have := fb_ct_le (fun p => decide (mt p < 14)) n
      omega
    have h48 := g48 (L := L) (xs := xs) (d := d + 37) (x := 0) hP hn14 hn0 hu.2.2.2.2
    have hle : ¬ nI n ≤ 0 := nI_nle (by omega) (by omega)
    have hdd := qx_fd_ok (a := 2 * qm_np n mt) (b := n) (by omega) (by omega) hn14
    have hsd : qPf (FP.fdiv (FP.i2f (nI (2 * qm_np n mt))) (FP.i2f (nI n))) := qx_fe_ok (by omega) (by omega) hn14
    refine qPairG_of hT0 hR 0 ⟨FP.fdiv (FP.i2f (nI (2 * qm_np n mt))) (FP.i2f (nI n)), hsd⟩ (by decide) ?_ (fun o => ⟨⟨FP.fdiv (FP.i2f (nI (2 * qm_np n mt))) (FP.i2f (nI n)), hsd⟩, ?_, fun _ => rfl⟩)
    · rw [if_pos rfl]
      simp only [s140_0, s140_1, s140_4, s140_5, s140_8, s140_11, s140_14i, s140_14r, s140_14n, s140_15, s140_16, s140_19, s140_20, s140_21, s140_24, s140_27, s140_30, s140_31, s140_32, s140_33, s140_34, s140_35, s140_38, s140_39, qx_m10, qx_T100.1, hP.1, hneed, hn0, hle, h48, pk_mul, hdd, List.length_cons, List.length_nil, Nat.zero_le, Nat.reduceAdd, Nat.reduceLeDiff, Option.bind_some, qx_kn_v, qx_kn_n, Nat.add_zero, Bool.false_eq_true, ↓reduceIte]
    · have hu2 := nPu_F hm (qf_refl qFm M) o (nI 0)
      have h224 := fun d => g224 (L := L) (xs := xs) (d := d) (x := 0) (M := qx_up (M.1, o) 400 0 (nI 0)) (n := n) (mt := mt) hn14 hu2.1 hu2.2.2.2.2
      have hn3 : (qx_up (M.1, o) 400 0 (nI 0)).1 401 0 = nI n := hm.1
      simp only [s310_0, s310_1, s310_4, s310_7, s310_8, s310_9, s310_12, s310_13, s310_14, s310_15, s310_18, s310_19, s310_20, s310_21, s310_22, s310_25, s310_26, k1, k2, k3, hmay, qbt, h224, pk_mul, hn3, hdd, (qn_c (0) (by omega)).1, (qn_c (0) (by omega)).2, List.length_cons, List.length_nil, Nat.zero_le, Nat.reduceAdd, Nat.reduceLeDiff, Option.bind_some, qx_kn_v, qx_kn_n, Nat.add_zero, Bool.false_eq_true, ↓reduceIte]
end QL
