/-! Pupils: friends. -/
/-- whether the rule allows a pair -/
def qp_ra (r q a b : Nat) : Bool := decide (r = 0) || (decide (r = 1) == (q.testBit a != q.testBit b))
theorem bI_e (a b : Bool) : (bI a = bI b) = (a = b) := by cases a <;> cases b <;> decide
section QL
variable {L : Nat} {xs : Nat → Int32} {d x : Nat} {M : qxM}
theorem m41 {t a b r q : Nat} (hP : qx_P t) (ha : a < 14) (hb : b < 14) (hr : r ≤ 2) (hr2 : M.1 t 1 = nI r) (hq : M.1 t 2 = nI q) (hq2 : q < 16384) : Rs L xs (d + 2) 41 0 [some (.ref t), some (.int (nI a)), some (.int (nI b))] [] M x = some (.inl (some (.int (bI (qp_ra r q a b)))), M, x) := by
  have h0 : (nI r = 0) = (r = 0) := by rw [← nI_0]; exact propext (nI_eq (by omega) (by omega))
  have h1 : (nI r = nI 1) = (r = 1) := propext (nI_eq (by omega) (by omega))
  have z1 : (nI 1 = bI true) := rfl
  have z0 : (nI 0 = bI false) := rfl
  have z2 : (nI 1 = nI 1) = True := by decide
  have z3 : (nI 0 = nI 1) = False := by decide
  have z4 : (nI 1 = nI 0) = False := by decide
  have z5 : (nI 0 = nI 0) = True := by decide
  simp only [s41_0, s41_1, s41_4, s41_7, s41_8, s41_11, s41_12, s41_15, s41_16, s41_19, s41_20, s41_21, s41_22, s41_25, s41_26, s41_27, s41_30, s41_33, s41_34, s41_37, s41_38, s41_41, s41_42, s41_45, s41_46, hP.1, hr2, hq, h0, h1, List.length_cons, List.length_nil, Nat.zero_le, Nat.reduceAdd, Nat.reduceLeDiff, m37 hP ha hq hq2, m37 hP hb hq hq2, Option.bind_some, qx_kn_v, Nat.add_zero, bI_e, qx_z0, qx_z1, z2, z3, z4, z5, ↓reduceIte]
  unfold qp_ra
  by_cases hr0 : r = 0
  · subst hr0
    rfl
  · by_cases hr1 : r = 1
    · subst hr1
      cases q.testBit a <;> cases q.testBit b <;> rfl
    · cases q.testBit a <;> cases q.testBit b <;> simp [hr0, hr1] <;> rfl
theorem m40 {t a b u v : Nat} (hP : qx_P t) (ha : a < 14) (hb : b < 14) (hab : a ≠ b) (hu : M.1 (t + 1) a = nI u) (hv : M.1 (t + 1) b = nI v) (on : Bool) : Rs L xs (d + 1) 40 0 [some (.ref t), some (.int (nI a)), some (.int (nI b)), some (.int (bI on))] [] M x = some (.inl none, qx_up (qx_up M (t + 1) a (nI (if on then u ||| 2 ^ b else qb_dif u (2 ^ b)))) (t + 1) b (nI (if on then v ||| 2 ^ a else qb_dif v (2 ^ a))), x) := by
  have hP2 := hP
  obtain ⟨k1, k2, k3, k4, k5⟩ := hP
  have e1 : ∀ w : Int32, (qx_up M (t + 1) a w).1 (t + 1) b = nI v := by
    intro w
    unfold qx_up
    dsimp only
    rw [if_neg (by omega), hv]
  cases on <;>
  simp only [s40_0, s40_1, s40_4, s40_5, s40_6, s40_9, s40_10, s40_11, s40_14, s40_15, s40_18, s40_19, s40_22, s40_23, s40_24, s40_27, s40_28, s40_31, s40_32, s40_33, s40_34, s40_37, s40_38, s40_41, s40_42, s40_43, s40_46, s40_47, s40_48, s40_51, s40_52, s40_55, s40_56, s40_59, s40_60, s40_61, s40_64, s40_65, s40_68, s40_69, s40_70, s40_71, s40_74, k1, bI_0, hu, hv, List.length_cons, List.length_nil, Nat.zero_le, Nat.reduceAdd, Nat.reduceLeDiff, m39 hP2 ha, m39 hP2 hb, m169 (show a < 31 by omega), m169 (show b < 31 by omega), Option.bind_some, qx_kn_v, qx_kn_n, Nat.add_zero, qb_or, qb_andn, m174 k2 k3 ha (by decide), m174 k2 k3 hb (by decide), e1, Bool.true_eq_false, Bool.false_eq_true, ↓reduceIte]
end QL
