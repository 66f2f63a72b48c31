/-! The Model: who may be paired. -/
theorem qp_ra_ia {r q a b : Nat} (hr : r ≤ 2) : (decide (r = 0) || ((q.testBit a == q.testBit b) == decide (r = 2))) = qp_ra r q a b := by
  unfold qp_ra
  rcases (show r = 0 ∨ r = 1 ∨ r = 2 by omega) with rfl | rfl | rfl <;> cases q.testBit a <;> cases q.testBit b <;> rfl
theorem qp_al_bit {r q s a b : Nat} (hr : r ≤ 2) : (qp_al r q s a).testBit b = (s.testBit b && qp_ra r q a b) := by
  unfold qp_al qp_ra
  rcases (show r = 0 ∨ r = 1 ∨ r = 2 by omega) with rfl | rfl | rfl
  · simp
  · cases ha : q.testBit a <;> simp [qb_dif_bit] <;> cases q.testBit b <;> simp
  · cases ha : q.testBit a <;> simp [qb_dif_bit] <;> cases q.testBit b <;> simp
section QL
variable {L : Nat} {xs : Nat → Int32} {d x : Nat} {M : qxM}
theorem m216 {a b s : Nat} (ha : a < 14) (hb : b < 14) (hs : M.1 401 (7 + a) = nI s) (hs2 : s < 16384) : Rs L xs (d + 1) 216 0 [some (.ref 400), some (.int (nI a)), some (.int (nI b))] [] M x = some (.inl (some (.int (bI (s.testBit b)))), M, x) := by
  obtain ⟨k1, k2, k3⟩ := qx_m400
  have hj : qx_ib (nI (7 + a)) 335 = true := qx_ib_of (by omega) (by decide)
  simp only [s216_0, s216_1, s216_4, s216_6, s216_7, s216_8, s216_9, s216_10, s216_13, k1, k2, k3, Nat.reduceAdd, nI_add, hj, nI_clamp (show 7 + a < 2 ^ 31 by omega), hs, m208 (show s < 2 ^ 31 by omega) (show b < 31 by omega), List.length_nil, Nat.zero_le, Option.bind_some, qx_kn_v, Nat.add_zero, bI_z]
theorem m218 {a b r q : Nat} (ha : a < 14) (hb : b < 14) (hr : M.1 401 1 = nI r) (hr2 : r ≤ 2) (hq : M.1 401 2 = nI q) (hq2 : q < 16384) : Rs L xs (d + 1) 218 0 [some (.ref 400), some (.int (nI a)), some (.int (nI b))] [] M x = some (.inl (some (.int (bI (qp_ra r q a b)))), M, x) := by
  obtain ⟨k1, k2, k3⟩ := qx_m400
  have hj1 : qx_ib (nI 1) 335 = true := by decide
  have hj2 : qx_ib (nI 2) 335 = true := by decide
  have c1 : (nI 1).toNatClampNeg = 1 := by decide
  have c2 : (nI 2).toNatClampNeg = 2 := by decide
  have h0 : (nI r = 0) = (r = 0) := by rw [← nI_0]; exact propext (nI_eq (by omega) (by omega))
  have h1 : (nI r = nI 2) = (r = 2) := propext (nI_eq (by omega) (by omega))
  have z2 : (nI 1 = nI 1) = True := by decide
  have z3 : (nI 0 = nI 1) = False := by decide
  have z4 : (nI 1 = nI 0) = False := by decide
  have z5 : (nI 0 = nI 0) = True := by decide
  simp only [s218_0, s218_1, s218_4, s218_5, s218_6, s218_9, s218_10, s218_13, s218_14, s218_15, s218_16, s218_19, s218_20, s218_23, s218_24, s218_25, s218_26, s218_29, s218_32, s218_33, s218_36, s218_37, s218_38, s218_41, s218_42, s218_43, s218_44, s218_47, s218_48, s218_51, s218_52, s218_55, s218_56, s218_59, s218_60, k1, k2, k3, Nat.reduceAdd, hj1, hj2, c1, c2, hr, hq, h0, h1, m208 (show q < 2 ^ 31 by omega) (show a < 31 by omega), m208 (show q < 2 ^ 31 by omega) (show b < 31 by omega), List.length_cons, List.length_nil, Nat.zero_le, Nat.reduceLeDiff, Option.bind_some, qx_kn_v, Nat.add_zero, bI_e, qx_z0, qx_z1, z2, z3, z4, z5, ↓reduceIte]
  rw [← qp_ra_ia hr2]
  by_cases hr0 : r = 0
  · subst hr0
    rfl
  · by_cases hr1 : r = 2
    · subst hr1
      cases q.testBit a <;> cases q.testBit b <;> rfl
    · cases q.testBit a <;> cases q.testBit b <;> simp [hr0, hr1] <;> rfl
theorem m219 {a b s r q : Nat} (ha : a < 14) (hb : b < 14) (hs : M.1 401 (7 + a) = nI s) (hs2 : s < 16384) (hr : M.1 401 1 = nI r) (hr2 : r ≤ 2) (hq : M.1 401 2 = nI q) (hq2 : q < 16384) : Rs L xs (d + 2) 219 0 [some (.ref 400), some (.int (nI a)), some (.int (nI b))] [] M x = some (.inl (some (.int (bI ((qp_al r q s a).testBit b)))), M, x) := by
  simp only [s219_0, s219_1, s219_2, s219_3, s219_6, s219_9, s219_10, s219_11, s219_12, s219_15, s219_18, s219_19, s219_22, s219_23, m216 ha hb hs hs2, m218 ha hb hr hr2 hq hq2, qx_m400.1, List.length_nil, Nat.zero_le, Option.bind_some, qx_kn_v, Nat.add_zero, bI_0, qx_z0, qx_z1]
  rw [qp_al_bit hr2]
  cases s.testBit b <;> cases qp_ra r q a b <;> rfl
end QL
