/-! More copies; the Model's friends, parting. -/
section QL
variable {L : Nat} {xs : Nat → Int32} {d x : Nat} {M : qxM}
/-- three numbers taken over -/
def qp_c3 (M : qxM) (t u : Nat) : qxM := qx_up (qx_up (qx_up M t 0 (M.1 u 0)) t 1 (M.1 u 1)) t 2 (M.1 u 2)
theorem qx_up_ne (M : qxM) {t a : Nat} (k : Nat) (v : Int32) (h : a ≠ t) : (qx_up M t k v).1 a = M.1 a := by rw [qx_up_ur]; exact qx_ur_ne M _ h
theorem m35 {t u : Nat} (hP : qx_P t) (hU : qx_P u) (h0 : u ≠ t) (h1 : u + 1 ≠ t) (h2 : u + 2 ≠ t) (h3 : u + 2 ≠ t + 1) : Rs L xs (d + 1) 35 0 [some (.ref t), some (.ref u)] [] M x = some (.inl none, qx_ur (qx_ur (qp_c3 M t u) (t + 1) (qp_cp (M.1 (u + 1)) (M.1 (t + 1)) 14)) (t + 2) (qp_cp (M.1 (u + 2)) (M.1 (t + 2)) 14), x) := by
  obtain ⟨k1, k2, k3, k4, k5⟩ := hP
  obtain ⟨l1, l2, l3, l4, l5⟩ := hU
  have z : (14 : Nat) < 2 ^ 31 := by decide
  simp only [s35_0, s35_1, s35_2, s35_5, s35_8, s35_9, s35_10, s35_13, s35_16, s35_17, s35_18, s35_21, s35_24, s35_25, s35_28, s35_29, s35_32, s35_35, s35_36, s35_39, s35_40, s35_43, s35_46, k1, l1, qx_up_ne _ _ _ h0, m176 l2 k2 l3 k3 z, m176 l4 k4 l5 k5 z, List.length_cons, List.length_nil, Nat.zero_le, Nat.reduceAdd, Nat.reduceLeDiff, Option.bind_some, qx_kn_n, Nat.add_zero]
  have e1 : ∀ a, a ≠ t → (qx_up (qx_up (qx_up M t 0 (M.1 u 0)) t 1 (M.1 u 1)) t 2 (M.1 u 2)).1 a = M.1 a := fun a ha => by rw [qx_up_ne _ _ _ ha, qx_up_ne _ _ _ ha, qx_up_ne _ _ _ ha]
  rw [qx_ur_ne (t := t + 1) (a := t + 2) _ _ (by omega), qx_ur_ne (t := t + 1) (a := u + 2) _ _ h3, e1 (t + 1) (by omega), e1 (t + 2) (by omega), e1 _ h1, e1 _ h2]
  rfl
theorem m215 {a b : Nat} (ha : a < 14) (hb : b < 14) (hm : M.1 401 (21 + a) = nI b) : Rs L xs (d + 1) 215 0 [some (.ref 400), some (.int (nI a))] [] M x = some (.inl none, qx_up (qx_up M 401 (21 + b) (-1)) 401 (21 + a) (-1), x) := by
  obtain ⟨k1, k2, k3⟩ := qx_m400
  have hj : qx_ib (nI (21 + a)) 335 = true := qx_ib_of (by omega) (by decide)
  have hj2 : qx_ib (nI (21 + b)) 335 = true := qx_ib_of (by omega) (by decide)
  simp only [s215_0, s215_1, s215_4, s215_6, s215_7, s215_8, s215_11, s215_12, s215_13, s215_14, s215_15, s215_18, s215_20, s215_21, s215_22, s215_23, s215_24, k1, k2, k3, Nat.reduceAdd, nI_add, hj, hj2, nI_clamp (show 21 + a < 2 ^ 31 by omega), nI_clamp (show 21 + b < 2 ^ 31 by omega), m213 ha, hm, List.length_cons, List.length_nil, Nat.zero_le, Nat.reduceLeDiff, Option.bind_some, qx_kn_v, Nat.add_zero]
end QL
