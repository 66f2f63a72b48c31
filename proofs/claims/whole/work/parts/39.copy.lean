/-! Pupils and Ways: cleared, copied. -/
/-- a row's first n taken over from f -/
def qp_cp (f g : Nat → Int32) (n : Nat) : Nat → Int32 := fun j => if j < n then f j else g j
section QL
variable {L : Nat} {xs : Nat → Int32} {d x : Nat} {M : qxM}
theorem m34 {t : Nat} (hP : qx_P t) : Rs L xs (d + 1) 34 0 [some (.ref t)] [] M x = some (.inl none, qx_ur (qx_ur (qx_up (qx_up (qx_up M t 0 (nI 0)) t 1 (nI 0)) t 2 (nI 0)) (t + 1) (qp_cp (fun _ => nI 0) (M.1 (t + 1)) 14)) (t + 2) (qp_cp (fun _ => -1) (M.1 (t + 2)) 14), x) := by
  obtain ⟨k1, k2, k3, k4, k5⟩ := hP
  simp only [s34_0, s34_1, s34_2, s34_5, s34_6, s34_7, s34_10, s34_11, s34_12, s34_15, s34_16, s34_19, s34_20, s34_23, s34_24, s34_27, s34_28, s34_31, k1, m175 k2 k3 (show 14 < 2 ^ 31 by decide), m175 k4 k5 (show 14 < 2 ^ 31 by decide), List.length_cons, List.length_nil, Nat.zero_le, Nat.reduceAdd, Nat.reduceLeDiff, Option.bind_some, qx_kn_n, Nat.add_zero]
  have e1 : (qx_up (qx_up (qx_up M t 0 (nI 0)) t 1 (nI 0)) t 2 (nI 0)).1 (t + 1) = M.1 (t + 1) := by
    rw [qx_up_ur, qx_ur_ne _ _ (by omega), qx_up_ur, qx_ur_ne _ _ (by omega), qx_up_ur, qx_ur_ne _ _ (by omega)]
  have e2 : (qx_up (qx_up (qx_up M t 0 (nI 0)) t 1 (nI 0)) t 2 (nI 0)).1 (t + 2) = M.1 (t + 2) := by
    rw [qx_up_ur, qx_ur_ne _ _ (by omega), qx_up_ur, qx_ur_ne _ _ (by omega), qx_up_ur, qx_ur_ne _ _ (by omega)]
  rw [qx_ur_ne (t := t + 1) (a := t + 2) _ _ (by omega), e1, e2]
  rfl
theorem m85 {t : Nat} (hY : qx_Y t) : Rs L xs (d + 1) 85 0 [some (.ref t)] [] M x = some (.inl none, qx_ur M (t + 2) (qp_cp (fun _ => nI 0) (M.1 (t + 2)) 14), x) := by
  obtain ⟨k1, k2, k3, k4, k5⟩ := hY
  simp only [s85_0, s85_1, s85_4, s85_5, s85_8, k1, m175 k4 k5 (show 14 < 2 ^ 31 by decide), List.length_cons, List.length_nil, Nat.zero_le, Nat.reduceAdd, Nat.reduceLeDiff, Option.bind_some, qx_kn_n, Nat.add_zero]
  rfl
theorem m86 {t u : Nat} (hY : qx_Y t) (hU : qx_Y u) (h : u + 2 ≠ t + 1) : Rs L xs (d + 1) 86 0 [some (.ref t), some (.ref u)] [] M x = some (.inl none, qx_ur (qx_ur M (t + 1) (qp_cp (M.1 (u + 1)) (M.1 (t + 1)) 196)) (t + 2) (qp_cp (M.1 (u + 2)) (M.1 (t + 2)) 14), x) := by
  obtain ⟨k1, k2, k3, k4, k5⟩ := hY
  obtain ⟨l1, l2, l3, l4, l5⟩ := hU
  simp only [s86_0, s86_1, s86_4, s86_5, s86_8, s86_11, s86_12, s86_15, s86_16, s86_19, s86_22, k1, l1, m176 l2 k2 l3 k3 (show 196 < 2 ^ 31 by decide), m176 l4 k4 l5 k5 (show 14 < 2 ^ 31 by decide), List.length_cons, List.length_nil, Nat.zero_le, Nat.reduceAdd, Nat.reduceLeDiff, Option.bind_some, qx_kn_n, Nat.add_zero]
  rw [qx_ur_ne (t := t + 1) (a := t + 2) _ _ (by omega), qx_ur_ne (t := t + 1) (a := u + 2) _ _ h]
  rfl
end QL
