/-! Ways. -/
/-- a Ways at t -/
def qx_Y (t : Nat) : Prop := qx_kd t = 16 ∧ qx_kd (t + 1) = 0 ∧ qx_ln (t + 1) = 196 ∧ qx_kd (t + 2) = 0 ∧ qx_ln (t + 2) = 14
section QL
variable {L : Nat} {xs : Nat → Int32} {d x : Nat} {M : qxM}
theorem m87 {t p : Nat} (hY : qx_Y t) (hp : p < 14) : Rs L xs d 87 0 [some (.ref t), some (.int (nI p))] [] M x = some (.inl (some (.int (M.1 (t + 2) p))), M, x) := by
  obtain ⟨k1, k2, k3, k4, k5⟩ := hY
  have hj : qx_ib (nI p) 14 = true := qx_ib_of hp (by decide)
  obtain ⟨h1, h2, h3, h4⟩ := qx_nI14 (n := 14) hp (by decide)
  simp only [s87_0, s87_1, s87_4, s87_5, s87_6, s87_9, s87_10, s87_13, s87_14, s87_17, s87_18, s87_19, s87_22, s87_23, k1, k4, k5, hj, qx_06, h1, h2, h3, ↓reduceIte]
theorem m88 {t p i n : Nat} (hY : qx_Y t) (hp : p < 14) (hn : M.1 (t + 2) p = nI n) (hn2 : n ≤ 14) (hi : i < n) : Rs L xs (d + 1) 88 0 [some (.ref t), some (.int (nI p)), some (.int (nI i))] [] M x = some (.inl (some (.int (M.1 (t + 1) (p * 14 + i)))), M, x) := by
  have hY2 := hY
  obtain ⟨k1, k2, k3, k4, k5⟩ := hY
  have h1 : ¬ nI i < 0 := nI_pos (by omega)
  have h2 : ¬ nI n ≤ nI i := nI_ge hi (by omega)
  simp only [s88_0, s88_1, s88_4, s88_5, s88_6, s88_7, s88_10, s88_13, s88_14, s88_17, s88_18, s88_20, s88_21, s88_22, s88_23, s88_26, s88_29, s88_30, k1, m87 hY2 hp, hn, h1, h2, pk_mul, nI_add, m173 k2 k3 (show p * 14 + i < 196 by omega) (by decide), List.length_cons, List.length_nil, Nat.zero_le, Nat.reduceAdd, Nat.reduceLeDiff, Option.bind_some, qx_kn_v, Nat.add_zero, ↓reduceIte]
/-- add -/
theorem m89 {t p n : Nat} {v : Int32} (hY : qx_Y t) (hp : p < 14) (hn : M.1 (t + 2) p = nI n) (hn2 : n < 14) : Rs L xs (d + 1) 89 0 [some (.ref t), some (.int (nI p)), some (.int v), none] [] M x = some (.inl none, qx_up (qx_up M (t + 1) (p * 14 + n) v) (t + 2) p (nI (n + 1)), x) := by
  have hY2 := hY
  obtain ⟨k1, k2, k3, k4, k5⟩ := hY
  have h2 : ¬ nI 14 ≤ nI n := nI_ge hn2 (by decide)
  simp only [s89_0, s89_1, s89_2, s89_5i, s89_5r, s89_5n, s89_6, s89_7, s89_9, s89_12, s89_13, s89_16, s89_17, s89_19, s89_20, s89_21, s89_22, s89_23, s89_26, s89_27, s89_30, s89_31, s89_32, s89_33, s89_34, s89_37, k1, m87 hY2 hp, hn, h2, pk_mul, nI_add, m174 k2 k3 (show p * 14 + n < 196 by omega) (by decide), m174 k4 k5 hp (by decide), List.length_cons, List.length_nil, Nat.zero_le, Nat.reduceAdd, Nat.reduceLeDiff, Option.bind_some, qx_kn_v, qx_kn_n, Nat.add_zero, ↓reduceIte]
end QL
