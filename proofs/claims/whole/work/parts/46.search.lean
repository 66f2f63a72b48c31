/-! Search: looked at. -/
/-- a Search at t, its Ways at t + 6 -/
def qx_Z (t : Nat) : Prop := qx_kd t = 13 ∧ (∀ j, 1 ≤ j → j ≤ 5 → qx_kd (t + j) = 0 ∧ qx_ln (t + j) = 14) ∧ qx_Y (t + 6)
section QL
variable {L : Nat} {xs : Nat → Int32} {d x : Nat} {M : qxM}
theorem m56 {t : Nat} (hZ : qx_Z t) : Rs L xs d 56 0 [some (.ref t)] [] M x = some (.inl (some (.int (bI (decide (M.1 t 0 ≠ 0))))), M, x) := by
  simp only [s56_0, s56_1, s56_4, s56_7, s56_8, s56_11, s56_12, hZ.1, qx_z0, qx_z1]
  by_cases h : M.1 t 0 = 0
  · simp only [h, ↓reduceIte, ne_eq, not_true_eq_false, decide_false]
    rfl
  · simp only [h, ↓reduceIte, ne_eq, not_false_eq_true, decide_true]
    rfl
theorem m58 {t p : Nat} (hZ : qx_Z t) (hp : p < 14) : Rs L xs d 58 0 [some (.ref t), some (.int (nI p))] [] M x = some (.inl (some (.int (M.1 (t + 2) p))), M, x) := by
  obtain ⟨k1, k2, k3⟩ := hZ
  obtain ⟨l1, l2⟩ := k2 2 (by decide) (by decide)
  have hj : qx_ib (nI p) 14 = true := qx_ib_of hp (by decide)
  obtain ⟨h1, h2, h3, h4⟩ := qx_nI14 (n := 14) hp (by decide)
  simp only [s58_0, s58_1, s58_4, s58_5, s58_6, s58_9, s58_10, s58_13, s58_14, s58_17, s58_18, s58_19, s58_22, s58_23, k1, l1, l2, hj, qx_06, h1, h2, h3, ↓reduceIte]
theorem m60 {t : Nat} (hZ : qx_Z t) : Rs L xs d 60 0 [some (.ref t)] [] M x = some (.inl (some (.int (M.1 t 7 - M.1 t 6))), M, x) := by
  simp only [s60_0, s60_1, s60_4, s60_5, s60_8, s60_9, hZ.1]
end QL
