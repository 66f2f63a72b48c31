/-! The Model: small things. Its block is M.1 401. -/
theorem qx_m400 : qx_kd 400 = 18 ∧ qx_kd 401 = 0 ∧ qx_ln 401 = 335 := by decide +kernel
section QL
variable {L : Nat} {xs : Nat → Int32} {d x : Nat} {M : qxM}
theorem m208 {s p : Nat} (hs : s < 2 ^ 31) (hp : p < 31) : Rs L xs d 208 0 [some (.int (nI s)), some (.int (nI p))] [] M x = some (.inl (some (.int (bI (s.testBit p)))), M, x) := by
  have h := qb_has hs (show p < 32 by omega)
  have z : (nI 1 = nI 1) = True := by decide
  have z3 : (nI 0 = nI 1) = False := by decide
  simp only [s208_0, s208_1, s208_2, s208_3, s208_4, s208_5, s208_6, s208_9, s208_10, s208_13, s208_14, h]
  cases s.testBit p
  · simp only [Bool.false_eq_true, ↓reduceIte, z3, qx_z0, s208_0, s208_1, s208_2, s208_3, s208_4, s208_5, s208_6, s208_9, s208_10, s208_13, s208_14]
    rfl
  · simp only [↓reduceIte, z, qx_z1, s208_0, s208_1, s208_2, s208_3, s208_4, s208_5, s208_6, s208_9, s208_10, s208_13, s208_14]
    rfl
theorem m209l {z : Int32} : ∀ (k s n : Nat), s < 16384 → qb_pc s = k → n + k < 1000 → Rs L xs d 209 4 [some (.int z), some (.int (nI n)), some (.int (nI s))] [] M x = some (.inl (some (.int (nI (n + k)))), M, x) := by
  intro k
  induction k with
  | zero =>
    intro s n hs hk hn
    have h0 : s = 0 := by
      rcases Nat.eq_zero_or_pos s with h | h
      · exact h
      · have := (qb_lw_ok hs h).2.2.2.2
        omega
    subst h0
    have h1 : (nI 0 = 0) = True := by decide
    simp only [s209_0, s209_1i, s209_1r, s209_1n, s209_2, s209_3i, s209_3r, s209_3n, s209_4, s209_5, s209_8i, s209_8r, s209_8n, s209_11, s209_12, s209_13, s209_14, s209_15, s209_16i, s209_16r, s209_16n, s209_20, s209_21, h1, ↓reduceIte]
    rfl
  | succ k ih =>
    intro s n hs hk hn
    have h0 : 0 < s := by
      rcases Nat.eq_zero_or_pos s with h | h
      · subst h
        have : qb_pc 0 = 0 := by decide +kernel
        omega
      · exact h
    have h1 : (nI s = 0) = False := eq_false (nI_ne0 h0 (by omega))
    have h2 := (qb_lw_ok hs h0).2.2.2.2
    simp only [s209_0, s209_1i, s209_1r, s209_1n, s209_2, s209_3i, s209_3r, s209_3n, s209_4, s209_5, s209_8i, s209_8r, s209_8n, s209_11, s209_12, s209_13, s209_14, s209_15, s209_16i, s209_16r, s209_16n, s209_20, s209_21, h1, ↓reduceIte, pk_sub (show 1 ≤ s by omega), fa_and, nI_add]
    rw [s209_17, ih (s &&& (s - 1)) (n + 1) (Nat.lt_of_le_of_lt Nat.and_le_left hs) (by omega) (by omega)]
    congr 6
    omega
/-- bits -/
theorem m209 {s : Nat} (hs : s < 16384) : Rs L xs d 209 0 [some (.int (nI s)), none, none] [] M x = some (.inl (some (.int (nI (qb_pc s)))), M, x) := by
  have h := m209l (L := L) (xs := xs) (d := d) (M := M) (x := x) (z := nI s) (qb_pc s) s 0 hs rfl (by have := qb_pc_le s; omega)
  rw [Nat.zero_add] at h
  simp only [s209_0, s209_1i, s209_1r, s209_1n, s209_2, s209_3i, s209_3r, s209_3n, s209_5, s209_8i, s209_8r, s209_8n, s209_11, s209_12, s209_13, s209_14, s209_15, s209_16i, s209_16r, s209_16n, s209_17, s209_20, s209_21]
  exact h
/-- lowest -/
theorem m210 {s : Nat} (hs : s < 16384) (h0 : 0 < s) : Rs L xs (d + 1) 210 0 [some (.int (nI s))] [] M x = some (.inl (some (.int (nI (qb_lo s)))), M, x) := by
  obtain ⟨h1, h2, h3, h4, h5⟩ := qb_lw_ok hs h0
  have hlt : 2 ^ qb_lo s - 1 < 16384 := by
    have := Nat.pow_lt_pow_right (a := 2) (by decide) h1
    omega
  simp only [s210_0, s210_1, s210_2, s210_3, s210_4, s210_5, s210_6, s210_9, h3, pk_sub Nat.one_le_two_pow, m209 hlt, qb_pc_low _ h1, List.length_nil, Nat.zero_le, Option.bind_some, qx_kn_v, Nat.add_zero]
theorem m213 {p : Nat} (hp : p < 14) : Rs L xs d 213 0 [some (.ref 400), some (.int (nI p))] [] M x = some (.inl (some (.int (M.1 401 (21 + p)))), M, x) := by
  obtain ⟨k1, k2, k3⟩ := qx_m400
  have hj : qx_ib (nI (21 + p)) 335 = true := qx_ib_of (by omega) (by decide)
  simp only [s213_0, s213_1, s213_4, s213_6, s213_7, s213_8, s213_9, k1, k2, k3, Nat.reduceAdd, nI_add, hj, nI_clamp (show 21 + p < 2 ^ 31 by omega)]
theorem m214 {a b : Nat} (ha : a < 14) (hb : b < 14) : Rs L xs d 214 0 [some (.ref 400), some (.int (nI a)), some (.int (nI b))] [] M x = some (.inl none, qx_up (qx_up M 401 (21 + a) (nI b)) 401 (21 + b) (nI a), x) := by
  obtain ⟨k1, k2, k3⟩ := qx_m400
  have hj : qx_ib (nI (21 + a)) 335 = true := qx_ib_of (by omega) (by decide)
  have hj2 : qx_ib (nI (21 + b)) 335 = true := qx_ib_of (by omega) (by decide)
  simp only [s214_0, s214_1, s214_4, s214_6, s214_7, s214_8, s214_9, s214_10, s214_11, s214_14, s214_16, s214_17, s214_18, s214_19, s214_20, k1, k2, k3, Nat.reduceAdd, nI_add, hj, hj2, nI_clamp (show 21 + a < 2 ^ 31 by omega), nI_clamp (show 21 + b < 2 ^ 31 by omega)]
end QL
