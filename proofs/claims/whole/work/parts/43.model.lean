/-! The Model: those with whom a pupil may be paired. -/
theorem qb_shl0 {p : Nat} (hp : p < 32) : nI 0 <<< (nI p &&& 31) = nI 0 := by
  apply b_ext
  intro i hi
  rw [b_shl p hp _ hi, qb_bt 0 (by omega), qb_bt 0 hi]
  simp
theorem qb_shlb {p : Nat} (hp : p < 31) (b : Bool) : bI b <<< (nI p &&& 31) = nI (if b then 2 ^ p else 0) := by
  cases b
  · exact qb_shl0 (by omega)
  · exact qb_shl (by omega)
theorem qb_mods (a i : Nat) : (a % 2 ^ i) ||| (if a.testBit i then 2 ^ i else 0) = a % 2 ^ (i + 1) := by
  apply Nat.eq_of_testBit_eq
  intro j
  rw [Nat.testBit_or, Nat.testBit_mod_two_pow, Nat.testBit_mod_two_pow]
  cases h : a.testBit i
  · rw [if_neg (by decide), Nat.zero_testBit, Bool.or_false]
    by_cases hj : j = i
    · subst hj
      rw [h]
      simp
    · by_cases h2 : j < i
      · simp [h2, show j < i + 1 by omega]
      · simp [h2, show ¬ j < i + 1 by omega]
  · rw [if_pos rfl, qb_two]
    by_cases hj : j = i
    · subst hj
      rw [h]
      simp
    · by_cases h2 : j < i
      · simp [h2, show j < i + 1 by omega, show ¬ i = j by omega]
      · simp [h2, show ¬ j < i + 1 by omega, show ¬ i = j by omega]
section QL
variable {L : Nat} {xs : Nat → Int32} {d x : Nat} {M : qxM}
theorem m179 (b : Bool) : Rs L xs d 179 0 [some (.int (bI b))] [] M x = some (.inl (some (.int (bI b))), M, x) := by
  simp only [s179_0, s179_1, s179_4, s179_5, s179_8, s179_9, bI_0]
  cases b <;> rfl
theorem m220l {p n s r q : Nat} (hp : p < 14) (hn : M.1 401 0 = nI n) (hn2 : n ≤ 14) (hs : M.1 401 (7 + p) = nI s) (hs2 : s < 16384) (hr : M.1 401 1 = nI r) (hr2 : r ≤ 2) (hq : M.1 401 2 = nI q) (hq2 : q < 16384) : ∀ (k i : Nat), i + k = n →
    Rs L xs (d + 3) 220 4 [some (.ref 400), some (.int (nI p)), some (.int (nI (qp_al r q s p % 2 ^ i))), some (.int (nI i))] [] M x = some (.inl (some (.int (nI (qp_al r q s p % 2 ^ n)))), M, x) := by
  obtain ⟨k1, k2, k3⟩ := qx_m400
  have hj0 : qx_ib (nI 0) 335 = true := by decide
  have c0 : (nI 0).toNatClampNeg = 0 := by decide
  intro k
  induction k with
  | zero =>
    intro i hi
    have h1 : (nI n ≤ nI i) = True := by rw [show i = n by omega]; exact eq_true (Int32.le_refl _)
    simp only [s220_0, s220_1i, s220_1r, s220_1n, s220_2, s220_3i, s220_3r, s220_3n, s220_4, s220_5, s220_6, s220_9, s220_10, s220_11, s220_14, s220_15, s220_16, s220_17, s220_18, s220_21, s220_24, s220_25, s220_26, s220_27i, s220_27r, s220_27n, s220_28i, s220_28r, s220_28n, s220_34, s220_35, k1, k2, k3, hj0, c0, hn, h1, ↓reduceIte]
    rw [show i = n by omega]
  | succ k ih =>
    intro i hi
    have h1 : ¬ nI n ≤ nI i := nI_ge (by omega) (by omega)
    simp only [s220_0, s220_1i, s220_1r, s220_1n, s220_2, s220_3i, s220_3r, s220_3n, s220_4, s220_5, s220_6, s220_9, s220_10, s220_11, s220_14, s220_15, s220_16, s220_17, s220_18, s220_21, s220_24, s220_25, s220_26, s220_27i, s220_27r, s220_27n, s220_28i, s220_28r, s220_28n, s220_34, s220_35, k1, k2, k3, hj0, c0, hn, h1, ↓reduceIte, m219 hp (show i < 14 by omega) hs hs2 hr hr2 hq hq2, m179, qb_shlb (show i < 31 by omega), qb_or, qb_mods, nI_add, List.length_cons, List.length_nil, Nat.zero_le, Nat.reduceAdd, Nat.reduceLeDiff, Option.bind_some, qx_kn_v, Nat.add_zero]
    rw [s220_31, ih (i + 1) (by omega)]
theorem m220 {p n s r q : Nat} (hp : p < 14) (hn : M.1 401 0 = nI n) (hn2 : n ≤ 14) (hs : M.1 401 (7 + p) = nI s) (hs2 : s < 2 ^ n) (hr : M.1 401 1 = nI r) (hr2 : r ≤ 2) (hq : M.1 401 2 = nI q) (hq2 : q < 16384) :
    Rs L xs (d + 3) 220 0 [some (.ref 400), some (.int (nI p)), none, none] [] M x = some (.inl (some (.int (nI (qp_al r q s p)))), M, x) := by
  have h14 : 2 ^ n ≤ 2 ^ 14 := Nat.pow_le_pow_right (by decide) hn2
  have h := m220l (L := L) (xs := xs) (d := d) (M := M) (x := x) hp hn hn2 hs (by omega) hr hr2 hq hq2 n 0 (by omega)
  have hlt : qp_al r q s p < 2 ^ n := by
    unfold qp_al
    split
    · exact hs2
    · split
      · exact qb_dif_le hs2
      · exact Nat.lt_of_le_of_lt Nat.and_le_left hs2
  rw [Nat.mod_eq_of_lt hlt, show qp_al r q s p % 2 ^ 0 = 0 from Nat.mod_one _] at h
  simp only [s220_0, s220_1i, s220_1r, s220_1n, s220_2, s220_3i, s220_3r, s220_3n, s220_5, s220_6, s220_9, s220_10, s220_11, s220_14, s220_15, s220_16, s220_17, s220_18, s220_21, s220_24, s220_25, s220_26, s220_27i, s220_27r, s220_27n, s220_28i, s220_28r, s220_28n, s220_31, s220_34, s220_35]
  exact h
end QL
