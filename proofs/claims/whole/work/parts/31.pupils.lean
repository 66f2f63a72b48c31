/-! Statics of the class, and Pupils. -/
def bI (c : Bool) : Int32 := if c then 1 else 0
theorem bI_0 (c : Bool) : (bI c = 0) = (c = false) := by cases c <;> decide
theorem bI_01 (c : Bool) : bI c = 0 ∨ bI c = 1 := by cases c <;> decide
theorem nI_bI (c : Bool) : nI (if c then 1 else 0) = bI c := by cases c <;> rfl
/-- a Pupils at t -/
def qx_P (t : Nat) : Prop := qx_kd t = 12 ∧ qx_kd (t + 1) = 0 ∧ qx_ln (t + 1) = 14 ∧ qx_kd (t + 2) = 0 ∧ qx_ln (t + 2) = 14
theorem qx_z0 : (nI 0 = 0 ∨ nI 0 = 1) = True := by decide
theorem qx_z1 : (nI 1 = 0 ∨ nI 1 = 1) = True := by decide
theorem bI_z (c : Bool) : (bI c = 0 ∨ bI c = 1) = True := by cases c <;> decide
theorem bI_t : nI 1 = bI true := rfl
theorem bI_f : nI 0 = bI false := rfl
theorem qx_06 : ((0 : Nat) < 6) = True := by decide
theorem qx_16 : ((1 : Nat) < 6) = True := by decide
section QL
variable {L : Nat} {xs : Nat → Int32} {d x : Nat} {M : qxM}
theorem m334 {z : Int32} : Rs L xs d 334 0 [some (.int z)] [] M x = some (.inl (some (.int (qb_bc z))), M, x) := by
  simp only [s334_0, s334_1, s334_2, s334_3, s334_4, s334_7, s334_8, s334_9, s334_10, s334_11, s334_14, s334_15, s334_16, s334_17, s334_18, s334_21, s334_22, s334_23, s334_24, s334_25, s334_26, s334_27, s334_28, s334_29, s334_32, s334_33, s334_34, s334_35, s334_36, s334_38, s334_39, s334_40, s334_41, s334_42, s334_43, s334_45, s334_46, s334_47, s334_48, s334_49, s334_51, s334_52]
  rfl
theorem m169 {p : Nat} (hp : p < 31) : Rs L xs d 169 0 [some (.int (nI p))] [] M x = some (.inl (some (.int (nI (2 ^ p)))), M, x) := by
  simp only [s169_0, s169_1, s169_4, s169_5, s169_6, s169_7, s169_10, s169_11]
  rw [if_neg (nI_pos (by omega)), qb_shl (by omega)]
theorem m169n : Rs L xs d 169 0 [some (.int (-1))] [] M x = some (.inl (some (.int (nI 0))), M, x) := by
  simp only [s169_0, s169_1, s169_4, s169_5, s169_6, s169_7, s169_10, s169_11]
  rw [if_pos (by decide)]
theorem m170 {s p : Nat} (hs : s < 2 ^ 31) (hp : p < 31) : Rs L xs d 170 0 [some (.int (nI s)), some (.int (nI p))] [] M x = some (.inl (some (.int (bI (s.testBit p)))), M, x) := by
  simp only [s170_0, s170_1, s170_4, s170_5, s170_6, s170_7, s170_8, s170_9, s170_12, s170_13, s170_16]
  rw [if_neg (nI_pos (by omega)), qb_has hs (by omega)]
  cases s.testBit p
  · rw [if_pos (by decide), s170_17 (by decide)]
    rfl
  · rw [if_neg (by decide), s170_17 (by decide)]
    rfl
theorem m170n {z : Int32} : Rs L xs d 170 0 [some (.int z), some (.int (-1))] [] M x = some (.inl (some (.int (bI false))), M, x) := by
  simp only [s170_0, s170_1, s170_4, s170_5, s170_6, s170_7, s170_8, s170_9, s170_12, s170_13, s170_16]
  rw [if_pos (by decide), s170_17 (by decide)]
  rfl
theorem m171 {s : Nat} (hs : s < 16384) (h0 : 0 < s) : Rs L xs (d + 1) 171 0 [some (.int (nI s))] [] M x = some (.inl (some (.int (nI (qb_lo s)))), M, x) := by
  simp only [s171_0, s171_1, s171_2, s171_3, s171_4, s171_5, s171_9]
  rw [s171_6 (by decide), m334]
  obtain ⟨h1, h2, h3, h4, h5⟩ := qb_lw_ok hs h0
  have hlt : 2 ^ qb_lo s - 1 < 16384 := by
    have := Nat.pow_lt_pow_right (a := 2) (by decide) h1
    omega
  rw [h3, pk_sub Nat.one_le_two_pow, qb_bc_ok hlt, qb_pc_low _ h1]
  simp only [Option.bind_some, qx_kn_v, Nat.add_zero, s171_9]
theorem qx_nI14 {p n : Nat} (hp : p < n) (hn : n < 2 ^ 31) : ¬ nI p < 0 ∧ ¬ nI n ≤ nI p ∧ (nI p).toNatClampNeg = p ∧ nI p < nI n := ⟨nI_pos (by omega), nI_ge hp hn, nI_clamp (by omega), nI_lt hp hn⟩
theorem m173 {t n p : Nat} (hk : qx_kd t = 0) (hn : qx_ln t = n) (hp : p < n) (hn2 : n < 2 ^ 31) : Rs L xs d 173 0 [some (.ref t), some (.int (nI p))] [] M x = some (.inl (some (.int (M.1 t p))), M, x) := by
  have hj : qx_ib (nI p) n = true := qx_ib_of hp hn2
  obtain ⟨h1, h2, h3, h4⟩ := qx_nI14 hp hn2
  simp only [s173_0, s173_1, s173_4, s173_5, s173_6, s173_7, s173_10, s173_11, s173_12, s173_13, s173_16, s173_17, hk, hn, hj, qx_06, h1, h2, h3, ↓reduceIte]
theorem m173n {t : Nat} : Rs L xs d 173 0 [some (.ref t), some (.int (-1))] [] M x = some (.inl (some (.int (-1))), M, x) := by
  simp only [s173_0, s173_1, s173_4, s173_5, s173_6, s173_7, s173_10, s173_11, s173_12, s173_13, s173_16, s173_17, show ((-1 : Int32) < 0) = True from by decide, ↓reduceIte]
/-- put -/
theorem m174 {t n p : Nat} {v : Int32} (hk : qx_kd t = 0) (hn : qx_ln t = n) (hp : p < n) (hn2 : n < 2 ^ 31) : Rs L xs d 174 0 [some (.ref t), some (.int (nI p)), some (.int v)] [] M x = some (.inl none, qx_up M t p v, x) := by
  have hj : qx_ib (nI p) n = true := qx_ib_of hp hn2
  obtain ⟨h1, h2, h3, h4⟩ := qx_nI14 hp hn2
  simp only [s174_0, s174_1, s174_4, s174_5, s174_6, s174_7, s174_10, s174_11, s174_12, s174_13, s174_14, hk, hn, hj, qx_06, h1, h2, h3, ↓reduceIte]
theorem m174n {t : Nat} {v : Int32} : Rs L xs d 174 0 [some (.ref t), some (.int (-1)), some (.int v)] [] M x = some (.inl none, M, x) := by
  simp only [s174_0, s174_1, s174_4, s174_5, s174_6, s174_7, s174_10, s174_11, s174_12, s174_13, s174_14, show ((-1 : Int32) < 0) = True from by decide, ↓reduceIte]
theorem m36 {t n : Nat} (hP : qx_P t) (h : M.1 t 0 = nI n) (hn : n ≤ 14) : Rs L xs (d + 1) 36 0 [some (.ref t)] [] M x = some (.inl (some (.int (nI (2 ^ n - 1)))), M, x) := by
  simp only [s36_0, s36_1, s36_4, s36_7, s36_8, s36_9, hP.1, h, List.length_nil, Nat.zero_le, m169 (show n < 31 by omega), Option.bind_some, qx_kn_v, pk_sub Nat.one_le_two_pow, Nat.add_zero]
theorem m39 {t p : Nat} (hP : qx_P t) (hp : p < 14) : Rs L xs d 39 0 [some (.ref t), some (.int (nI p))] [] M x = some (.inl (some (.int (M.1 (t + 1) p))), M, x) := by
  obtain ⟨k1, k2, k3, k4, k5⟩ := hP
  have hj : qx_ib (nI p) 14 = true := qx_ib_of hp (by decide)
  obtain ⟨h1, h2, h3, h4⟩ := qx_nI14 (n := 14) hp (by decide)
  simp only [s39_0, s39_1, s39_4, s39_5, s39_6, s39_9, s39_10, s39_13, s39_14, s39_17, s39_18, s39_19, s39_22, s39_23, k1, k2, k3, hj, qx_06, h1, h2, h3, ↓reduceIte]
theorem m46 {t p : Nat} (hP : qx_P t) (hp : p < 14) : Rs L xs d 46 0 [some (.ref t), some (.int (nI p))] [] M x = some (.inl (some (.int (M.1 (t + 2) p))), M, x) := by
  obtain ⟨k1, k2, k3, k4, k5⟩ := hP
  have hj : qx_ib (nI p) 14 = true := qx_ib_of hp (by decide)
  obtain ⟨h1, h2, h3, h4⟩ := qx_nI14 (n := 14) hp (by decide)
  simp only [s46_0, s46_1, s46_4, s46_5, s46_6, s46_9, s46_10, s46_13, s46_14, s46_17, s46_18, s46_19, s46_22, s46_23, k1, k4, k5, hj, qx_06, h1, h2, h3, ↓reduceIte]
theorem m46n {t : Nat} (hP : qx_P t) : Rs L xs d 46 0 [some (.ref t), some (.int (-1))] [] M x = some (.inl (some (.int (-1))), M, x) := by
  simp only [s46_0, s46_1, s46_4, s46_5, s46_6, s46_9, s46_10, s46_13, s46_14, s46_17, s46_18, s46_19, s46_22, s46_23, show ((-1 : Int32) < 0) = True from by decide, ↓reduceIte]
theorem m47 {t p : Nat} (hP : qx_P t) (hp : p < 14) : Rs L xs (d + 1) 47 0 [some (.ref t), some (.int (nI p))] [] M x = some (.inl (some (.int (bI (decide (M.1 (t + 2) p = -1))))), M, x) := by
  simp only [s47_0, s47_1, s47_2, s47_5, s47_6, s47_9, s47_10, s47_13, s47_14, hP.1, List.length_nil, Nat.zero_le, m46 hP hp, Option.bind_some, qx_kn_v, Nat.add_zero, qx_z0, qx_z1]
  by_cases h : M.1 (t + 2) p = -1
  · rw [if_pos h, decide_eq_true h]
    rfl
  · rw [if_neg h, decide_eq_false h]
    rfl
/-- the pupils' kinds are the set k -/
theorem m37 {t p k : Nat} (hP : qx_P t) (hp : p < 14) (hk : M.1 t 2 = nI k) (hk2 : k < 16384) : Rs L xs (d + 1) 37 0 [some (.ref t), some (.int (nI p))] [] M x = some (.inl (some (.int (bI (k.testBit p)))), M, x) := by
  simp only [s37_0, s37_1, s37_4, s37_5, s37_8, s37_11, s37_12, s37_15, s37_16, hP.1, hk, List.length_nil, Nat.zero_le, m170 (show k < 2 ^ 31 by omega) (show p < 31 by omega), Option.bind_some, qx_kn_v, Nat.add_zero, bI_0]
  cases k.testBit p <;> rfl
def qp_al (r k s p : Nat) : Nat := if r = 0 then s else if (r = 1) = (k.testBit p = true) then qb_dif s k else s &&& k
theorem qb_nn (a b : Nat) : nI a &&& (nI b ^^^ (-1) ^^^ (-1)) = nI (a &&& b) := by
  apply b_ext
  intro i hi
  rw [b_and, b_xor, b_xor, b_m1 i hi, qb_bt a hi, qb_bt b hi, qb_bt _ hi, Nat.testBit_and]
  simp
theorem m43 {t p r k s : Nat} (hP : qx_P t) (hp : p < 14) (hr : r ≤ 2) (hk : M.1 t 2 = nI k) (hk2 : k < 16384) (hs : M.1 (t + 1) p = nI s) : Rs L xs (d + 1) 43 0 [some (.ref t), some (.int (nI r)), some (.int (nI p)), none] [] M x = some (.inl (some (.int (nI (qp_al r k s p)))), M, x) := by
  have h0 : (nI r = 0) = (r = 0) := by rw [← nI_0]; exact propext (nI_eq (by omega) (by omega))
  have h1 : (nI r = nI 1) = (r = 1) := propext (nI_eq (by omega) (by omega))
  simp only [s43_0, s43_1, s43_4, s43_5, s43_8, s43_11, s43_12, s43_15, s43_18, s43_19, s43_22, s43_23, s43_24i, s43_24r, s43_24n, s43_25, s43_26, s43_29, s43_30, s43_31, s43_34, s43_35, s43_36, s43_37, s43_40, s43_41, s43_42, s43_45, s43_46, s43_47, s43_48, s43_51, s43_52, s43_53, hP.1, hk, List.length_nil, List.length_cons, Nat.zero_le, Nat.reduceAdd, Nat.reduceLeDiff, m170 (show k < 2 ^ 31 by omega) (show p < 31 by omega), m39 hP hp, hs, Option.bind_some, qx_kn_v, Nat.add_zero, bI_0, h0, h1, qb_andn, qb_nn, fa_and]
  unfold qp_al
  by_cases h2 : r = 0
  · subst h2
    cases k.testBit p <;> rfl
  · by_cases h3 : r = 1
    · subst h3
      cases k.testBit p <;> simp
    · cases k.testBit p <;> simp [h2, h3]
theorem m42 {t p r k s : Nat} (hP : qx_P t) (hp : p < 14) (hr : r ≤ 2) (hr2 : M.1 t 1 = nI r) (hk : M.1 t 2 = nI k) (hk2 : k < 16384) (hs : M.1 (t + 1) p = nI s) : Rs L xs (d + 2) 42 0 [some (.ref t), some (.int (nI p))] [] M x = some (.inl (some (.int (nI (qp_al r k s p)))), M, x) := by
  simp only [s42_0, s42_1, s42_2, s42_5, s42_6, s42_9, hP.1, hr2, List.length_nil, Nat.zero_le]
  have h := m43 (L := L) (xs := xs) (d := d) (x := 0) (M := M) hP hp hr hk hk2 hs
  simp only [h, Option.bind_some, qx_kn_v, Nat.add_zero, s42_0, s42_1, s42_2, s42_5, s42_6, s42_9]
end QL
