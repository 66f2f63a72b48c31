/-! Rows filled, copied. -/
section QL
variable {L : Nat} {xs : Nat → Int32} {d x : Nat}
theorem m175l {t n : Nat} {v : Int32} (hk : qx_kd t = 0) (hn : qx_ln t = n) (hn2 : n < 2 ^ 31) : ∀ (k i : Nat) (M : qxM), i + k = n →
    Rs L xs d 175 2 [some (.ref t), some (.int v), some (.int (nI i))] [] M x = some (.inl none, qx_ur M t (fun j => if i ≤ j ∧ j < n then v else M.1 t j), x) := by
  intro k
  induction k with
  | zero =>
    intro i M hi
    have h1 : (nI n ≤ nI i) = True := by rw [show i = n by omega]; exact eq_true (Int32.le_refl _)
    simp only [s175_0, s175_1i, s175_1r, s175_1n, s175_2, s175_3, s175_4, s175_5, s175_8, s175_9, s175_10, s175_11, s175_12i, s175_12r, s175_12n, s175_18, hk, hn, qx_06, h1, ↓reduceIte]
    have e : (fun j => if i ≤ j ∧ j < n then v else M.1 t j) = M.1 t := by
      funext j
      rw [if_neg (by omega)]
    rw [e, qx_ur_self]
  | succ k ih =>
    intro i M hi
    have h1 : ¬ nI n ≤ nI i := nI_ge (by omega) hn2
    have hj : qx_ib (nI i) n = true := qx_ib_of (by omega) hn2
    simp only [s175_0, s175_1i, s175_1r, s175_1n, s175_2, s175_3, s175_4, s175_5, s175_8, s175_9, s175_10, s175_11, s175_12i, s175_12r, s175_12n, s175_18, hk, hn, hj, qx_06, h1, ↓reduceIte, nI_add, nI_clamp (show i < 2 ^ 31 by omega)]
    rw [s175_15, ih (i + 1) _ (by omega), qx_up_ur, qx_ur_eq, qx_ur_ur]
    congr 4
    funext j
    unfold upd
    by_cases h : j = i
    · subst h
      rw [if_neg (by omega), if_pos rfl, if_pos (by omega)]
    · rw [if_neg h]
      by_cases h2 : i ≤ j ∧ j < n
      · rw [if_pos h2, if_pos (by omega)]
      · rw [if_neg h2, if_neg (by omega)]
/-- fillRow -/
theorem m175 {t n : Nat} {v : Int32} {M : qxM} (hk : qx_kd t = 0) (hn : qx_ln t = n) (hn2 : n < 2 ^ 31) : Rs L xs d 175 0 [some (.ref t), some (.int v), none] [] M x = some (.inl none, qx_ur M t (fun j => if j < n then v else M.1 t j), x) := by
  have h := m175l (L := L) (xs := xs) (d := d) (x := x) (v := v) hk hn hn2 n 0 M (by omega)
  simp only [s175_0, s175_1i, s175_1r, s175_1n, s175_3, s175_4, s175_5, s175_8, s175_9, s175_10, s175_11, s175_12i, s175_12r, s175_12n, s175_15, s175_18]
  simp only [Nat.zero_le, true_and] at h
  exact h
/-- copyRow, of rows of one length -/
theorem m176 {t t0 n : Nat} {M : qxM} (hk0 : qx_kd t0 = 0) (hk : qx_kd t = 0) (hn0 : qx_ln t0 = n) (hn : qx_ln t = n) (hn2 : n < 2 ^ 31) : Rs L xs d 176 0 [some (.ref t0), some (.ref t)] [] M x = some (.inl none, qx_ur M t (fun j => if j < n then M.1 t0 j else M.1 t j), x) := by
  have h1 : ¬ nI n < nI n := nI_nlt (Nat.le_refl n) hn2
  simp only [s176_0, s176_1, s176_2, s176_3, s176_4, s176_5, s176_6, s176_7, s176_8, s176_14, hk0, hk, hn0, hn, qx_06, h1, List.length_cons, List.length_nil, Nat.zero_le, Nat.reduceAdd, Nat.reduceLeDiff, ↓reduceIte]
  rw [s176_11 hk0 hk ⟨by decide, by decide, nI_pos hn2, by rw [hn0, nI_clamp hn2]; show 0 + n ≤ n; omega, by rw [hn, nI_clamp hn2]; show 0 + n ≤ n; omega, by decide⟩, s176_14]
  congr 4
  funext j
  unfold va_cpy
  rw [nI_clamp hn2, show (nI 0).toNatClampNeg = 0 from by decide]
  by_cases h : j < n
  · rw [if_pos ⟨Nat.zero_le _, by omega⟩, if_pos h, Nat.zero_add, Nat.sub_zero]
  · rw [if_neg (by omega), if_neg h]
end QL
