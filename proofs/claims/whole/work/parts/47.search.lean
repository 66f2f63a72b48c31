/-! Search: labels, its queue. -/
section QL
variable {L : Nat} {xs : Nat → Int32} {d x : Nat} {M : qxM}
theorem m57 {t p o i : Nat} (hZ : qx_Z t) (hp : p < 14) (ho : M.1 t 4 = nI o) (ho2 : o < 16384) (hi : M.1 t 5 = nI i) (hi2 : i < 16384) : Rs L xs (d + 1) 57 0 [some (.ref t), some (.int (nI p))] [] M x = some (.inl (some (.int (nI (if o.testBit p then 1 else if i.testBit p then 2 else 0)))), M, x) := by
  simp only [s57_0, s57_1, s57_4, s57_5, s57_8, s57_11, s57_12, s57_15, s57_16, s57_19, s57_20, s57_23, s57_26, s57_27, s57_30, s57_31, hZ.1, ho, hi, m170 (show o < 2 ^ 31 by omega) (show p < 31 by omega), m170 (show i < 2 ^ 31 by omega) (show p < 31 by omega), bI_0, List.length_cons, List.length_nil, Nat.zero_le, Nat.reduceAdd, Nat.reduceLeDiff, Option.bind_some, qx_kn_v, Nat.add_zero]
  cases o.testBit p <;> cases i.testBit p <;> rfl
theorem m61 {t b e i : Nat} (hZ : qx_Z t) (hb : M.1 t 6 = nI b) (he : M.1 t 7 = nI e) (hbe : b ≤ e) (he2 : e ≤ 14) (hi : i < e - b) : Rs L xs (d + 1) 61 0 [some (.ref t), some (.int (nI i))] [] M x = some (.inl (some (.int (M.1 (t + 1) (b + i)))), M, x) := by
  have hZ2 := hZ
  obtain ⟨k1, k2, k3⟩ := hZ
  obtain ⟨l1, l2⟩ := k2 1 (by decide) (by decide)
  have h1 : ¬ nI i < 0 := nI_pos (by omega)
  have h2 : ¬ nI (e - b) ≤ nI i := nI_ge hi (by omega)
  simp only [s61_0, s61_1, s61_4, s61_5, s61_6, s61_9, s61_12, s61_13, s61_16, s61_17, s61_20, s61_21, s61_22, s61_25, s61_28, s61_29, k1, m60 hZ2, hb, he, pk_sub hbe, h1, h2, nI_add, m173 l1 l2 (show b + i < 14 by omega) (by decide), List.length_cons, List.length_nil, Nat.zero_le, Nat.reduceAdd, Nat.reduceLeDiff, Option.bind_some, qx_kn_v, Nat.add_zero, ↓reduceIte]
end QL
