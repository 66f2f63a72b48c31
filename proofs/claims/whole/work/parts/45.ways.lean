/-! Ways: a way added behind a way. -/
/-- pupils from i on of the way of other, laid behind that of p -/
def qp_aw (p o : Nat) : Nat → Nat → (Nat → Int32) → Nat → (Nat → Int32)
  | 0, _, W, _ => W
  | k + 1, i, W, n => qp_aw p o k (i + 1) (upd W (p * 14 + n) (W (o * 14 + i))) (n + 1)
theorem qx_ur_swap (M : qxM) {a b : Nat} (h : a ≠ b) (f g : Nat → Int32) : qx_ur (qx_ur M a f) b g = qx_ur (qx_ur M b g) a f := by
  unfold qx_ur
  congr 1
  funext z
  dsimp only
  by_cases h1 : z = a
  · subst h1
    rw [if_neg h, if_pos rfl, if_pos rfl]
  · rw [if_neg h1, if_neg h1]
section QL
variable {L : Nat} {xs : Nat → Int32} {d x : Nat}
theorem m90l {t p o m : Nat} (hY : qx_Y t) (hp : p < 14) (ho : o < 14) (hpo : p ≠ o) (hm2 : m ≤ 14) : ∀ (k i n : Nat) (M : qxM), i + k = m → n + k ≤ 14 → M.1 (t + 2) p = nI n → M.1 (t + 2) o = nI m →
    Rs L xs (d + 2) 90 9 [some (.ref t), some (.int (nI p)), some (.int (nI o)), some (.int (nI m)), some (.int (nI i))] [] M x = some (.inl none, qx_ur (qx_ur M (t + 1) (qp_aw p o k i (M.1 (t + 1)) n)) (t + 2) (upd (M.1 (t + 2)) p (nI (n + k))), x) := by
  have hY2 := hY
  obtain ⟨k1, k2, k3, k4, k5⟩ := hY
  intro k
  induction k with
  | zero =>
    intro i n M hi hn hp2 ho2
    have h1 : (nI m ≤ nI i) = True := by rw [show i = m by omega]; exact eq_true (Int32.le_refl _)
    simp only [s90_0, s90_1, s90_2, s90_5i, s90_5r, s90_5n, s90_6, s90_7i, s90_7r, s90_7n, s90_9, s90_11, s90_12, s90_15, s90_16, s90_17, s90_18, s90_19, s90_21, s90_24, s90_27i, s90_27r, s90_27n, s90_33, h1, ↓reduceIte]
    unfold qp_aw
    rw [qx_ur_self, show n + 0 = n from rfl, fa_upd_same hp2, qx_ur_self]
  | succ k ih =>
    intro i n M hi hn hp2 ho2
    have h1 : ¬ nI m ≤ nI i := nI_ge (by omega) (by omega)
    simp only [s90_0, s90_1, s90_2, s90_5i, s90_5r, s90_5n, s90_6, s90_7i, s90_7r, s90_7n, s90_9, s90_11, s90_12, s90_15, s90_16, s90_17, s90_18, s90_19, s90_21, s90_24, s90_27i, s90_27r, s90_27n, s90_33, h1, ↓reduceIte, k1, m88 hY2 ho ho2 hm2 (show i < m by omega), m89 hY2 hp hp2 (show n < 14 by omega), List.length_cons, List.length_nil, Nat.zero_le, Nat.reduceAdd, Nat.reduceLeDiff, Option.bind_some, qx_kn_v, qx_kn_n, Nat.add_zero, nI_add]
    have e2 : (qx_up (qx_up M (t + 1) (p * 14 + n) (M.1 (t + 1) (o * 14 + i))) (t + 2) p (nI (n + 1))).1 (t + 2) = upd (M.1 (t + 2)) p (nI (n + 1)) := by
      rw [qx_up_ur, qx_ur_eq, qx_up_ne _ _ _ (by omega)]
    have e1 : (qx_up (qx_up M (t + 1) (p * 14 + n) (M.1 (t + 1) (o * 14 + i))) (t + 2) p (nI (n + 1))).1 (t + 1) = upd (M.1 (t + 1)) (p * 14 + n) (M.1 (t + 1) (o * 14 + i)) := by
      rw [qx_up_ne _ _ _ (by omega), qx_up_ur, qx_ur_eq]
    rw [s90_30, ih (i + 1) (n + 1) _ (by omega) (by omega) (by rw [e2]; unfold upd; rw [if_pos rfl]) (by rw [e2]; unfold upd; rw [if_neg (by omega)]; exact ho2), e1, e2]
    rw [qx_up_ur, qx_up_ur, qx_ur_swap (a := t + 2) (b := t + 1) _ (by omega), qx_ur_ur, qx_ur_ur, fa_upd_twice, show n + 1 + k = n + (k + 1) by omega]
    rfl
/-- addWayOf -/
theorem m90 {t p o m n : Nat} {M : qxM} (hY : qx_Y t) (hp : p < 14) (ho : o < 14) (hpo : p ≠ o) (hm2 : n + m ≤ 14) (hp2 : M.1 (t + 2) p = nI n) (ho2 : M.1 (t + 2) o = nI m) :
    Rs L xs (d + 2) 90 0 [some (.ref t), some (.int (nI p)), some (.int (nI o)), none, none] [] M x = some (.inl none, qx_ur (qx_ur M (t + 1) (qp_aw p o m 0 (M.1 (t + 1)) n)) (t + 2) (upd (M.1 (t + 2)) p (nI (n + m))), x) := by
  have h := m90l (L := L) (xs := xs) (d := d) (x := x) hY hp ho hpo (show m ≤ 14 by omega) m 0 n M (by omega) hm2 hp2 ho2
  simp only [s90_0, s90_1, s90_2, s90_5i, s90_5r, s90_5n, s90_6, s90_7i, s90_7r, s90_7n, s90_11, s90_12, s90_15, s90_16, s90_17, s90_18, s90_19, s90_21, s90_24, s90_27i, s90_27r, s90_27n, s90_30, s90_33, hY.1, m87 hY ho, ho2, List.length_cons, List.length_nil, Nat.zero_le, Nat.reduceAdd, Nat.reduceLeDiff, Option.bind_some, qx_kn_v, Nat.add_zero]
  exact h
end QL
