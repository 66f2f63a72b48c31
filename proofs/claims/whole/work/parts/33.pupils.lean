/-! Pupils: what forbids a pair. -/
theorem qx_up_ur (M : qxM) (t k : Nat) (v : Int32) : qx_up M t k v = qx_ur M t (upd (M.1 t) k v) := by
  unfold qx_up qx_ur
  congr 1
  funext a j
  by_cases h : a = t
  · subst h
    simp only [upd, true_and, ↓reduceIte]
  · simp only [h, false_and, ↓reduceIte]
theorem qx_ur_eq (M : qxM) (t : Nat) (f : Nat → Int32) : (qx_ur M t f).1 t = f := by
  unfold qx_ur
  simp
theorem qx_ur_ne (M : qxM) {t a : Nat} (f : Nat → Int32) (h : a ≠ t) : (qx_ur M t f).1 a = M.1 a := by
  unfold qx_ur
  simp [h]
theorem qx_ur_ur (M : qxM) (t : Nat) (f g : Nat → Int32) : qx_ur (qx_ur M t f) t g = qx_ur M t g := by
  unfold qx_ur
  congr 1
  funext a
  by_cases h : a = t <;> simp [h]
theorem qx_ur_self (M : qxM) (t : Nat) : qx_ur M t (M.1 t) = M := by
  unfold qx_ur
  have h : (fun a => if a = t then M.1 t else M.1 a) = M.1 := by
    funext a
    by_cases h : a = t
    · rw [if_pos h, h]
    · rw [if_neg h]
  rw [h]
/-- parts the forbidden pairs from i on: the mates, and how many were parted -/
def qp_pf (al : Nat → Nat) : Nat → Nat → (Nat → Int32) → Nat → (Nat → Int32) × Nat
  | 0, _, g, c => (g, c)
  | k + 1, i, g, c => if g i = -1 ∨ (al i).testBit (g i).toNatClampNeg = true then qp_pf al k (i + 1) g c else qp_pf al k (i + 1) (upd (upd g (g i).toNatClampNeg (-1)) i (-1)) (c + 1)
/-- mates: none, or one of fourteen -/
def qp_mt (g : Nat → Int32) : Prop := ∀ p, p < 14 → g p = -1 ∨ ∃ q, q < 14 ∧ g p = nI q
theorem qp_mt_upd {g : Nat → Int32} (h : qp_mt g) (k : Nat) : qp_mt (upd g k (-1)) := by
  intro p hp
  unfold upd
  by_cases hk : p = k
  · rw [if_pos hk]; exact Or.inl rfl
  · rw [if_neg hk]; exact h p hp
section QL
variable {L : Nat} {xs : Nat → Int32} {d x : Nat}
theorem m51l {t n r q : Nat} {f : Nat → Nat} (hP : qx_P t) (hn2 : n ≤ 14) (hr : r ≤ 2) (hq2 : q < 16384) : ∀ (k i c : Nat) (M : qxM) (a3 : Option Value), i + k = n → c + k ≤ 1000 → M.1 t 0 = nI n → M.1 t 1 = nI r → M.1 t 2 = nI q → (∀ p, p < 14 → M.1 (t + 1) p = nI (f p) ∧ f p < 16384) → qp_mt (M.1 (t + 2)) →
    Rs L xs (d + 3) 51 4 [some (.ref t), some (.int (nI c)), some (.int (nI i)), a3] [] M x = some (.inl (some (.int (nI (qp_pf (fun p => qp_al r q (f p) p) k i (M.1 (t + 2)) c).2))), qx_ur M (t + 2) (qp_pf (fun p => qp_al r q (f p) p) k i (M.1 (t + 2)) c).1, x) := by
  intro k
  induction k with
  | zero =>
    intro i c M a3 hi hc hn hr2 hq hf hm
    have h1 : (nI n ≤ nI i) = True := by rw [show i = n by omega]; exact eq_true (Int32.le_refl _)
    simp only [s51_0, s51_1i, s51_1r, s51_1n, s51_2, s51_3i, s51_3r, s51_3n, s51_4, s51_5, s51_6, s51_9, s51_12, s51_13, s51_14, s51_17i, s51_17r, s51_17n, s51_18, s51_19, s51_20, s51_23, s51_24, s51_25, s51_28, s51_29, s51_32, s51_35, s51_36, s51_37, s51_40i, s51_40r, s51_40n, s51_43i, s51_43r, s51_43n, s51_49, s51_50, hP.1, hn, h1, ↓reduceIte]
    unfold qp_pf
    rw [qx_ur_self]
  | succ k ih =>
    intro i c M a3 hi hc hn hr2 hq hf hm
    have h1 : ¬ nI n ≤ nI i := nI_ge (by omega) (by omega)
    have hp : i < 14 := by omega
    obtain ⟨g1, g2⟩ := hf i hp
    have g3 := qp_al_lt (r := r) (k := q) (p := i) g2
    rcases hm i hp with h | ⟨b, hb, h⟩
    · simp only [s51_0, s51_1i, s51_1r, s51_1n, s51_2, s51_3i, s51_3r, s51_3n, s51_4, s51_5, s51_6, s51_9, s51_12, s51_13, s51_14, s51_17i, s51_17r, s51_17n, s51_18, s51_19, s51_20, s51_23, s51_24, s51_25, s51_28, s51_29, s51_32, s51_35, s51_36, s51_37, s51_40i, s51_40r, s51_40n, s51_43i, s51_43r, s51_43n, s51_49, s51_50, hP.1, hn, h1, ↓reduceIte, List.length_cons, List.length_nil, Nat.zero_le, Nat.reduceAdd, Nat.reduceLeDiff, m46 hP hp, h, Option.bind_some, qx_kn_v, Nat.add_zero, nI_add]
      rw [s51_46, ih (i + 1) c M _ (by omega) (by omega) hn hr2 hq hf hm]
      conv => rhs; unfold qp_pf
      rw [if_pos (Or.inl h)]
    · have hb1 : ¬ nI b = -1 := by
        intro e
        have := nI_pos (n := b) (by omega)
        rw [e] at this
        exact this (by decide)
      simp only [s51_0, s51_1i, s51_1r, s51_1n, s51_2, s51_3i, s51_3r, s51_3n, s51_4, s51_5, s51_6, s51_9, s51_12, s51_13, s51_14, s51_17i, s51_17r, s51_17n, s51_18, s51_19, s51_20, s51_23, s51_24, s51_25, s51_28, s51_29, s51_32, s51_35, s51_36, s51_37, s51_40i, s51_40r, s51_40n, s51_43i, s51_43r, s51_43n, s51_49, s51_50, hP.1, hn, h1, ↓reduceIte, List.length_cons, List.length_nil, Nat.zero_le, Nat.reduceAdd, Nat.reduceLeDiff, m46 hP hp, h, hb1, m42 hP hp hr hr2 hq hq2 g1, m170 (show qp_al r q (f i) i < 2 ^ 31 by omega) (show b < 31 by omega), Option.bind_some, qx_kn_v, qx_kn_n, Nat.add_zero, nI_add, bI_0, m50 hP hp hb h]
      have hcl : (M.1 (t + 2) i).toNatClampNeg = b := by rw [h]; exact nI_clamp (by omega)
      cases hbit : (qp_al r q (f i) i).testBit b with
      | true =>
        rw [if_neg (by decide), s51_46, ih (i + 1) c M _ (by omega) (by omega) hn hr2 hq hf hm]
        conv => rhs; unfold qp_pf
        rw [hcl, if_pos (Or.inr hbit)]
      | false =>
        rw [if_pos rfl, s51_46, qx_up_ur, qx_up_ur, qx_ur_eq, qx_ur_ur]
        have e0 : ∀ G, (qx_ur M (t + 2) G).1 t = M.1 t := fun G => qx_ur_ne M G (by omega)
        have e1 : ∀ G, (qx_ur M (t + 2) G).1 (t + 1) = M.1 (t + 1) := fun G => qx_ur_ne M G (by omega)
        rw [ih (i + 1) (c + 1) _ _ (by omega) (by omega) (by rw [e0]; exact hn) (by rw [e0]; exact hr2) (by rw [e0]; exact hq) (by rw [e1]; exact hf) (by rw [qx_ur_eq]; exact qp_mt_upd (qp_mt_upd hm b) i), qx_ur_eq, qx_ur_ur]
        conv => rhs; unfold qp_pf
        rw [hcl, if_neg (by
          rintro (e | e)
          · exact hb1 (by rw [← h]; exact e)
          · rw [hbit] at e
            cases e)]
theorem m51 {t n r q : Nat} {f : Nat → Nat} {M : qxM} (hP : qx_P t) (hn2 : n ≤ 14) (hr : r ≤ 2) (hq2 : q < 16384) (hn : M.1 t 0 = nI n) (hr2 : M.1 t 1 = nI r) (hq : M.1 t 2 = nI q) (hf : ∀ p, p < 14 → M.1 (t + 1) p = nI (f p) ∧ f p < 16384) (hm : qp_mt (M.1 (t + 2))) :
    Rs L xs (d + 3) 51 0 [some (.ref t), none, none, none] [] M x = some (.inl (some (.int (nI (qp_pf (fun p => qp_al r q (f p) p) n 0 (M.1 (t + 2)) 0).2))), qx_ur M (t + 2) (qp_pf (fun p => qp_al r q (f p) p) n 0 (M.1 (t + 2)) 0).1, x) := by
  have h := m51l (L := L) (xs := xs) (d := d) (x := x) (f := f) hP hn2 hr hq2 n 0 0 M none (by omega) (by omega) hn hr2 hq hf hm
  simp only [s51_0, s51_1i, s51_1r, s51_1n, s51_2, s51_3i, s51_3r, s51_3n, s51_5, s51_6, s51_9, s51_12, s51_13, s51_14, s51_17i, s51_17r, s51_17n, s51_18, s51_19, s51_20, s51_23, s51_24, s51_25, s51_28, s51_29, s51_32, s51_35, s51_36, s51_37, s51_40i, s51_40r, s51_40n, s51_43i, s51_43r, s51_43n, s51_46, s51_49, s51_50]
  exact h
theorem m38 {t p q : Nat} {M : qxM} (hP : qx_P t) (hp : p < 14) (hq : M.1 t 2 = nI q) (b : Bool) : Rs L xs (d + 1) 38 0 [some (.ref t), some (.int (nI p)), some (.int (bI b))] [] M x = some (.inl none, qx_up M t 2 (nI (if b then q ||| 2 ^ p else qb_dif q (2 ^ p))), x) := by
  cases b with
  | true =>
    have h : (bI true = nI 1) = True := by decide
    simp only [s38_0, s38_1, s38_2, s38_3, s38_6, s38_7, s38_10, s38_11, s38_14, s38_15, s38_18, s38_19, s38_22, s38_23, s38_26, s38_27, s38_28, s38_29, s38_32, hP.1, hq, h, ↓reduceIte, List.length_cons, List.length_nil, Nat.zero_le, Nat.reduceAdd, Nat.reduceLeDiff, m169 (show p < 31 by omega), Option.bind_some, qx_kn_v, Nat.add_zero, qb_or, qb_andn]
  | false =>
    have h : (bI false = nI 1) = False := by decide
    simp only [s38_0, s38_1, s38_2, s38_3, s38_6, s38_7, s38_10, s38_11, s38_14, s38_15, s38_18, s38_19, s38_22, s38_23, s38_26, s38_27, s38_28, s38_29, s38_32, hP.1, hq, h, ↓reduceIte, List.length_cons, List.length_nil, Nat.zero_le, Nat.reduceAdd, Nat.reduceLeDiff, m169 (show p < 31 by omega), Option.bind_some, qx_kn_v, Nat.add_zero, qb_or, qb_andn, Bool.false_eq_true]
end QL
