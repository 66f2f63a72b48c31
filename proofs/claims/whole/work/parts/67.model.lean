/-! The Model's search: labels, the queue, ways. -/
theorem qn_c (k : Nat) (h : k < 335) : qx_ib (nI k) 335 = true ∧ (nI k).toNatClampNeg = k := ⟨qx_ib_of h (by decide), nI_clamp (by omega)⟩
/-- what may have changed of the Model's block -/
def mf (R : Nat → Prop) (M M' : qxM) : Prop := qf (fun a => a = 401) M M' ∧ ∀ j, ¬ R j → M'.1 401 j = M.1 401 j
theorem mf_refl (R : Nat → Prop) (M : qxM) : mf R M M := ⟨qf_refl _ _, fun _ _ => rfl⟩
theorem mf_trans {R : Nat → Prop} {M M1 M2 : qxM} (h : mf R M M1) (g : mf R M1 M2) : mf R M M2 := ⟨qf_trans h.1 g.1, fun j hj => by rw [g.2 j hj, h.2 j hj]⟩
theorem mf_mono {R Q : Nat → Prop} {M M' : qxM} (h : mf R M M') (hq : ∀ j, R j → Q j) : mf Q M M' := ⟨h.1, fun j hj => h.2 j (fun z => hj (hq j z))⟩
theorem mf_up {R : Nat → Prop} (M : qxM) (k : Nat) (v : Int32) (h : R k) : mf R M (qx_up M 401 k v) := ⟨qf_up _ _ _ _ rfl, fun j hj => by rw [qx_up_at, if_neg]; rintro ⟨_, e⟩; exact hj (e ▸ h)⟩
def nW (M : qxM) (wy : Nat → List Nat) : Prop := ∀ p, p < 14 → (wy p).length ≤ 14 ∧ M.1 401 (125 + p) = nI (wy p).length ∧ ∀ i, i < (wy p).length → M.1 401 (139 + 14 * p + i) = nI ((wy p).getD i 0)
theorem nW_fr {M M' : qxM} {wy : Nat → List Nat} {R : Nat → Prop} (h : nW M wy) (hf : mf R M M') (hR : ∀ j, R j → j < 125) : nW M' wy := by
  intro p hp
  obtain ⟨h1, h2, h3⟩ := h p hp
  refine ⟨h1, ?_, ?_⟩
  · rw [hf.2 _ (fun q => by have := hR _ q; omega)]
    exact h2
  · intro i hi
    rw [hf.2 _ (fun q => by have := hR _ q; omega)]
    exact h3 i hi
theorem nW_add {p q : Nat} {M : qxM} {wy : Nat → List Nat} (h : nW M wy) (hp : p < 14) (hl : (wy p).length < 14) : nW (qx_up (qx_up M 401 (139 + 14 * p + (wy p).length) (nI q)) 401 (125 + p) (nI ((wy p).length + 1))) (qu wy p (wy p ++ [q])) := by
  intro o ho
  obtain ⟨h1, h2, h3⟩ := h o ho
  by_cases e : o = p
  · rw [e, qu_eq, List.length_append, List.length_singleton]
    refine ⟨by omega, ?_, ?_⟩
    · rw [qx_up_at, if_pos ⟨rfl, rfl⟩]
    · intro i hi
      rw [qx_up_at, if_neg (by omega), qx_up_at]
      rw [e] at h3
      by_cases ei : i = (wy p).length
      · rw [ei, if_pos ⟨rfl, rfl⟩]
        simp [List.getD_eq_getElem?_getD]
      · rw [if_neg (by omega), h3 i (by omega)]
        simp [List.getD_eq_getElem?_getD, List.getElem?_append_left (show i < (wy p).length by omega)]
  · rw [qu_ne _ _ e]
    refine ⟨h1, ?_, ?_⟩
    · rw [qx_up_at, if_neg (by omega), qx_up_at, if_neg (by omega), h2]
    · intro i hi
      have := h3 i hi
      rw [qx_up_at, if_neg (by omega), qx_up_at, if_neg (by omega), this]
section QL
variable {L : Nat} {xs : Nat → Int32} {d x : Nat}
theorem g233 {p z : Nat} {M : qxM} (hp : p < 14) : Rs L xs (d) 233 0 [some (.ref (400)), some (.int (nI p)), some (.int (nI z))] [] (M) x = some (.inl (some (.int (nI z))), qx_up M 401 (55 + p) (nI z), x) := by
  obtain ⟨k1, k2, k3⟩ := qx_m400
  simp only [s233_0, s233_1, s233_4, s233_6, s233_7, s233_8, s233_9, s233_10, s233_11, k1, k2, k3, nI_add, (qn_c (55 + p) (by omega)).1, (qn_c (55 + p) (by omega)).2, List.length_cons, List.length_nil, Nat.zero_le, Nat.reduceAdd, Nat.reduceLeDiff, Option.bind_some, qx_kn_v, qx_kn_n, Nat.add_zero, ↓reduceIte]
theorem g234 {p q : Nat} {M : qxM} (hq : M.1 401 40 = nI q) (hq2 : q < 14) : Rs L xs (d) 234 0 [some (.ref (400)), some (.int (nI p))] [] (M) x = some (.inl (none), qx_up (qx_up M 401 (41 + q) (nI p)) 401 40 (nI (q + 1)), x) := by
  obtain ⟨k1, k2, k3⟩ := qx_m400
  have e : (qx_up M 401 (41 + q) (nI p)).1 401 40 = nI q := by rw [qx_up_at, if_neg (by omega), hq]
  simp only [s234_0, s234_1, s234_4, s234_6, s234_7, s234_10, s234_12, s234_13, s234_14, s234_15, s234_16, s234_17, s234_20, s234_22, s234_23, s234_24, s234_25, s234_26, s234_27, k1, k2, k3, hq, e, nI_add, (qn_c (41 + q) (by omega)).1, (qn_c (41 + q) (by omega)).2, (qn_c (40) (by omega)).1, (qn_c (40) (by omega)).2, List.length_cons, List.length_nil, Nat.zero_le, Nat.reduceAdd, Nat.reduceLeDiff, Option.bind_some, qx_kn_v, qx_kn_n, Nat.add_zero, ↓reduceIte]
theorem g235 {p i : Nat} {M : qxM} (hp : p < 14) (hi : i < 14) : Rs L xs (d) 235 0 [some (.ref (400)), some (.int (nI p)), some (.int (nI i))] [] (M) x = some (.inl (some (.int (M.1 401 (139 + 14 * p + i)))), M, x) := by
  obtain ⟨k1, k2, k3⟩ := qx_m400
  simp only [s235_0, s235_1, s235_4, s235_7, s235_9, s235_10, s235_11, s235_12, s235_13, s235_14, s235_15, k1, k2, k3, nI_add, pk_mul, (qn_c (139 + 14 * p + i) (by omega)).1, (qn_c (139 + 14 * p + i) (by omega)).2, List.length_cons, List.length_nil, Nat.zero_le, Nat.reduceAdd, Nat.reduceLeDiff, Option.bind_some, qx_kn_v, qx_kn_n, Nat.add_zero, ↓reduceIte]
theorem g236 {p q : Nat} {M : qxM} {wy : Nat → List Nat} (hp : p < 14) (h : nW M wy) (hl : (wy p).length < 14) :
    ∃ M', Rs L xs (d) 236 0 [some (.ref (400)), some (.int (nI p)), some (.int (nI q))] [] (M) x = some (.inl (none), M', x) ∧ nW M' (qu wy p (wy p ++ [q])) ∧ mf (fun j => 125 ≤ j) M M' := by
  obtain ⟨k1, k2, k3⟩ := qx_m400
  refine ⟨_, ?_, nW_add (q := q) h hp hl, mf_trans (mf_up _ _ _ (by omega)) (mf_up _ _ _ (by omega))⟩
  have h2 := (h p hp).2.1
  have e : (qx_up M 401 (139 + 14 * p + (wy p).length) (nI q)).1 401 (125 + p) = nI (wy p).length := by rw [qx_up_at, if_neg (by omega), h2]
  simp only [s236_0, s236_1, s236_4, s236_7, s236_9, s236_10, s236_11, s236_12, s236_13, s236_16, s236_18, s236_19, s236_20, s236_21, s236_22, s236_23, s236_24, s236_25, s236_28, s236_30, s236_31, s236_32, s236_33, s236_34, s236_35, s236_36, s236_37, k1, k2, k3, nI_add, pk_mul, h2, e, (qn_c (139 + 14 * p + (wy p).length) (by omega)).1, (qn_c (139 + 14 * p + (wy p).length) (by omega)).2, (qn_c (125 + p) (by omega)).1, (qn_c (125 + p) (by omega)).2, List.length_cons, List.length_nil, Nat.zero_le, Nat.reduceAdd, Nat.reduceLeDiff, Option.bind_some, qx_kn_v, qx_kn_n, Nat.add_zero, ↓reduceIte]
theorem g237l {p o : Nat} (hp : p < 14) (ho : o < 14) (hpo : p ≠ o) : ∀ (r : List Nat) (i : Nat) (M : qxM) (wy : Nat → List Nat), (wy o).drop i = r → i ≤ (wy o).length → nW M wy → (wy p).length + r.length ≤ 14 →
    ∃ M', Rs L xs (d + 1) 237 2 [some (.ref (400)), some (.int (nI p)), some (.int (nI o)), some (.int (nI i))] [] (M) x = some (.inl (none), M', x) ∧ nW M' (qu wy p (wy p ++ r)) ∧ mf (fun j => 125 ≤ j) M M' := by
  obtain ⟨k1, k2, k3⟩ := qx_m400
  intro r
  induction r with
  | nil =>
    intro i M wy hr hil hW hl
    have hi : (wy o).length ≤ i := by
      have := congrArg List.length hr
      rw [List.length_drop, List.length_nil] at this
      omega
    have hlo := hW o ho
    have h1 : (nI (wy o).length ≤ nI i) = True := by rw [show i = (wy o).length by omega]; exact eq_true (Int32.le_refl _)
    refine ⟨M, ?_, ?_, mf_refl _ _⟩
    · simp only [s237_0, s237_1i, s237_1r, s237_1n, s237_2, s237_3, s237_4, s237_7, s237_9, s237_10, s237_11, s237_12, s237_15, s237_16, s237_17, s237_18, s237_19, s237_20, s237_23, s237_26i, s237_26r, s237_26n, s237_32, k1, k2, k3, nI_add, hlo.2.1, (qn_c (125 + o) (by omega)).1, (qn_c (125 + o) (by omega)).2, h1, ↓reduceIte]
    · rw [List.append_nil, qu_self]
      exact hW
  | cons b r ih =>
    intro i M wy hr hil hW hl
    obtain ⟨d1, d2, d3⟩ := qs_drop _ _ _ _ hr
    have hlo := hW o ho
    have h1 : ¬ nI (wy o).length ≤ nI i := nI_ge (by omega) (by omega)
    rw [List.length_cons] at hl
    obtain ⟨M1, e1, w1, f1⟩ := g236 (L := L) (xs := xs) (d := d) (x := 0) (q := b) hp hW (by omega)
    have eo : qu wy p (wy p ++ [b]) o = wy o := qu_ne _ _ (Ne.symm hpo)
    obtain ⟨M2, e2, w2, f2⟩ := ih (i + 1) M1 (qu wy p (wy p ++ [b])) (by rw [eo]; exact d3) (by rw [eo]; omega) w1 (by rw [qu_eq, List.length_append, List.length_singleton]; omega)
    rw [qu_eq, qu_twice, List.append_assoc, List.singleton_append] at w2
    refine ⟨M2, ?_, w2, mf_trans f1 f2⟩
    simp only [s237_0, s237_1i, s237_1r, s237_1n, s237_2, s237_3, s237_4, s237_7, s237_9, s237_10, s237_11, s237_12, s237_15, s237_16, s237_17, s237_18, s237_19, s237_20, s237_23, s237_26i, s237_26r, s237_26n, s237_32, h1, k1, k2, k3, hlo.2.1, g235 ho (show i < 14 by omega), hlo.2.2 i d2, d1, e1, (qn_c (125 + o) (by omega)).1, (qn_c (125 + o) (by omega)).2, List.length_cons, List.length_nil, Nat.zero_le, Nat.reduceAdd, Nat.reduceLeDiff, Option.bind_some, qx_kn_v, qx_kn_n, Nat.add_zero, ↓reduceIte, nI_add]
    rw [s237_29, e2]
theorem g237 {p o : Nat} {M : qxM} {wy : Nat → List Nat} (hp : p < 14) (ho : o < 14) (hpo : p ≠ o) (hW : nW M wy) (hl : (wy p).length + (wy o).length ≤ 14) :
    ∃ M', Rs L xs (d + 1) 237 0 [some (.ref (400)), some (.int (nI p)), some (.int (nI o)), none] [] (M) x = some (.inl (none), M', x) ∧ nW M' (qu wy p (wy p ++ wy o)) ∧ mf (fun j => 125 ≤ j) M M' := by
  obtain ⟨M1, e1, w1, f1⟩ := g237l (L := L) (xs := xs) (d := d) (x := x) hp ho hpo (wy o) 0 M wy (List.drop_zero) (Nat.zero_le _) hW hl
  refine ⟨M1, ?_, w1, f1⟩
  simp only [s237_0, s237_1i, s237_1r, s237_1n]
  exact e1
theorem g239 {M : qxM} : Rs L xs (d) 239 0 [some (.ref (400))] [] (M) x = some (.inl (none), qx_up M 401 35 (nI 0), x) := by
  obtain ⟨k1, k2, k3⟩ := qx_m400
  simp only [s239_0, s239_1, s239_4, s239_6, s239_7, s239_8, k1, k2, k3, (qn_c (35) (by omega)).1, (qn_c (35) (by omega)).2, List.length_cons, List.length_nil, Nat.zero_le, Nat.reduceAdd, Nat.reduceLeDiff, Option.bind_some, qx_kn_v, qx_kn_n, Nat.add_zero, ↓reduceIte]
theorem qb_shl2 (a : Nat) {p : Nat} (hp : p < 32) : nI a <<< (nI p &&& 31) = nI (a * 2 ^ p) := by
  apply b_ext
  intro i hi
  rw [b_shl p hp _ hi, qb_bt _ hi, ← Nat.shiftLeft_eq, Nat.testBit_shiftLeft]
  by_cases h : p ≤ i
  · rw [qb_bt _ (show i - p < 32 by omega)]
  · simp [h]
theorem qs_nx_no (s : Nat) : ∀ (k i : Nat), (∀ j, i ≤ j → j < i + k → s.testBit j = false) → qs_nx s k i = 14
  | 0, _, _ => rfl
  | k + 1, i, h => by
    rw [qs_nx, if_neg (by rw [h i (Nat.le_refl _) (by omega)]; decide)]
    exact qs_nx_no s k (i + 1) (fun j h1 h2 => h j (by omega) (by omega))
theorem qs_nx_is (s : Nat) {w : Nat} (hw : s.testBit w = true) : ∀ (k i : Nat), i ≤ w → w < i + k → (∀ j, i ≤ j → j < w → s.testBit j = false) → qs_nx s k i = w
  | 0, i, h1, h2, _ => by omega
  | k + 1, i, h1, h2, h => by
    rw [qs_nx]
    by_cases e : i = w
    · rw [e, if_pos hw]
    · rw [if_neg (by rw [h i (Nat.le_refl _) (by omega)]; decide)]
      exact qs_nx_is s hw k (i + 1) (by omega) (by omega) (fun j h1 h2 => h j (by omega) h2)
theorem qs_nx_shift {al as : Nat} (hal : al < 16384) (has : as ≤ 14) : (if al / 2 ^ as * 2 ^ as = 0 then 14 else qb_lo (al / 2 ^ as * 2 ^ as)) = qs_nx al (14 - as) as := by
  have hb : ∀ j, (al / 2 ^ as * 2 ^ as).testBit j = (decide (as ≤ j) && al.testBit j) := by
    intro j
    rw [← Nat.shiftLeft_eq, Nat.testBit_shiftLeft, ← Nat.shiftRight_eq_div_pow, Nat.testBit_shiftRight]
    by_cases h : as ≤ j
    · simp [h]
    · simp [h]
  have hlt : al / 2 ^ as * 2 ^ as < 16384 := Nat.lt_of_le_of_lt (Nat.div_mul_le_self _ _) hal
  by_cases h0 : al / 2 ^ as * 2 ^ as = 0
  · rw [if_pos h0]
    refine (qs_nx_no al _ _ ?_).symm
    intro j h1 h2
    have := hb j
    rw [h0, Nat.zero_testBit] at this
    simpa [h1] using this.symm
  · rw [if_neg h0]
    obtain ⟨a1, a2, a3⟩ := qb_lw_ok hlt (by omega)
    have h1 := hb (qb_lo (al / 2 ^ as * 2 ^ as))
    rw [a2] at h1
    have h2 : as ≤ qb_lo (al / 2 ^ as * 2 ^ as) ∧ al.testBit (qb_lo (al / 2 ^ as * 2 ^ as)) = true := by simpa using h1.symm
    refine (qs_nx_is al h2.2 _ _ h2.1 (by omega) ?_).symm
    intro j j1 j2
    have h3 := fa_first_no (al / 2 ^ as * 2 ^ as).testBit 14 j j2
    rw [hb] at h3
    simpa [j1] using h3
theorem g240 {M : qxM} {n r q v as : Nat} {f : Nat → Nat} (hv : v < 14) (hq : M.1 401 41 = nI v) (has : M.1 401 39 = nI as) (ha2 : as ≤ 14) (hn : M.1 401 0 = nI n) (hn2 : n ≤ 14) (hs : M.1 401 (7 + v) = nI (f v)) (hs2 : f v < 2 ^ n) (hr : M.1 401 1 = nI r) (hr2 : r ≤ 2) (hk : M.1 401 2 = nI q) (hk2 : q < 16384) :
    Rs L xs (d + 4) 240 0 [some (.ref (400)), none] [] (M) x = some (.inl (some (.int (qz (qs_nx (qp_al r q (f v) v) (14 - as) as)))), M, x) := by
  obtain ⟨k1, k2, k3⟩ := qx_m400
  have h14 : 2 ^ n ≤ 2 ^ 14 := Nat.pow_le_pow_right (by decide) hn2
  have hal : qp_al r q (f v) v < 16384 := qp_al_lt (by omega)
  have hlt : qp_al r q (f v) v / 2 ^ as * 2 ^ as < 16384 := Nat.lt_of_le_of_lt (Nat.div_mul_le_self _ _) hal
  have hx := qs_nx_shift hal ha2
  by_cases h0 : qp_al r q (f v) v / 2 ^ as * 2 ^ as = 0
  · rw [if_pos h0] at hx
    rw [← hx]
    have e0 : (nI (qp_al r q (f v) v / 2 ^ as * 2 ^ as) = 0) = True := by rw [h0]; decide
    simp only [s240_0, s240_1, s240_2, s240_5, s240_7, s240_8, s240_11, s240_12, s240_15, s240_17, s240_18, s240_19, s240_20, s240_23, s240_25, s240_26, s240_27i, s240_27r, s240_27n, s240_28, s240_29, s240_32, s240_33, s240_36, s240_37, s240_40, k1, k2, k3, hq, has, m220 hv hn hn2 hs hs2 hr hr2 hk hk2, qb_shr (show qp_al r q (f v) v < 2 ^ 31 by omega) (show as < 32 by omega), qb_shl2 _ (show as < 32 by omega), e0, (qn_c (41) (by omega)).1, (qn_c (41) (by omega)).2, (qn_c (39) (by omega)).1, (qn_c (39) (by omega)).2, List.length_cons, List.length_nil, Nat.zero_le, Nat.reduceAdd, Nat.reduceLeDiff, Option.bind_some, qx_kn_v, qx_kn_n, Nat.add_zero, ↓reduceIte]
    rfl
  · rw [if_neg h0] at hx
    obtain ⟨a1, a2⟩ := qb_lw_ok hlt (by omega)
    rw [← hx, qz_lt a1]
    have e0 : ¬ nI (qp_al r q (f v) v / 2 ^ as * 2 ^ as) = 0 := nI_ne0 (by omega) (by omega)
    simp only [s240_0, s240_1, s240_2, s240_5, s240_7, s240_8, s240_11, s240_12, s240_15, s240_17, s240_18, s240_19, s240_20, s240_23, s240_25, s240_26, s240_27i, s240_27r, s240_27n, s240_28, s240_29, s240_32, s240_33, s240_36, s240_37, s240_40, k1, k2, k3, hq, has, m220 hv hn hn2 hs hs2 hr hr2 hk hk2, qb_shr (show qp_al r q (f v) v < 2 ^ 31 by omega) (show as < 32 by omega), qb_shl2 _ (show as < 32 by omega), e0, m210 hlt (show 0 < _ by omega), (qn_c (41) (by omega)).1, (qn_c (41) (by omega)).2, (qn_c (39) (by omega)).1, (qn_c (39) (by omega)).2, List.length_cons, List.length_nil, Nat.zero_le, Nat.reduceAdd, Nat.reduceLeDiff, Option.bind_some, qx_kn_v, qx_kn_n, Nat.add_zero, ↓reduceIte]
end QL
