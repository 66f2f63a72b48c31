/-! The class's memo of the most pairs: its relation, and valueOf. -/
/-- what a set's value is -/
def qv (al : Nat → Nat) (s : Nat) : Nat := 1048576 * mF al s + mW al s
/-- the memo is right for these friends -/
def qTc (al : Nat → Nat) (st : Nat) (M : qxM) : Prop := (∀ p, p < 14 → M.1 41 p = nI (al p)) ∧ M.1 40 4 = nI st ∧ ∀ j, j < 4096 → ∃ t, t ≤ st ∧ M.1 43 j = nI t ∧ (t = st → M.1 42 j = nI (qv al (4 * j)))
def qMm (a : Nat) : Prop := a = 42 ∨ a = 43
theorem qx_m40 : qx_kd 40 = 10 ∧ qx_kd 41 = 0 ∧ qx_ln 41 = 14 ∧ qx_kd 42 = 0 ∧ qx_ln 42 = 4096 ∧ qx_kd 43 = 0 ∧ qx_ln 43 = 4096 := by decide +kernel
theorem qi_le {a b : Nat} (ha : a < 2 ^ 31) (hb : b < 2 ^ 31) : (nI a ≤ nI b) = (a ≤ b) := propext (nI_leI ha hb)
theorem qi_lt {a b : Nat} (ha : a < 2 ^ 31) (hb : b < 2 ^ 31) : (nI a < nI b) = (a < b) := propext (nI_ltI ha hb)
theorem qv_div {m w : Nat} (hm : m ≤ 20) (hw : w < 2 ^ 20) : nI (1048576 * m + w) / nI 1048576 = nI m := by
  rw [pk_div (by omega) (by decide) (by decide)]
  congr 1
  omega
theorem qv_mod {m w : Nat} (hm : m ≤ 20) (hw : w < 2 ^ 20) : nI (1048576 * m + w) - nI (1048576 * m + w) / nI 1048576 * nI 1048576 = nI w := by
  rw [qv_div hm hw, pk_mul, pk_sub (by omega)]
  congr 1
  omega
section QL
variable {L : Nat} {xs : Nat → Int32} {d x : Nat}
theorem m8 {m w m1 w1 : Nat} {M : qxM} (hm : m ≤ 20) (hw : w < 2 ^ 20) (hm1 : m1 ≤ 20) (hw1 : w1 < 2 ^ 20) : Rs L xs (d) 8 0 [some (.int (nI (1048576 * m + w))), some (.int (nI (1048576 * m1 + w1)))] [] (M) x = some (.inl (some (.int (nI (1048576 * (if m1 < m then m else m1) + (if m = m1 then w + w1 else if m1 < m then w else w1))))), M, x) := by
  have h0 : ¬ nI 1048576 = 0 := by decide
  have e1 := qv_div hm hw
  have e2 := qv_div hm1 hw1
  have e3 := qv_mod hm1 hw1
  rw [e2] at e3
  have e4 : (nI m = nI m1) = (m = m1) := qi_eq (by omega) (by omega)
  have e5 : (nI (1048576 * m + w) ≤ nI (1048576 * m1 + w1)) = (1048576 * m + w ≤ 1048576 * m1 + w1) := qi_le (by omega) (by omega)
  rcases Nat.lt_trichotomy m m1 with q | q | q
  · have a1 : (m = m1) = False := eq_false (by omega)
    have a2 : (m1 < m) = False := eq_false (by omega)
    have a3 : (1048576 * m + w ≤ 1048576 * m1 + w1) = True := eq_true (by omega)
    simp only [s8_0, s8_1, s8_3, s8_4, s8_5, s8_7, s8_8, s8_11, s8_12, s8_13, s8_15, s8_16, s8_17, s8_18, s8_19, s8_20, s8_23, s8_24, s8_27, s8_28, e1, e2, e4, e5, a1, a2, a3, h0, not_false_eq_true, ne_eq, List.length_cons, List.length_nil, Nat.zero_le, Nat.reduceAdd, Nat.reduceLeDiff, Option.bind_some, qx_kn_v, qx_kn_n, Nat.add_zero, Bool.false_eq_true, ↓reduceIte]
  · have a1 : (m = m1) = True := eq_true q
    have a2 : (m1 < m) = False := eq_false (by omega)
    simp only [s8_0, s8_1, s8_3, s8_4, s8_5, s8_7, s8_8, s8_11, s8_12, s8_13, s8_15, s8_16, s8_17, s8_18, s8_19, s8_20, s8_23, s8_24, s8_27, s8_28, e1, e2, e3, e4, a1, a2, h0, nI_add, not_false_eq_true, ne_eq, List.length_cons, List.length_nil, Nat.zero_le, Nat.reduceAdd, Nat.reduceLeDiff, Option.bind_some, qx_kn_v, qx_kn_n, Nat.add_zero, Bool.false_eq_true, ↓reduceIte]
    rw [q, Nat.add_assoc]
  · have a1 : (m = m1) = False := eq_false (by omega)
    have a2 : (m1 < m) = True := eq_true q
    have a3 : (1048576 * m + w ≤ 1048576 * m1 + w1) = False := eq_false (by omega)
    simp only [s8_0, s8_1, s8_3, s8_4, s8_5, s8_7, s8_8, s8_11, s8_12, s8_13, s8_15, s8_16, s8_17, s8_18, s8_19, s8_20, s8_23, s8_24, s8_27, s8_28, e1, e2, e4, e5, a1, a2, a3, h0, not_false_eq_true, ne_eq, List.length_cons, List.length_nil, Nat.zero_le, Nat.reduceAdd, Nat.reduceLeDiff, Option.bind_some, qx_kn_v, qx_kn_n, Nat.add_zero, Bool.false_eq_true, ↓reduceIte]
theorem m9 {p a : Nat} {M : qxM} (hp : p < 14) (h : M.1 41 p = nI a) : Rs L xs (d) 9 0 [some (.ref (40)), some (.int (nI p))] [] (M) x = some (.inl (some (.int (nI a))), M, x) := by
  obtain ⟨k1, k2, k3, _⟩ := qx_m40
  have hj : qx_ib (nI p) 14 = true := qx_ib_of hp (by decide)
  obtain ⟨h1, h2, h3, h4⟩ := qx_nI14 (n := 14) hp (by decide)
  simp only [s9_0, s9_1, s9_4, s9_5, s9_6, s9_9, s9_10, s9_13, s9_14, s9_17, s9_18, s9_19, s9_22, s9_23, k1, k2, k3, hj, qx_06, h1, h2, h3, h, ↓reduceIte]
end QL
/-- the value so far: of the pairings without the lowest, and with it and those of some mates -/
def pt (al : Nat → Nat) (r : Nat) (c : Nat → Bool) (k : Nat) : Nat := qP al 14 r k + ts 14 (fun q => if c q = true then sh (qP al 14 (qd r q)) k else 0)
theorem ts_upd {f g : Nat → Nat} {i v : Nat} : ∀ {n : Nat}, i < n → (∀ q, q < n → q ≠ i → g q = f q) → f i = 0 → g i = v → ts n g = ts n f + v
  | 0, h, _, _, _ => absurd h (Nat.not_lt_zero _)
  | n + 1, h, h1, h2, h3 => by
    rw [ts, ts]
    by_cases z : n = i
    · rw [z, h2, h3, ts_congr (fun q hq => h1 q (by omega) (by omega)), Nat.add_zero, ← z]
    · rw [h1 n (by omega) z, ts_upd (by omega) (fun q hq hn => h1 q (by omega) hn) h2 h3]
      omega
section QK
variable {al : Nat → Nat}
theorem pt_0 {r : Nat} (hr : r < 16384) {c : Nat → Bool} (h : ∀ q, q < 14 → c q = false) : Tp (pt al r c) (mF al r) (mW al r) :=
  Tp_cong (qFW hr) (fun k => by
    unfold pt
    rw [ts_zero, Nat.add_zero]
    intro q hq
    rw [h q hq]
    rfl)
theorem pt_cong {r : Nat} {c c1 : Nat → Bool} {m w : Nat} (h : Tp (pt al r c) m w) (e : ∀ q, q < 14 → c1 q = c q) : Tp (pt al r c1) m w :=
  Tp_cong h (fun k => by
    unfold pt
    rw [ts_congr (fun q hq => by rw [e q hq])])
theorem pt_add {r i m w : Nat} (hr : r < 16384) {c c1 : Nat → Bool} (hi : i < 14) (h : Tp (pt al r c) m w) (h0 : c i = false) (h1 : c1 i = true) (e : ∀ q, q < 14 → q ≠ i → c1 q = c q) :
    Tp (pt al r c1) (if mF al (qd r i) + 1 < m then m else mF al (qd r i) + 1) (if m = mF al (qd r i) + 1 then w + mW al (qd r i) else if mF al (qd r i) + 1 < m then w else mW al (qd r i)) :=
  Tp_cong (Tp_add h (Tp_sh (qFW (al := al) (s := qd r i) (qd_14 hr)))) (fun k => by
    unfold pt
    rw [ts_upd (f := fun q => if c q = true then sh (qP al 14 (qd r q)) k else 0) (v := sh (qP al 14 (qd r i)) k) hi]
    · rw [Nat.add_assoc]
    · intro q hq hn
      rw [e q hq hn]
    · rw [h0]
      rfl
    · rw [h1]
      rfl)
theorem pt_end (he : ∀ a b, a < 14 → b < 14 → qe al a b = qe al b a) {s p m w : Nat} (hs : s < 16384) (hp : s.testBit p = true) {c : Nat → Bool} (h : Tp (pt al (qd s p) c) m w) (e : ∀ q, q < 14 → c q = (qe al p q && (qd s p).testBit q)) : m = mF al s ∧ w = mW al s :=
  Tp_one (Tp_cong h (fun k => by
    rw [qP_v he hs hp k]
    unfold pt
    congr 1
    exact ts_congr (fun q hq => by rw [e q hq]))) (qFW hs)
theorem pt_le (he : ∀ a b, a < 14 → b < 14 → qe al a b = qe al b a) {s p m w : Nat} (hs : s < 16384) (hp : s.testBit p = true) {c : Nat → Bool} (h : Tp (pt al (qd s p) c) m w) (e : ∀ q, q < 14 → c q = true → (qe al p q && (qd s p).testBit q) = true) : m ≤ 7 ∧ w < 2 ^ 20 := by
  have hle : ∀ k, pt al (qd s p) c k ≤ qP al 14 s k := fun k => by
    rw [qP_v he hs hp k]
    unfold pt
    have : ts 14 (fun q => if c q = true then sh (qP al 14 (qd (qd s p) q)) k else 0) ≤ ts 14 (fun q => if (qe al p q && (qd s p).testBit q) = true then sh (qP al 14 (qd (qd s p) q)) k else 0) := by
      have hl : ∀ n, n ≤ 14 → ts n (fun q => if c q = true then sh (qP al 14 (qd (qd s p) q)) k else 0) ≤ ts n (fun q => if (qe al p q && (qd s p).testBit q) = true then sh (qP al 14 (qd (qd s p) q)) k else 0) := by
        intro n
        induction n with
        | zero => intro _; exact Nat.le_refl _
        | succ n ih =>
          intro hn
          rw [ts, ts]
          refine Nat.add_le_add (ih (by omega)) ?_
          by_cases z : c n = true
          · rw [if_pos z, if_pos (e n (by omega) z)]
            exact Nat.le_refl _
          · rw [if_neg z]
            exact Nat.zero_le _
      exact hl 14 (Nat.le_refl _)
    omega
  have h1 := hle m
  rw [h.2.1] at h1
  have h2 := h.1
  have h3 := qP_b (al := al) hs m
  have h4 := nb_lt (qb_pc_le s) m
  refine ⟨Nat.le_of_not_lt (fun y => ?_), by omega⟩
  rw [nb_zero _ m (by have := qb_pc_le s; omega)] at h3
  omega
end QK
