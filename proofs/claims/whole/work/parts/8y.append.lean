/-! append; the relation behind what reads and fills the buffer. -/
theorem qx_m20 : qx_kd 20 = 11 ∧ qx_kd 21 = 1 ∧ qx_ln 21 = 500 ∧ qx_kd 406 = 1 ∧ qx_ln 406 = 500 := by decide +kernel
def bb (w : Int32) (j : Nat) : Int32 := (w >>> (nI (8 * (j - 1)) &&& 31)).toInt8.toInt32
theorem bb_byte (w : Int32) (j : Nat) : qByte (bb w j) := by
  unfold qByte bb
  rw [Int8.toInt_toInt32]
  have h1 := Int8.le_toInt (w >>> (nI (8 * (j - 1)) &&& 31)).toInt8
  have h2 := Int8.toInt_lt (w >>> (nI (8 * (j - 1)) &&& 31)).toInt8
  omega
/-- a buffer with a word more -/
def ap (B : Nat → Int32) (n : Nat) (w : Int32) (j : Nat) (i : Nat) : Int32 := if i < n then B i else bb w (n + j - i)
def cBf (M : qxM) (n : Nat) (B : Nat → Int32) : Prop := M.1 20 2 = nI n ∧ ∀ i, i < n → M.1 21 i = B i
def nBf (M : qxM) (n : Nat) (B : Nat → Int32) : Prop := M.1 400 9 = nI n ∧ ∀ i, i < n → M.1 406 i = B i
def qpB (a : Nat) : Prop := a = 20 ∨ a = 21
def nfB (M M1 : qxM) : Prop := (∀ a, a ≠ 400 → a ≠ 406 → M1.1 a = M.1 a) ∧ (∀ k, k ≠ 9 → M1.1 400 k = M.1 400 k) ∧ M1.2 = M.2
theorem nfB_trans {M M1 M2 : qxM} (h : nfB M M1) (g : nfB M1 M2) : nfB M M2 := ⟨fun a h1 h2 => by rw [g.1 a h1 h2, h.1 a h1 h2], fun k hk => by rw [g.2.1 k hk, h.2.1 k hk], by rw [g.2.2, h.2.2]⟩
def zsh (j : Nat) : Int32 := nI (8 * j) + (-8)
theorem zsh_s : ∀ j, j < 4 → zsh (j + 1) = nI (8 * j) := by decide +kernel
theorem zsh_0 : (zsh 0 < 0) = True := by decide
theorem zsh_e (j : Nat) : nI (8 * j) + (-8) = zsh j := rfl
def zsm (j : Nat) : Int32 := nI j + (-1)
theorem zsm_s (j : Nat) : zsm (j + 1) = nI j := qi_pred j
theorem zsm_0 : (zsm 0 < 0) = True := by decide
theorem zsm_e (j : Nat) : nI j + (-1) = zsm j := rfl
section QL
variable {L : Nat} {xs : Nat → Int32}
theorem m20l {d : Nat} {w : Int32} : ∀ (j n x : Nat) (M : qxM) (B : Nat → Int32), j ≤ 4 → n + j ≤ 500 → cBf M n B →
    ∃ M', Rs L xs (d) 20 3 [some (.ref (20)), some (.int (w)), some (.int (zsh j))] [] (M) x = some (.inl (none), M', x) ∧ cBf M' (n + j) (ap B n w j) ∧ (∀ k, k ≠ 2 → M'.1 20 k = M.1 20 k) ∧ qf qpB M M' := by
  obtain ⟨k1, k2, k3, k4, k5⟩ := qx_m20
  intro j
  induction j with
  | zero =>
    intro n x M B hj hn hB
    refine ⟨M, ?_, ⟨hB.1, fun i hi => by rw [hB.2 i hi]; exact (if_pos hi).symm⟩, fun _ _ => rfl, qf_refl _ _⟩
    simp only [s20_3, s20_4, s20_55, zsh_0, ↓reduceIte]
  | succ j ih =>
    intro n x M B hj hn hB
    obtain ⟨b1, b2⟩ := hB
    have h0 : ¬ nI (8 * j) < 0 := nI_pos (by omega)
    have h1 : ¬ nI n < 0 := nI_pos (by omega)
    have h2 : ¬ nI 500 ≤ nI n := nI_ge (by omega) (by decide)
    have h3 : qx_ib (nI n) 500 = true := qx_ib_of (by omega) (by decide)
    have h4 : (nI n).toNatClampNeg = n := nI_clamp (by omega)
    have h20 : ∀ v, (qx_up M 21 n v).1 20 2 = nI n := fun v => by rw [qx_up_ne _ _ _ (by decide), b1]
    have hb : bb w (j + 1) = (w >>> (nI (8 * j) &&& 31)).toInt8.toInt32 := rfl
    have hbb : (bb w (j + 1)).toInt8.toInt32 = bb w (j + 1) := by
      unfold bb
      rw [Int8.toInt8_toInt32]
    obtain ⟨M2, g2, c2, e2, f2⟩ := ih (n + 1) x (qx_up (qx_up M 21 n (bb w (j + 1))) 20 2 (nI (n + 1))) (fun i => if i = n then bb w (j + 1) else B i) (by omega) (by omega) ⟨by rw [qx_up_eq], fun i hi => by
      show _ = if i = n then bb w (j + 1) else B i
      rw [qx_up_ne _ _ _ (by decide), qx_up_at]
      by_cases e : i = n
      · rw [if_pos ⟨rfl, e⟩, if_pos e]
      · rw [if_neg (fun w => e w.2), if_neg e, b2 i (by omega)]⟩
    refine ⟨M2, ?_, ⟨by rw [c2.1, show n + 1 + j = n + (j + 1) by omega], fun i hi => ?_⟩, fun k hk => ?_, qf_trans (qf_trans (qf_up _ _ _ _ (Or.inr rfl)) (qf_up _ _ _ _ (Or.inl rfl))) f2⟩
    · rw [zsh_s j (by omega)]
      simp only [s20_3, s20_4, s20_7, s20_8, s20_11, s20_14, s20_15, s20_18, s20_19, s20_22, s20_23, s20_26, s20_27, s20_30, s20_31, s20_34, s20_35, s20_36, s20_37, s20_38, s20_38z, s20_39, s20_40r, s20_40i, s20_41, s20_44, s20_45, s20_46, s20_49i, s20_49r, s20_49n, k1, k2, k3, qx_16, h0, b1, h1, h2, h3, h4, h20, nI_add, zsh_e, ← hb, hbb, Nat.reduceAdd, ↓reduceIte]
      rw [s20_52]
      exact g2
    · rw [c2.2 i (by omega)]
      unfold ap
      dsimp only
      by_cases z : i < n
      · rw [if_pos (by omega), if_pos z, if_neg (by omega)]
      · rw [if_neg z]
        by_cases y : i = n
        · rw [if_pos (by omega), if_pos y, y, show n + (j + 1) - n = j + 1 by omega]
        · rw [if_neg (by omega), show n + 1 + j - i = n + (j + 1) - i by omega]
    · rw [e2 k hk, qx_up_at, if_neg (fun w => hk w.2), qx_up_ne _ _ _ (by decide)]
theorem m20 {d x n : Nat} {w : Int32} {M : qxM} {B : Nat → Int32} (hn : n + 4 ≤ 500) (hB : cBf M n B) : ∃ M', Rs L xs (d) 20 0 [some (.ref (20)), some (.int (w)), none] [] (M) x = some (.inl (none), M', x) ∧ cBf M' (n + 4) (ap B n w 4) ∧ (∀ k, k ≠ 2 → M'.1 20 k = M.1 20 k) ∧ qf qpB M M' := by
  obtain ⟨M', g, c, e, f⟩ := m20l (L := L) (xs := xs) (d := d) (w := w) 4 n x M B (Nat.le_refl _) hn hB
  refine ⟨M', ?_, c, e, f⟩
  simp only [s20_0, s20_2i, s20_2r, s20_2n]
  exact g
theorem m186l {d : Nat} {w : Int32} : ∀ (j n x : Nat) (M : qxM) (B : Nat → Int32), j ≤ 4 → n + j ≤ 500 → nBf M n B →
    ∃ M', Rs L xs (d) 186 2 [some (.ref (400)), some (.int (w)), some (.int (zsm j))] [] (M) x = some (.inl (none), M', x) ∧ nBf M' (n + j) (ap B n w j) ∧ nfB M M' := by
  obtain ⟨k1, k2, k3, k4, k5⟩ := qx_m20
  obtain ⟨y1, y2, y3⟩ := qx_m400
  intro j
  induction j with
  | zero =>
    intro n x M B hj hn hB
    refine ⟨M, ?_, ⟨hB.1, fun i hi => by rw [hB.2 i hi]; exact (if_pos hi).symm⟩, ⟨fun _ _ _ => rfl, fun _ _ => rfl, rfl⟩⟩
    simp only [s186_2, s186_3, s186_38, zsm_0, ↓reduceIte]
  | succ j ih =>
    intro n x M B hj hn hB
    obtain ⟨b1, b2⟩ := hB
    have h0 : ¬ nI j < 0 := nI_pos (by omega)
    have h3 : qx_ib (nI n) 500 = true := qx_ib_of (by omega) (by decide)
    have h4 : (nI n).toNatClampNeg = n := nI_clamp (by omega)
    have h20 : ∀ v, (qx_up M 406 n v).1 400 9 = nI n := fun v => by rw [qx_up_ne _ _ _ (by decide), b1]
    have hb : bb w (j + 1) = (w >>> (nI (8 * j) &&& 31)).toInt8.toInt32 := rfl
    have hbb : (bb w (j + 1)).toInt8.toInt32 = bb w (j + 1) := by
      unfold bb
      rw [Int8.toInt8_toInt32]
    obtain ⟨M2, g2, c2, f2⟩ := ih (n + 1) x (qx_up (qx_up M 406 n (bb w (j + 1))) 400 9 (nI (n + 1))) (fun i => if i = n then bb w (j + 1) else B i) (by omega) (by omega) ⟨by rw [qx_up_eq], fun i hi => by
      show _ = if i = n then bb w (j + 1) else B i
      rw [qx_up_ne _ _ _ (by decide), qx_up_at]
      by_cases e : i = n
      · rw [if_pos ⟨rfl, e⟩, if_pos e]
      · rw [if_neg (fun w => e w.2), if_neg e, b2 i (by omega)]⟩
    have nf1 : nfB M (qx_up (qx_up M 406 n (bb w (j + 1))) 400 9 (nI (n + 1))) := ⟨fun a h1 h2 => by rw [qx_up_ne _ _ _ h1, qx_up_ne _ _ _ h2], fun k hk => by rw [qx_up_at, if_neg (fun w => hk w.2), qx_up_ne _ _ _ (by decide)], rfl⟩
    refine ⟨M2, ?_, ⟨by rw [c2.1, show n + 1 + j = n + (j + 1) by omega], fun i hi => ?_⟩, nfB_trans nf1 f2⟩
    · rw [zsm_s j]
      simp only [s186_2, s186_3, s186_6, s186_7, s186_10, s186_11, s186_14, s186_15, s186_17, s186_18, s186_19, s186_20, s186_21, s186_21z, s186_22, s186_23r, s186_23i, s186_24, s186_27, s186_28, s186_29, s186_32i, s186_32r, s186_32n, y1, k4, k5, h0, b1, h3, h4, h20, pk_mul, nI_add, zsm_e, ← hb, hbb, Nat.reduceAdd, ↓reduceIte]
      rw [s186_35]
      exact g2
    · rw [c2.2 i (by omega)]
      unfold ap
      dsimp only
      by_cases z : i < n
      · rw [if_pos (by omega), if_pos z, if_neg (by omega)]
      · rw [if_neg z]
        by_cases y : i = n
        · rw [if_pos (by omega), if_pos y, y, show n + (j + 1) - n = j + 1 by omega]
        · rw [if_neg (by omega), show n + 1 + j - i = n + (j + 1) - i by omega]
theorem m186 {d x n : Nat} {w : Int32} {M : qxM} {B : Nat → Int32} (hn : n + 4 ≤ 500) (hB : nBf M n B) : ∃ M', Rs L xs (d) 186 0 [some (.ref (400)), some (.int (w)), none] [] (M) x = some (.inl (none), M', x) ∧ nBf M' (n + 4) (ap B n w 4) ∧ nfB M M' := by
  obtain ⟨M', g, c, f⟩ := m186l (L := L) (xs := xs) (d := d) (w := w) 4 n x M B (Nat.le_refl _) hn hB
  refine ⟨M', ?_, c, f⟩
  simp only [s186_0, s186_1i, s186_1r, s186_1n]
  exact g
end QL
/-- behind what changes the buffers, and nothing of the state -/
theorem qREL_buf {M M2 : qxM} (hR : qREL M) (h : ∀ a, a ≠ 400 → a ≠ 20 → a ≠ 21 → a ≠ 22 → a ≠ 23 → a ≠ 24 → a ≠ 406 → a ≠ 402 → a ≠ 401 → M2.1 a = M.1 a) (h401 : ∀ k, k < 335 → M2.1 401 k = M.1 401 k) (h6 : M2.1 400 6 = M.1 400 6) (h7 : M2.1 400 7 = M.1 400 7) (h21 : M2.1 400 21 = M.1 400 21) (hp : rParse M2) : qREL M2 := by
  obtain ⟨⟨b, b1, b2, b0, b3⟩, ⟨⟨g, hg⟩, ⟨g', hg'⟩⟩, ⟨c, E, c1, c2, c3, c4, c5, c6⟩, ⟨sv, v1, v2, v3⟩, _, ⟨k, k1, k2, k3, k4⟩⟩ := hR
  have e10 : M2.1 10 = M.1 10 := h 10 (by decide) (by decide) (by decide) (by decide) (by decide) (by decide) (by decide) (by decide) (by decide)
  have hlow : ∀ a, 100 ≤ a → a < 400 → M2.1 a = M.1 a := fun a ha hb => h a (by omega) (by omega) (by omega) (by omega) (by omega) (by omega) (by omega) (by omega) (by omega)
  have hup : ∀ a, (a = 403 ∨ a = 404 ∨ a = 405 ∨ a = 410 ∨ a = 30 ∨ a = 31) → M2.1 a = M.1 a := fun a ha => h a (by omega) (by omega) (by omega) (by omega) (by omega) (by omega) (by omega) (by omega) (by omega)
  have hfq : qf (fun a => ¬ (100 ≤ a ∧ a < 400)) (M.1, M2.2) M2 := ⟨fun a ha => hlow a (Classical.not_not.mp ha).1 (Classical.not_not.mp ha).2, rfl⟩
  refine ⟨⟨b, ?_, ?_, ?_, ?_⟩, ⟨⟨g, qS_fr (M := (M.1, M2.2)) hg hfq (by omega)⟩, ⟨g', qS_fr (M := (M.1, M2.2)) hg' hfq (by omega)⟩⟩, ⟨c, E, c1, c2, ?_, ?_, ?_, ?_⟩, ⟨sv, v1, ?_, ?_⟩, hp, ⟨k, k1, ?_, ?_, ?_⟩⟩
  · rw [e10, b1]
  · rw [h6, b2]
  · rw [h401 0 (by decide), h401 35 (by decide), h7, e10, hlow 104 (by decide) (by decide)]
    exact b0
  · intro hb
    exact qKept_fr (b3 hb) (fun a ha hb => hlow a (by omega) (by omega)) (fun k hk => by rw [Nat.zero_add, h401 k hk])
  · rw [e10, c3]
  · rw [e10, c4]
  · rw [h7, c5]
  · intro j hj
    exact qKept_fr (c6 j hj) (fun a ha hb => hlow a (by omega) (by omega)) (fun k hk => by rw [hup 403 (by omega)])
  · rw [e10, v2]
  · intro k hk
    obtain ⟨w1, w2⟩ := v3 k hk
    refine ⟨by rw [hup 405 (by omega), w1], fun hb => ?_⟩
    exact qKept_fr (w2 hb) (fun a ha hb => hlow a (by omega) (by omega)) (fun k hk => by rw [hup 404 (by omega)])
  · rw [hup 30 (by omega), k2]
  · rw [h21, k3]
  · intro i hi
    rw [hup 31 (by omega), hup 410 (by omega), k4 i hi]
section QL
variable {L : Nat} {xs : Nat → Int32} {d x : Nat}
theorem ap_byte {B : Nat → Int32} {n : Nat} {w : Int32} (h : ∀ i, i < n → qByte (B i)) : ∀ i, i < n + 4 → qByte (ap B n w 4 i) := fun i _ => by
  unfold ap
  by_cases z : i < n
  · rw [if_pos z]
    exact h i z
  · rw [if_neg z]
    exact bb_byte _ _
theorem j92 {M : qxM} (hR : qREL M) (ke : Nat → String) (w1 w2 w3 w4 w5 : Int32) : qPair L xs (d + 40) 92 [some (.ref 10), some (.int w1), some (.int w2), some (.int w3), some (.int w4), some (.int w5)] 185 [some (.ref 400), some (.int w1), some (.int w2), some (.int w3), some (.int w4), some (.int w5)] ke M := by
  obtain ⟨k1, k2, k3⟩ := qx_m400
  obtain ⟨y1, y2, y3, y4, y5⟩ := qx_m20
  obtain ⟨n, n1, n2, n3, n4, n5, n6⟩ := hR.2.2.2.2.1
  have e19 : (nI 500 < nI (n + 20)) = (500 < n + 20) := qi_lt (by decide) (by omega)
  have e185 : (nI n ≤ nI 480) = (n ≤ 480) := qi_le (by omega) (by decide)
  by_cases z : 500 < n + 20
  · refine qPair_of hR 0 (-1) (by decide) ?_ (fun o => ⟨-1, ?_, fun _ => rfl⟩)
    · rw [if_pos rfl]
      have t : (nI 500 < nI (n + 20)) = True := by rw [e19]; exact eq_true z
      have h19 : Rs L xs (d + 39) 19 0 [some (.ref 20)] [] M 0 = some (.inl (some (.int (bI false))), M, 0) := by
        simp only [s19_0, s19_1, s19_4, s19_6, s19_7, s19_10, s19_13, s19_14, s19_17, s19_18, y1, n2, nI_add, t, qx_z0, ↓reduceIte]
        rfl
      simp only [s92_0, s92_1, s92_4, s92_7, s92_10, s92_11, qx_m10, h19, qbf, List.length_cons, List.length_nil, Nat.zero_le, Nat.reduceAdd, Nat.reduceLeDiff, Option.bind_some, qx_kn_v, qx_kn_n, Nat.add_zero, Bool.false_eq_true, ↓reduceIte]
    · have t : (nI n ≤ nI 480) = False := by rw [e185]; exact eq_false (by omega)
      have h9 : (qx_up (M.1, o) 400 0 (nI 0)).1 400 9 = nI n := by rw [qx_up_at, if_neg (by omega)]; exact n3
      simp only [s185_0, s185_1, s185_2, s185_5, s185_6, s185_9, s185_12, s185_15, s185_16, k1, h9, t, List.length_cons, List.length_nil, Nat.zero_le, Nat.reduceAdd, Nat.reduceLeDiff, Option.bind_some, qx_kn_v, qx_kn_n, Nat.add_zero, Bool.false_eq_true, ↓reduceIte]
  · have hB0 : cBf M n (M.1 21) := ⟨n2, fun _ _ => rfl⟩
    obtain ⟨M1, g1, c1, e1, f1⟩ := m20 (L := L) (xs := xs) (d := d + 39) (x := 0) (w := w1) (by omega) hB0
    obtain ⟨M2, g2, c2, e2, f2⟩ := m20 (L := L) (xs := xs) (d := d + 39) (x := 0) (w := w2) (by omega) c1
    obtain ⟨M3, g3, c3, e3, f3⟩ := m20 (L := L) (xs := xs) (d := d + 39) (x := 0) (w := w3) (by omega) c2
    obtain ⟨M4, g4, c4, e4, f4⟩ := m20 (L := L) (xs := xs) (d := d + 39) (x := 0) (w := w4) (by omega) c3
    obtain ⟨M5, g5, c5, e5, f5⟩ := m20 (L := L) (xs := xs) (d := d + 39) (x := 0) (w := w5) (by omega) c4
    have F := qf_trans f1 (qf_trans f2 (qf_trans f3 (qf_trans f4 f5)))
    have hby : ∀ i, i < n + 4 + 4 + 4 + 4 + 4 → qByte (ap (ap (ap (ap (ap (M.1 21) n w1 4) (n + 4) w2 4) (n + 4 + 4) w3 4) (n + 4 + 4 + 4) w4 4) (n + 4 + 4 + 4 + 4) w5 4 i) := ap_byte (ap_byte (ap_byte (ap_byte (ap_byte (fun i hi => (n4 i hi).2)))))
    have t : (nI 500 < nI (n + 20)) = False := by rw [e19]; exact eq_false z
    refine ⟨0, nI (n + 4 + 4 + 4 + 4 + 4), M5, ?_, by decide, fun o => ?_⟩
    · rw [if_pos rfl]
      have hc := c5.1
      have h19 : Rs L xs (d + 39) 19 0 [some (.ref 20)] [] M 0 = some (.inl (some (.int (bI true))), M, 0) := by
        simp only [s19_0, s19_1, s19_4, s19_6, s19_7, s19_10, s19_13, s19_14, s19_17, s19_18, y1, n2, nI_add, t, qx_z1, ↓reduceIte]
        rfl
      simp only [s92_0, s92_1, s92_4, s92_7, s92_10, s92_11, s92_12, s92_13, s92_16, s92_17, s92_20, s92_21, s92_24, s92_25, s92_28, s92_29, s92_32, s92_33, s92_36, s92_37, s92_40, s92_42, s92_45, s92_46, s92_49, s92_51, s92_54, s92_55, s92_58, s92_61, h19, qx_m10, y1, qbt, g1, g2, g3, g4, g5, hc, List.length_cons, List.length_nil, Nat.zero_le, Nat.reduceAdd, Nat.reduceLeDiff, Option.bind_some, qx_kn_v, qx_kn_n, Nat.add_zero, Bool.false_eq_true, ↓reduceIte]
    · have hB1 : nBf (qx_up (M5.1, o) 400 0 (nI 0)) n (M.1 21) := by
        refine ⟨?_, fun i hi => ?_⟩
        · rw [qx_up_at, if_neg (by omega)]
          show M5.1 400 9 = _
          rw [F.1 400 (by unfold qpB; omega), n3]
        · rw [qx_up_ne _ _ _ (by decide)]
          show M5.1 406 i = _
          rw [F.1 406 (by unfold qpB; omega)]
          exact (n4 i hi).1.symm
      obtain ⟨N1, h1, b1, q1⟩ := m186 (L := L) (xs := xs) (d := d + 39) (x := 0) (w := w1) (by omega) hB1
      obtain ⟨N2, h2, b2, q2⟩ := m186 (L := L) (xs := xs) (d := d + 39) (x := 0) (w := w2) (by omega) b1
      obtain ⟨N3, h3, b3, q3⟩ := m186 (L := L) (xs := xs) (d := d + 39) (x := 0) (w := w3) (by omega) b2
      obtain ⟨N4, h4, b4, q4⟩ := m186 (L := L) (xs := xs) (d := d + 39) (x := 0) (w := w4) (by omega) b3
      obtain ⟨N5, h5, b5, q5⟩ := m186 (L := L) (xs := xs) (d := d + 39) (x := 0) (w := w5) (by omega) b4
      have Q := nfB_trans q1 (nfB_trans q2 (nfB_trans q3 (nfB_trans q4 q5)))
      have h9 : (qx_up (M5.1, o) 400 0 (nI 0)).1 400 9 = nI n := hB1.1
      have t2 : (nI n ≤ nI 480) = True := by rw [e185]; exact eq_true (by omega)
      have hc := b5.1
      have e5' : ∀ a, a ≠ 400 → a ≠ 406 → N5.1 a = M5.1 a := fun a u v => by rw [Q.1 a u v, qx_up_ne _ _ _ u]
      have e6' : ∀ k, k ≠ 9 → k ≠ 0 → N5.1 400 k = M.1 400 k := fun k u v => by
        rw [Q.2.1 k u, qx_up_at, if_neg (fun w => v w.2)]
        show M5.1 400 k = _
        rw [F.1 400 (by unfold qpB; omega)]
      have e20 : ∀ k, k ≠ 2 → N5.1 20 k = M.1 20 k := fun k hk => by rw [e5' 20 (by decide) (by decide), e5 k hk, e4 k hk, e3 k hk, e2 k hk, e1 k hk]
      refine ⟨nI (n + 4 + 4 + 4 + 4 + 4), N5, ?_, Q.2.2, fun _ => rfl, ?_, ?_, fun a u v => ?_⟩
      · simp only [s185_0, s185_1, s185_2, s185_5, s185_6, s185_9, s185_12, s185_15, s185_16, s185_17, s185_18, s185_19, s185_22, s185_23, s185_24, s185_27, s185_28, s185_29, s185_32, s185_33, s185_35, s185_38, s185_39, s185_41, s185_44, s185_45, s185_48, k1, h9, t2, h1, h2, h3, h4, h5, hc, List.length_cons, List.length_nil, Nat.zero_le, Nat.reduceAdd, Nat.reduceLeDiff, Option.bind_some, qx_kn_v, qx_kn_n, Nat.add_zero, Bool.false_eq_true, ↓reduceIte]
      · rw [Q.2.1 0 (by decide), qx_up_eq]
      · refine qREL_buf hR (fun a u1 u2 u3 u4 u5 u6 u7 u8 u9 => ?_) (fun k hk => ?_) (e6' 6 (by decide) (by decide)) (e6' 7 (by decide) (by decide)) (e6' 21 (by decide) (by decide)) ⟨n + 4 + 4 + 4 + 4 + 4, by omega, ?_, b5.1, fun i hi => ?_, ?_, ?_⟩
        · rw [e5' a u1 u7, F.1 a (by unfold qpB; omega)]
        · rw [e5' 401 (by decide) (by decide), F.1 401 (by unfold qpB; omega)]
        · rw [e5' 20 (by decide) (by decide), c5.1]
        · rw [e5' 21 (by decide) (by decide), c5.2 i hi, b5.2 i hi]
          exact ⟨rfl, hby i hi⟩
        · rw [e20 3 (by decide), e6' 10 (by decide) (by decide), n5]
        · rw [e20 4 (by decide), e6' 11 (by decide) (by decide), n6]
      · rw [e5' a (by omega) (by omega), F.1 a (by unfold qpB; omega)]
end QL
