/-! The law's loop. -/
theorem i_nat (z : Int32) : z = nI z.toBitVec.toNat := Int32.toBitVec_inj.1 (by
  show z.toBitVec = BitVec.ofNat 32 z.toBitVec.toNat
  simp)
theorem i_63 (z : Int32) : ∃ c, c < 64 ∧ z &&& nI 63 = nI c := by
  refine ⟨z.toBitVec.toNat % 64, by omega, ?_⟩
  have h := fa_mask z.toBitVec.toNat 6
  rw [← i_nat z] at h
  exact h
theorem i_end : ∀ L, L < 6 → ∀ i, i < 6 → nI L - nI 6 < nI i := by decide +kernel
theorem i_more {L i : Nat} (hL : L ≤ 3072) (hi : i ≤ L) : (nI L - nI 6 < nI i) = ¬ (i + 6 ≤ L) := by
  by_cases h : 6 ≤ L
  · rw [qi_sub h, qi_lt (by omega) (by omega)]
    exact propext (by omega)
  · exact propext ⟨fun _ => by omega, fun _ => i_end L (by omega) i (by omega)⟩
section QE
variable {L : Nat} {xs : Nat → Int32} {d : Nat}
theorem law_sw {M : qxM} {B i P c : Nat} {a b : Option Value} (hs : ∀ x, Rs L xs (d + 42) 394 45 [some (.ref 1), some (.ref 10), some (.ref 400), some (.ref 2), some (.ref 3), some (.int (nI i)), a, b, none] [.int (nI c)] M x = Rs L xs (d + 42) 394 P [some (.ref 1), some (.ref 10), some (.ref 400), some (.ref 2), some (.ref 3), some (.int (nI i)), a, b, none] [] M x) (h : qTurn L xs d P i a b B M) :
    ∃ (M2 : qxM) (a2 b2 : Option Value) (x1 : Nat), x1 ≤ 1 ∧ qREL M2 ∧ qTab (B + 1) M2 ∧ ∀ x, Rs L xs (d + 42) 394 45 [some (.ref 1), some (.ref 10), some (.ref 400), some (.ref 2), some (.ref 3), some (.int (nI i)), a, b, none] [.int (nI c)] M x = Rs L xs (d + 42) 394 28 [some (.ref 1), some (.ref 10), some (.ref 400), some (.ref 2), some (.ref 3), some (.int (nI (i + 6))), a2, b2, none] [] M2 (x + x1) := by
  obtain ⟨M2, a2, b2, x1, p1, p2, p3, p4⟩ := h
  exact ⟨M2, a2, b2, x1, p1, p2, p3, fun x => by rw [hs x, p4 x]⟩
theorem law_case {M : qxM} {B i : Nat} {a b : Option Value} (hR : qREL M) (hT : qTab B M) (hB : B < 90000) (h6 : i + 6 ≤ L) (hL : L ≤ 3072) : ∀ c, c < 64 →
    ∃ (M2 : qxM) (a2 b2 : Option Value) (x1 : Nat), x1 ≤ 1 ∧ qREL M2 ∧ qTab (B + 1) M2 ∧ ∀ x, Rs L xs (d + 42) 394 45 [some (.ref 1), some (.ref 10), some (.ref 400), some (.ref 2), some (.ref 3), some (.int (nI i)), a, b, none] [.int (nI c)] M x = Rs L xs (d + 42) 394 28 [some (.ref 1), some (.ref 10), some (.ref 400), some (.ref 2), some (.ref 3), some (.int (nI (i + 6))), a2, b2, none] [] M2 (x + x1)

  | 0, _ => law_sw (fun x => s394_45_0) (k0 hR hT hB h6 hL)
  | 1, _ => law_sw (fun x => s394_45_1) (k1 hR hT hB h6 hL)
  | 2, _ => law_sw (fun x => s394_45_2) (k2 hR hT hB h6 hL)
  | 3, _ => law_sw (fun x => s394_45_3) (k3 hR hT hB h6 hL)
  | 4, _ => law_sw (fun x => s394_45_4) (k4 hR hT hB h6 hL)
  | 5, _ => law_sw (fun x => s394_45_5) (k5 hR hT hB h6 hL)
  | 6, _ => law_sw (fun x => s394_45_6) (k6 hR hT hB h6 hL)
  | 7, _ => law_sw (fun x => s394_45_7) (k7 hR hT hB h6 hL)
  | 8, _ => law_sw (fun x => s394_45_8) (k8 hR hT hB h6 hL)
  | 9, _ => law_sw (fun x => s394_45_9) (k9 hR hT hB h6 hL)
  | 10, _ => law_sw (fun x => s394_45_10) (k10 hR hT hB h6 hL)
  | 11, _ => law_sw (fun x => s394_45_11) (k11 hR hT hB h6 hL)
  | 12, _ => law_sw (fun x => s394_45_12) (k12 hR hT hB h6 hL)
  | 13, _ => law_sw (fun x => s394_45_13) (k13 hR hT hB h6 hL)
  | 14, _ => law_sw (fun x => s394_45_14) (k14 hR hT hB h6 hL)
  | 15, _ => law_sw (fun x => s394_45_15) (k15 hR hT hB h6 hL)
  | 16, _ => law_sw (fun x => s394_45_16) (k16 hR hT hB h6 hL)
  | 17, _ => law_sw (fun x => s394_45_17) (k17 hR hT hB h6 hL)
  | 18, _ => law_sw (fun x => s394_45_18) (k18 hR hT hB h6 hL)
  | 19, _ => law_sw (fun x => s394_45_19) (k19 hR hT hB h6 hL)
  | 20, _ => law_sw (fun x => s394_45_20) (k20 hR hT hB h6 hL)
  | 21, _ => law_sw (fun x => s394_45_21) (k21 hR hT hB h6 hL)
  | 22, _ => law_sw (fun x => s394_45_22) (k22 hR hT hB h6 hL)
  | 23, _ => law_sw (fun x => s394_45_23) (k23 hR hT hB h6 hL)
  | 24, _ => law_sw (fun x => s394_45_24) (k24 hR hT hB h6 hL)
  | 25, _ => law_sw (fun x => s394_45_25) (k25 hR hT hB h6 hL)
  | 26, _ => law_sw (fun x => s394_45_26) (k26 hR hT hB h6 hL)
  | 27, _ => law_sw (fun x => s394_45_27) (k27 hR hT hB h6 hL)
  | 28, _ => law_sw (fun x => s394_45_28) (k28 hR hT hB h6 hL)
  | 29, _ => law_sw (fun x => s394_45_29) (k29 hR hT hB h6 hL)
  | 30, _ => law_sw (fun x => s394_45_30) (k30 hR hT hB h6 hL)
  | 31, _ => law_sw (fun x => s394_45_31) (k31 hR hT hB h6 hL)
  | 32, _ => law_sw (fun x => s394_45_32) (k32 hR hT hB h6 hL)
  | 33, _ => law_sw (fun x => s394_45_33) (k33 hR hT hB h6 hL)
  | 34, _ => law_sw (fun x => s394_45_34) (k34 hR hT hB h6 hL)
  | 35, _ => law_sw (fun x => s394_45_35) (k35 hR hT hB h6 hL)
  | 36, _ => law_sw (fun x => s394_45_36) (k36 hR hT hB h6 hL)
  | 37, _ => law_sw (fun x => s394_45_37) (k37 hR hT hB h6 hL)
  | 38, _ => law_sw (fun x => s394_45_38) (k38 hR hT hB h6 hL)
  | 39, _ => law_sw (fun x => s394_45_39) (k39 hR hT hB h6 hL)
  | 40, _ => law_sw (fun x => s394_45_40) (k40 hR hT hB h6 hL)
  | 41, _ => law_sw (fun x => s394_45_41) (k41 hR hT hB h6 hL)
  | 42, _ => law_sw (fun x => s394_45_42) (k42 hR hT hB h6 hL)
  | 43, _ => law_sw (fun x => s394_45_43) (k43 hR hT hB h6 hL)
  | 44, _ => law_sw (fun x => s394_45_44) (k44 hR hT hB h6 hL)
  | 45, _ => law_sw (fun x => s394_45_45) (k45 hR hT hB h6 hL)
  | 46, _ => law_sw (fun x => s394_45_46) (k46 hR hT hB h6 hL)
  | 47, _ => law_sw (fun x => s394_45_47) (k47 hR hT hB h6 hL)
  | 48, _ => law_sw (fun x => s394_45_48) (k48 hR hT hB h6 hL)
  | 49, _ => law_sw (fun x => s394_45_49) (k49 hR hT hB h6 hL)
  | 50, _ => law_sw (fun x => s394_45_50) (k50 hR hT hB h6 hL)
  | 51, _ => law_sw (fun x => s394_45_51) (k51 hR hT hB h6 hL)
  | 52, _ => law_sw (fun x => s394_45_52) (k52 hR hT hB h6 hL)
  | 53, _ => law_sw (fun x => s394_45_53) (k53 hR hT hB h6 hL)
  | 54, _ => law_sw (fun x => s394_45_54) (k54 hR hT hB h6 hL)
  | 55, _ => law_sw (fun x => s394_45_55) (k55 hR hT hB h6 hL)
  | 56, _ => law_sw (fun x => s394_45_56) (k56 hR hT hB h6 hL)
  | 57, _ => law_sw (fun x => s394_45_57) (k57 hR hT hB h6 hL)
  | 58, _ => law_sw (fun x => s394_45_58) (k58 hR hT hB h6 hL)
  | 59, _ => law_sw (fun x => s394_45_59) (k59 hR hT hB h6 hL)
  | 60, _ => law_sw (fun x => s394_45_60) (k60 hR hT hB h6 hL)
  | 61, _ => law_sw (fun x => s394_45_61) (k61 hR hT hB h6 hL)
  | 62, _ => law_sw (fun x => s394_45_62) (k62 hR hT hB h6 hL)
  | 63, _ => law_sw (fun x => s394_45_63) (k63 hR hT hB h6 hL)
  | n + 64, h => absurd h (by omega)
theorem law_exit {M : qxM} {i x : Nat} {a b : Option Value} (hL : L ≤ 3072) (hi : i ≤ L) (h6 : ¬ i + 6 ≤ L) : Rs L xs (d + 42) 394 28 [some (.ref 1), some (.ref 10), some (.ref 400), some (.ref 2), some (.ref 3), some (.int (nI i)), a, b, none] [] M x = some (.inl (some (.int 1)), M, x) := by
  have hlt : (nI L - nI 6 < nI i) = True := by
    rw [i_more hL hi]
    exact eq_true h6
  have h01 : nI 1 = 0 ∨ nI 1 = 1 := Or.inr (by decide)
  simp only [s394_28, s394_30, s394_31s, s394_32, s394_34, s394_35, s394_3752, s394_3753, hlt, h01, ↓reduceIte]
  rfl
theorem law_loop (hL : L ≤ 3072) : ∀ (m i B x : Nat) (a b : Option Value) (M : qxM), i ≤ L → L ≤ i + 6 * m + 5 → qREL M → qTab B M → B + m < 90000 →
    ∃ (M1 : qxM) (x1 : Nat), x1 ≤ x + m ∧ Rs L xs (d + 42) 394 28 [some (.ref 1), some (.ref 10), some (.ref 400), some (.ref 2), some (.ref 3), some (.int (nI i)), a, b, none] [] M x = some (.inl (some (.int 1)), M1, x1) := by
  intro m
  induction m with
  | zero =>
    intro i B x a b M hi hm hR hT hB
    exact ⟨M, x, by omega, law_exit hL hi (by omega)⟩
  | succ m ih =>
    intro i B x a b M hi hm hR hT hB
    by_cases h6 : i + 6 ≤ L
    · obtain ⟨c, c1, c2⟩ := i_63 (xs i)
      obtain ⟨M2, a2, b2, x1, p1, p2, p3, p4⟩ := law_case (L := L) (xs := xs) (d := d) (a := a) (b := b) hR hT (by omega) h6 hL c c1
      obtain ⟨M3, x3, q1, q2⟩ := ih (i + 6) (B + 1) (x + x1) a2 b2 M2 h6 (by omega) p2 p3 (by omega)
      have hlt : (nI L - nI 6 < nI i) = False := by
        rw [i_more hL hi]
        exact eq_false (fun h => h h6)
      have b0 : qx_ib (nI i) L = true := qx_ib_of (by omega) (by omega)
      have c0 : (nI i).toNatClampNeg = i := nI_clamp (by omega)
      refine ⟨M3, x3, by omega, ?_⟩
      simp only [s394_28, s394_30, s394_31s, s394_32, s394_34, s394_35, s394_38, s394_39, s394_41s, s394_42, s394_44, hlt, b0, c0, c2, ↓reduceIte]
      rw [p4 x]
      exact q2
    · exact ⟨M, x, by omega, law_exit hL hi h6⟩
theorem qx_pure (hL : L ≤ 3072) : qx_goal L xs := by
  obtain ⟨M1, x1, h1, h2⟩ := law_loop (L := L) (xs := xs) (d := 158) hL 512 0 1 0 none none qx_M0 (Nat.zero_le _) (by omega) qREL_0 qTab_0 (by omega)
  exact ⟨M1, x1, by omega, h2⟩
end QE
