/-! Load: the class's parse and the Model's, and the call. -/
theorem s51_up {L : Nat} {xs : Nat → Int32} {M : qxM} {k : Nat} {v : Int32} (h : s51 L xs M) : s51 L xs (qx_up M 20 k v) := fun M0 e1 e2 e3 => h M0 (by rw [e1, qx_up_ne _ _ _ (by decide)]) (by rw [e2, qx_up_ne _ _ _ (by decide)]) (by rw [e3, qx_up_ne _ _ _ (by decide)])
theorem cTk_3 {M : qxM} {B : Nat → Int32} {N s : Nat} {v : Int32} (h : cTk M B N s) : cTk (qx_up M 20 3 v) B N s := by
  obtain ⟨⟨a1, a2, a3⟩, a4, a5, a6⟩ := h
  exact ⟨⟨by rw [qx_up_at, if_neg (by omega), a1], by rw [qx_up_at, if_neg (by omega), a2], fun i hi => by rw [qx_up_ne _ _ _ (by decide), a3 i hi]⟩, by rw [qx_up_at, if_neg (by omega), a4], by rw [qx_up_at, if_neg (by omega), a5], fun w => by rw [qx_up_at, if_neg (by omega), a6 w]⟩
section QL
variable {L : Nat} {xs : Nat → Int32} {B : Nat → Int32} {N : Nat}
theorem m34q {d x : Nat} {M : qxM} : ∃ M1, Rs L xs (d + 1) 34 0 [some (.ref (22))] [] (M) x = some (.inl (none), M1, x) ∧ qPu 22 M1 0 0 0 (fun _ => 0) (fun _ => 14) ∧ qf (fun a => 22 ≤ a ∧ a ≤ 24) M M1 := by
  refine ⟨_, m34 qx_P22, ⟨?_, ?_, ?_, fun p hp => ?_, fun p hp => ?_⟩, ?_⟩
  · rw [qx_ur_ne _ _ (by decide), qx_ur_ne _ _ (by decide), qx_up_at, if_neg (by omega), qx_up_at, if_neg (by omega), qx_up_eq]
  · rw [qx_ur_ne _ _ (by decide), qx_ur_ne _ _ (by decide), qx_up_at, if_neg (by omega), qx_up_eq]
  · rw [qx_ur_ne _ _ (by decide), qx_ur_ne _ _ (by decide), qx_up_eq]
  · rw [qx_ur_ne _ _ (by decide), qx_ur_eq]
    exact if_pos hp
  · rw [qx_ur_eq]
    exact if_pos hp
  · exact qf_trans (qf_up _ _ _ _ (by omega)) (qf_trans (qf_up _ _ _ _ (by omega)) (qf_trans (qf_up _ _ _ _ (by omega)) (qf_trans (qf_ur _ _ _ (by omega)) (qf_ur _ _ _ (by omega)))))
theorem parse {d e : Nat} {M W : qxM} (hN : N ≤ 500) (hB : ∀ i, i < N → M.1 21 i = B i) (hW : nPo W B N 0) (h10 : W.1 400 10 = nI 0) (hz : ∀ k, k < 35 → W.1 401 k = nI 0) : tot M W (Rs L xs (d + 10) 21 0 [some (.ref 20), some (.int (nI N)), none] [] M 0) (Rs L xs (e + 11) 206 0 [some (.ref 400), none] [] W 0) := by
  have k0 := qx_m20.1
  have kP := qx_P22.1
  have Fa : qf (fun a => a = 20) M (qx_up (qx_up M 20 5 (nI N)) 20 6 (nI 0)) := qf_trans (qf_up _ _ _ _ rfl) (qf_up _ _ _ _ rfl)
  obtain ⟨M1, g34, u1, f1⟩ := m34q (L := L) (xs := xs) (d := d + 8) (x := 0) (M := qx_up (qx_up M 20 5 (nI N)) 20 6 (nI 0))
  have hP1 : cPo M1 B N 0 := ⟨by rw [f1.1 20 (by omega), qx_up_at, if_neg (by omega), qx_up_eq], by rw [f1.1 20 (by omega), qx_up_eq], fun i hi => by rw [f1.1 21 (by omega), Fa.1 21 (by decide), hB i hi]⟩
  have F1 : qf (fun a => a = 20 ∨ 22 ≤ a ∧ a ≤ 24) M M1 := qf_trans (qf_mono Fa (fun a e => Or.inl e)) (qf_mono f1 (fun a e => Or.inr e))
  rcases head (L := L) (xs := xs) (d := d) (e := e) hN hP1 u1 hW h10 hz with ⟨c, s1, M2, W1, n, r, iv, hc, hs, h22, h206, h8, hs5, hE, FM, FW⟩ | ⟨s1, M2, W1, n, r, iv, h22, h206, hlk, FM, FW⟩
  · have Fc : qf (fun a => a = 20) M2 (qx_up M2 20 3 (nI c)) := qf_up _ _ _ _ rfl
    have e3 : (qx_up M2 20 3 (nI c)).1 20 3 = nI c := qx_up_eq _ _ _ _
    obtain ⟨M4, u1', u2, u3, u4, u5⟩ := c21f (L := L) (xs := xs) (d := d) (s := s1) (l1 := some (.int (nI N))) (l2 := some (.int (nI 0))) (M := qx_up M2 20 3 (nI c)) hc e3 (by rw [qx_up_at, if_neg (by omega), h8]) (s51_up hs5)
    obtain ⟨W3, v1, v2, v3, v4⟩ := g206e (L := L) (xs := xs) (d := e) (iv := iv) hE
    have tc : (nI c = 0) = False := zi0 hc.1 (by omega)
    have t5 : (nI 500 ≤ nI 0) = False := by decide
    refine Or.inl ⟨c, s1, M4, W3, hc, hs, ?_, by rw [h206, v1], u2, u3, v2, v3, u4, qf_trans F1 (qf_trans FM (qf_trans (qf_mono Fc (fun a e => Or.inl e)) u5)), wF_trans FW v4⟩
    rw [← u1']
    simp only [s21_0, s21_1, s21_2, s21_5, s21_6, s21_7, s21_10, s21_11, s21_14, s21_17, s21_18, s21_19, s21_22, s21_25, s21_26i, s21_26r, s21_26n, s21_27, s21_28, s21_31, s21_34, s21_35, s21_38, k0, kP, g34, h22, e3, tc, t5, List.length_cons, List.length_nil, Nat.zero_le, Nat.reduceAdd, Nat.reduceLeDiff, Option.bind_some, qx_kn_v, qx_kn_n, Nat.add_zero, Bool.false_eq_true, ↓reduceIte]
  · have Fc : qf (fun a => a = 20) M2 (qx_up M2 20 3 (nI 0)) := qf_up _ _ _ _ rfl
    have hlk3 : lk (qx_up M2 20 3 (nI 0)) W1 B N s1 n r 0 (fun _ => 0) (fun _ => 14) := ⟨cTk_3 hlk.1, hlk.2.1, hlk.2.2.1, qPu_20 hlk.2.2.2.1 Fc, hlk.2.2.2.2⟩
    have g := txl (L := L) (xs := xs) (d := d) (e := e) (lv := nI N) hN (N + 1) 0 s1 0 _ _ (qx_up M2 20 3 (nI 0)) W1 iv (by omega) (by omega) (qx_up_eq _ _ _ _) hlk3
    have hcl : Rs L xs (d + 10) 21 0 [some (.ref 20), some (.int (nI N)), none] [] M 0 = Rs L xs (d + 10) 21 27 [some (.ref 20), some (.int (nI N)), some (.int (nI 0))] [] (qx_up M2 20 3 (nI 0)) 0 := by
      simp only [s21_0, s21_1, s21_2, s21_5, s21_6, s21_7, s21_10, s21_11, s21_14, s21_17, s21_18, s21_19, s21_22, s21_25, s21_26i, s21_26r, s21_26n, k0, kP, g34, h22, List.length_cons, List.length_nil, Nat.zero_le, Nat.reduceAdd, Nat.reduceLeDiff, Option.bind_some, qx_kn_v, qx_kn_n, Nat.add_zero, Bool.false_eq_true, ↓reduceIte]
    rw [hcl, h206]
    exact tot_tr (qf_trans F1 (qf_trans FM (qf_mono Fc (fun a e => Or.inl e)))) FW g
/-- the Model's start of a load -/
theorem g207z {d : Nat} {zv : Int32} : ∀ (k i : Nat) (W : qxM), i + k = 335 → ∃ W1, Rs L xs (d + 40) 207 51 [some (.ref 400), some (.int zv), some (.int (nI i))] [] W 0 = Rs L xs (d + 40) 207 71 [some (.ref 400), some (.int zv), some (.int (nI 335))] [] W1 0 ∧ (∀ j, i ≤ j → j < 335 → W1.1 401 j = nI 0) ∧ mf (fun j => i ≤ j ∧ j < 335) W W1 := by
  obtain ⟨k1, k2, k3⟩ := qx_m400
  intro k
  induction k with
  | zero =>
    intro i W hi
    have h14 : i = 335 := by omega
    subst h14
    refine ⟨W, ?_, fun p _ _ => by omega, mf_refl _ _⟩
    have t : (nI 335 ≤ nI 335) = True := by decide
    simp only [s207_51, s207_52, s207_55, t, List.length_cons, List.length_nil, Nat.zero_le, Nat.reduceAdd, Nat.reduceLeDiff, Option.bind_some, qx_kn_v, qx_kn_n, Nat.add_zero, Bool.false_eq_true, ↓reduceIte]
  | succ k ih =>
    intro i W hi
    have t : (nI 335 ≤ nI i) = False := by rw [qi_le (by decide) (by omega)]; exact eq_false (by omega)
    have f1 : mf (fun j => i ≤ j ∧ j < 335) W (qx_up W 401 i (nI 0)) := mf_up _ _ _ (by omega)
    obtain ⟨W1, g1, c1, f2⟩ := ih (i + 1) (qx_up W 401 i (nI 0)) (by omega)
    refine ⟨W1, ?_, fun p p1 p2 => ?_, ⟨qf_trans f1.1 f2.1, fun j hj => by rw [f2.2 j (by omega), f1.2 j hj]⟩⟩
    · rw [s207_51]
      simp only [s207_52, s207_55, s207_58, s207_59, s207_62, s207_63, s207_64, s207_65i, s207_65r, s207_65n, k1, k2, k3, t, nI_add, (qn_c (i) (by omega)).1, (qn_c (i) (by omega)).2, List.length_cons, List.length_nil, Nat.zero_le, Nat.reduceAdd, Nat.reduceLeDiff, Option.bind_some, qx_kn_v, qx_kn_n, Nat.add_zero, Bool.false_eq_true, ↓reduceIte]
      rw [s207_68, g1]
    · by_cases z : p = i
      · rw [z, f2.2 i (by omega), qx_up_eq]
      · exact c1 p (by omega) p2
theorem g207s {d n : Nat} {V : qxM} (hn : n ≤ 500) (hNn : N ≤ n) (h9 : V.1 400 9 = nI n) (hB : ∀ i, i < N → V.1 406 i = B i) : ∃ W, Rs L xs (d + 40) 207 0 [some (.ref 400), some (.int (nI N)), none] [] V 0 = Rs L xs (d + 40) 207 71 [some (.ref 400), some (.int (nI N)), some (.int (nI 335))] [] W 0 ∧ nPo W B N 0 ∧ W.1 400 10 = nI 0 ∧ W.1 400 11 = -1 ∧ W.1 400 9 = nI 0 ∧ W.1 400 0 = nI 0 ∧ (∀ k, k < 335 → W.1 401 k = nI 0) ∧ (∀ k, k < 335 → W.1 402 k = V.1 401 k) ∧ (∀ j, ¬ (j = 0 ∨ 9 ≤ j ∧ j ≤ 13) → W.1 400 j = V.1 400 j) ∧ qf (fun a => a = 400 ∨ a = 401 ∨ a = 402) V W := by
  obtain ⟨k1, k2, k3⟩ := qx_m400
  have h178 := fun (d : Nat) => a178k (L := L) (xs := xs) (d := d) (x := 0) (M := V) (k := n) (by omega) (nI N)
  have hq : ¬ qOut (n + 1) (nI N) := qOut_in (by omega) (by omega)
  rw [decide_eq_false hq] at h178
  have h180 := fun (d : Nat) => z180t (L := L) (xs := xs) (d := d) (x := 0) V
  generalize hVa : qx_up (qx_up (qx_up (qx_up (qx_up (qx_up V 400 0 (nI 0)) 400 12 (nI N)) 400 13 (nI 0)) 400 9 (nI 0)) 400 10 (nI 0)) 400 11 (-1) = Va
  have Fa : qf (fun a => a = 400) V Va := by
    rw [← hVa]
    exact qf_trans (qf_up _ _ _ _ rfl) (qf_trans (qf_up _ _ _ _ rfl) (qf_trans (qf_up _ _ _ _ rfl) (qf_trans (qf_up _ _ _ _ rfl) (qf_trans (qf_up _ _ _ _ rfl) (qf_up _ _ _ _ rfl)))))
  have ea : ∀ j, Va.1 400 j = if j = 11 then -1 else if j = 10 then nI 0 else if j = 9 then nI 0 else if j = 13 then nI 0 else if j = 12 then nI N else if j = 0 then nI 0 else V.1 400 j := by
    intro j
    rw [← hVa]
    simp only [qx_up_at, true_and]
  obtain ⟨Vb, g183', c183, f183⟩ := g183 (L := L) (xs := xs) (d := d + 38) (x := 0) (M := Va)
  obtain ⟨W, g1, c1, f1⟩ := g207z (L := L) (xs := xs) (d := d) (zv := nI N) 335 0 Vb (by decide)
  have e400 : W.1 400 = Va.1 400 := by rw [f1.1.1 400 (by decide), f183.1 400 (by decide)]
  refine ⟨W, ?_, ⟨?_, ?_, fun i hi => ?_⟩, ?_, ?_, ?_, ?_, fun k hk => c1 k (by omega) hk, fun k hk => ?_, fun j hj => ?_, ?_⟩
  · rw [← g1]
    simp only [s207_0, s207_1, s207_2, s207_3, s207_4, s207_7, s207_10, s207_11, s207_12, s207_15, s207_18, s207_19, s207_20, s207_21, s207_22, s207_25, s207_26, s207_27, s207_30, s207_31, s207_32, s207_35, s207_36, s207_37, s207_40, s207_41, s207_42, s207_45, s207_46, s207_49, s207_50i, s207_50r, s207_50n, k1, h9, h178, Bool.not_false, qbt, h180, hVa, g183', List.length_cons, List.length_nil, Nat.zero_le, Nat.reduceAdd, Nat.reduceLeDiff, Option.bind_some, qx_kn_v, qx_kn_n, Nat.add_zero, Bool.false_eq_true, ↓reduceIte]
  · rw [e400, ea]
    rfl
  · rw [e400, ea]
    rfl
  · rw [f1.1.1 406 (by decide), f183.1 406 (by decide), Fa.1 406 (by decide), hB i hi]
  · rw [e400, ea]
    rfl
  · rw [e400, ea]
    rfl
  · rw [e400, ea]
    rfl
  · rw [e400, ea]
    rfl
  · rw [f1.1.1 402 (by decide), c183 k hk, Fa.1 401 (by decide)]
  · rw [e400, ea, if_neg (by omega), if_neg (by omega), if_neg (by omega), if_neg (by omega), if_neg (by omega), if_neg (by omega)]
  · exact qf_trans (qf_mono Fa (fun a e => Or.inl e)) (qf_trans (qf_mono f183 (fun a e => Or.inr (Or.inr e))) (qf_mono f1.1 (fun a e => Or.inr (Or.inl e))))
end QL
