/-! The lines of a text, by both. -/
section QL
variable {L : Nat} {xs : Nat → Int32} {B : Nat → Int32} {N : Nat}
theorem txl {d e n r : Nat} {lv : Int32} (hN : N ≤ 500) : ∀ (k i s q : Nat) (f mt : Nat → Nat) (M W : qxM) (iv : Int32), N < s + k → i ≤ s → M.1 20 3 = nI 0 → lk M W B N s n r q f mt →
    tot M W (Rs L xs (d + 10) 21 27 [some (.ref 20), some (.int lv), some (.int (nI i))] [] M 0) (Rs L xs (e + 11) 206 71 [some (.ref 400), some (.int iv)] [] W 0) := by
  have k1 := qx_m400.1
  have k0 := qx_m20.1
  intro k
  induction k with
  | zero =>
    intro i s q f mt M W iv hk hi h3' h
    have := h.2.2.2.2.2.2.1
    omega
  | succ k ih =>
    intro i s q f mt M W iv hk hi h3' h
    obtain ⟨h1, h2, h3, h4, h5, h6, h7, h8⟩ := id h
    have hK := tkK_le B N s
    have hm := mkd_le (tkK B N s)
    have is4 := fun d => m194 (L := L) (xs := xs) (d := d) (x := 0) (j := 4) h3 h2.2.1 (by omega) (by decide)
    have is1 := fun d => m194 (L := L) (xs := xs) (d := d) (x := 0) (j := 1) h3 h2.2.1 (by omega) (by decide)
    simp only [mkd_4 _ hK] at is4
    simp only [mkd_1 _ hK] at is1
    have e3 : (nI (tkK B N s) = nI 3) = (tkK B N s = 3) := qi_eq (by omega) (by decide)
    have e5 : (nI 500 ≤ nI i) = (500 ≤ i) := qi_le (by decide) (by omega)
    by_cases hk3 : tkK B N s = 3
    · have hsN : s < N := Decidable.by_contra fun w => by
        rw [tkK_N (by omega)] at hk3
        omega
      have t5 : (nI 500 ≤ nI i) = False := by rw [e5]; exact eq_false (by omega)
      have t3 : (nI (tkK B N s) = nI 3) = True := by rw [e3]; exact eq_true hk3
      simp only [decide_eq_true hk3] at is4
      obtain ⟨W1, a2, hl⟩ := line (L := L) (xs := xs) (d := d) (e := e) hN h hk3
      have hcl : ∀ c M1, Rs L xs (d + 9) 23 0 [some (.ref 20), none, none, none, none, none, none] [] M 0 = some (.inl (some (.int (nI c))), M1, 0) → Rs L xs (d + 10) 21 27 [some (.ref 20), some (.int lv), some (.int (nI i))] [] M 0 = Rs L xs (d + 10) 21 27 [some (.ref 20), some (.int lv), some (.int (nI (i + 1)))] [] (qx_up M1 20 3 (nI c)) 0 := by
        intro c M1 hc
        rw [s21_27]
        simp only [s21_28, s21_31, s21_34, s21_35, s21_38, s21_41, s21_42, s21_45, s21_46, s21_49, s21_50, s21_51, s21_54, s21_57i, s21_57r, s21_57n, k0, t5, h3', qi_z0, h1.2.1, t3, hc, nI_add, List.length_cons, List.length_nil, Nat.zero_le, Nat.reduceAdd, Nat.reduceLeDiff, Option.bind_some, qx_kn_v, qx_kn_n, Nat.add_zero, Bool.false_eq_true, ↓reduceIte]
        rw [s21_60]
      have hml : ∀ W2, Rs L xs (e + 10) 205 0 [some (.ref 400)] [] W1 0 = some (.inl none, W2, 0) → Rs L xs (e + 11) 206 71 [some (.ref 400), some (.int iv)] [] W 0 = Rs L xs (e + 11) 206 71 [some (.ref 400), some (.int iv)] [] W2 0 := by
        intro W2 hw
        rw [s206_71]
        simp only [s206_72, s206_73, s206_76, s206_79, s206_80, s206_83, s206_84, k1, is4, qbt, a2, hw, List.length_cons, List.length_nil, Nat.zero_le, Nat.reduceAdd, Nat.reduceLeDiff, Option.bind_some, qx_kn_v, qx_kn_n, Nat.add_zero, Bool.false_eq_true, ↓reduceIte]
        rw [s206_87]
      rcases hl with ⟨c, s1, M1, W2, q1, q2, f1, mt1, f2, mt2, b1, b2, b3, b4, b5, b6, b7, b8, b9⟩ | ⟨s1, M1, W2, q1, f1, mt1, b1, b2, b3, b4, b5, b6⟩
      · have F : qf (fun a => a = 20) M1 (qx_up M1 20 3 (nI c)) := qf_up _ _ _ _ rfl
        have g3 : (qx_up M1 20 3 (nI c)).1 20 3 = nI c := qx_up_eq _ _ _ _
        have g8 : (qx_up M1 20 3 (nI c)).1 20 8 = nI s1 := by rw [qx_up_at, if_neg (by omega), b3]
        have hs5 : s51 L xs (qx_up M1 20 3 (nI c)) := s51_ok b6 (qPu_20 b5 F)
        rw [hcl c M1 b1, hml W2 b2]
        generalize qx_up M1 20 3 (nI c) = M3 at F g3 g8 hs5
        obtain ⟨M4, u1, u2, u3, u4, u5⟩ := c21f (L := L) (xs := xs) (d := d) (l1 := some (.int lv)) (l2 := some (.int (nI (i + 1)))) b7.1 g3 g8 hs5
        obtain ⟨W3, v1, v2, v3, v4⟩ := g206e (L := L) (xs := xs) (d := e) (iv := iv) b7
        refine Or.inl ⟨c, s1, M4, W3, b7.1, by omega, ?_, v1, u2, u3, v2, v3, u4, qf_trans b8.2 (qf_trans (qf_mono F (fun a e => Or.inl e)) u5), wF_trans b9 v4⟩
        rw [← u1]
        have tc : (nI c = 0) = False := zi0 b7.1.1 (by have := b7.1.2; omega)
        by_cases y : 500 ≤ i + 1
        · have t : (nI 500 ≤ nI (i + 1)) = True := by rw [qi_le (by decide) (by omega)]; exact eq_true y
          simp only [s21_27, s21_28, s21_31, s21_34, s21_35, s21_38, k0, t, List.length_cons, List.length_nil, Nat.zero_le, Nat.reduceAdd, Nat.reduceLeDiff, Option.bind_some, qx_kn_v, qx_kn_n, Nat.add_zero, Bool.false_eq_true, ↓reduceIte]
        · have t : (nI 500 ≤ nI (i + 1)) = False := by rw [qi_le (by decide) (by omega)]; exact eq_false y
          simp only [s21_27, s21_28, s21_31, s21_34, s21_35, s21_38, k0, t, g3, tc, List.length_cons, List.length_nil, Nat.zero_le, Nat.reduceAdd, Nat.reduceLeDiff, Option.bind_some, qx_kn_v, qx_kn_n, Nat.add_zero, Bool.false_eq_true, ↓reduceIte]
      · have e20 : ∀ j, (qx_up M1 20 3 (nI 0)).1 20 j = M1.1 20 j := fun j => by
          rw [qx_up_at]
          by_cases z : j = 3
          · rw [if_pos ⟨rfl, z⟩, z, b5.1 3 (by decide), h3']
          · rw [if_neg (by omega)]
        have F : qf (fun a => a = 20) M1 (qx_up M1 20 3 (nI 0)) := qf_up _ _ _ _ rfl
        have F' : qf (fun a => a = 20 ∨ 22 ≤ a ∧ a ≤ 24) M1 (qx_up M1 20 3 (nI 0)) := qf_mono F (fun a e => Or.inl e)
        rw [hcl 0 M1 b1, hml W2 b2]
        have hlk : lk (qx_up M1 20 3 (nI 0)) W2 B N s1 n r q1 f1 mt1 := lk_of (lt_20 (lk_lt b3) (fun j _ => e20 j) F') (qPu_20 b3.2.2.2.1 F) b3.2.2.2.2.1 b3.2.2.2.2.2.1 h8
        have g := ih (i + 1) s1 q1 f1 mt1 _ W2 iv (by omega) (by omega) (qx_up_eq _ _ _ _) hlk
        exact tot_tr (qf_trans b5.2 F') b6 g
    · have t3 : (nI (tkK B N s) = nI 3) = False := by rw [e3]; exact eq_false hk3
      have hx : Rs L xs (d + 10) 21 27 [some (.ref 20), some (.int lv), some (.int (nI i))] [] M 0 = Rs L xs (d + 10) 21 63 [some (.ref 20), some (.int lv), some (.int (nI i))] [] M 0 := by
        by_cases y : 500 ≤ i
        · have t : (nI 500 ≤ nI i) = True := by rw [e5]; exact eq_true y
          simp only [s21_27, s21_28, s21_31, s21_34, s21_35, s21_38, k0, t, List.length_cons, List.length_nil, Nat.zero_le, Nat.reduceAdd, Nat.reduceLeDiff, Option.bind_some, qx_kn_v, qx_kn_n, Nat.add_zero, Bool.false_eq_true, ↓reduceIte]
        · have t : (nI 500 ≤ nI i) = False := by rw [e5]; exact eq_false y
          simp only [s21_27, s21_28, s21_31, s21_34, s21_35, s21_38, s21_41, s21_42, s21_45, s21_46, k0, t, h3', qi_z0, h1.2.1, t3, List.length_cons, List.length_nil, Nat.zero_le, Nat.reduceAdd, Nat.reduceLeDiff, Option.bind_some, qx_kn_v, qx_kn_n, Nat.add_zero, Bool.false_eq_true, ↓reduceIte]
      simp only [decide_eq_false hk3] at is4
      rw [hx]
      by_cases hk4 : tkK B N s = 4
      · simp only [decide_eq_true hk4] at is1
        obtain ⟨M4, u1, u2, u3, u4, u5, u6⟩ := c21g (L := L) (xs := xs) (d := d) (l1 := some (.int lv)) (l2 := some (.int (nI i))) h3' h1 hk4 h6 h4
        obtain ⟨W1, g1, m1, f1⟩ := g221 (L := L) (xs := xs) (d := e + 7) (x := 0) h6 h5
        have hpf := qm_pf_ok (al := fun p => qp_al r q (f p) p) h6.1 n 0 mt 0 (by omega) h6.2.2.2.2.2
        refine Or.inr ⟨n, r, q, M4, W1, f, _, u1, ?_, u2, u3, ?_, u4, u5, nPu_step h5 f1 m1 (by intro j hj; omega), qp_wm h6 hpf.1, h8, u6, wF_mf f1 (by intro j hj; omega)⟩
        · simp only [s206_71, s206_72, s206_73, s206_76, s206_79, s206_80, s206_83, s206_84, s206_87, s206_90, s206_91, s206_92, s206_95, s206_98, s206_99, s206_100, s206_103, s206_104, s206_107i, s206_107r, s206_107n, s206_108, k1, is4, is1, qbf, qbt, g1, List.length_cons, List.length_nil, Nat.zero_le, Nat.reduceAdd, Nat.reduceLeDiff, Option.bind_some, qx_kn_v, qx_kn_n, Nat.add_zero, Bool.false_eq_true, ↓reduceIte]
        · rw [f1.1.1 400 (by decide), h3]
      · simp only [decide_eq_false hk4] at is1
        have hE := wE_ft (W := W) (c := 1) (s := s) (by decide) h5 h6
        have g193 := fun d => m193 (L := L) (xs := xs) (d := d) (x := 0) (c := 1) h3 h2.2.2.1
        obtain ⟨M4, u1, u2, u3, u4, u5⟩ := c21e (L := L) (xs := xs) (d := d) (l1 := some (.int lv)) (l2 := some (.int (nI i))) h3' h1 hk4 (s51_ok h6 h4)
        obtain ⟨W1, g1, m1, f1⟩ := g221 (L := L) (xs := xs) (d := e + 7) (x := 0) hE.1.2.2.2.2 hE.1.2.2.2.1
        refine Or.inl ⟨1, s, M4, W1, by decide, by omega, u1, ?_, u2, u3, ?_, ?_, u4, u5, wF_trans hE.2 (wF_mf f1 (by intro j hj; omega))⟩
        · simp only [s206_71, s206_72, s206_73, s206_76, s206_79, s206_80, s206_83, s206_84, s206_87, s206_90, s206_91, s206_92, s206_95, s206_98, s206_99, s206_100, s206_103, s206_104, s206_107i, s206_107r, s206_107n, s206_108, k1, is4, is1, qbf, g193, g1, List.length_cons, List.length_nil, Nat.zero_le, Nat.reduceAdd, Nat.reduceLeDiff, Option.bind_some, qx_kn_v, qx_kn_n, Nat.add_zero, Bool.false_eq_true, ↓reduceIte]
        · rw [f1.1.1 400 (by decide), hE.1.2.1]
        · rw [f1.1.1 400 (by decide), hE.1.2.2.1]
end QL
