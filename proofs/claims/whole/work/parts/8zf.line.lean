/-! A line, read by both. -/
def lt (M W : qxM) (B : Nat → Int32) (N s : Nat) : Prop := cTk M B N s ∧ nTk W B N s ∧ W.1 400 10 = nI 0 ∧ s ≤ N
theorem lk_lt {M W : qxM} {B : Nat → Int32} {N s n r q : Nat} {f mt : Nat → Nat} (h : lk M W B N s n r q f mt) : lt M W B N s := ⟨h.1, h.2.1, h.2.2.1, h.2.2.2.2.2.2.1⟩
theorem lk_of {M W : qxM} {B : Nat → Int32} {N s n r q : Nat} {f mt : Nat → Nat} (h : lt M W B N s) (hu : qPu 22 M n r q f mt) (hw : nPu W n r q f mt) (hp : qp_ok n r q f mt) (h1 : 1 ≤ n) : lk M W B N s n r q f mt := ⟨h.1, h.2.1, h.2.2.1, hu, hw, hp, h.2.2.2, h1⟩
theorem nTk_mf {R : Nat → Prop} {W W1 : qxM} {B : Nat → Int32} {N s : Nat} (h : nTk W B N s) (hf : mf R W W1) : nTk W1 B N s := by
  obtain ⟨⟨a1, a2, a3⟩, a4, a5, a6⟩ := h
  have e4 : W1.1 400 = W.1 400 := hf.1.1 400 (by decide)
  exact ⟨⟨by rw [e4, a1], by rw [e4, a2], fun i hi => by rw [hf.1.1 406 (by decide), a3 i hi]⟩, by rw [e4, a4], by rw [e4, a5], fun w => by rw [e4, a6 w]⟩
theorem lt_mf {R : Nat → Prop} {M W W1 : qxM} {B : Nat → Int32} {N s : Nat} (h : lt M W B N s) (hf : mf R W W1) : lt M W1 B N s := ⟨h.1, nTk_mf h.2.1 hf, by rw [hf.1.1 400 (by decide), h.2.2.1], h.2.2.2⟩
theorem lt_20 {M M1 W : qxM} {B : Nat → Int32} {N s : Nat} (h : lt M W B N s) (h1 : ∀ j, j < 10 → M1.1 20 j = M.1 20 j) (h2 : qf (fun a => a = 20 ∨ 22 ≤ a ∧ a ≤ 24) M M1) : lt M1 W B N s := ⟨cTk_fr h.1 h1 h2, h.2.1, h.2.2.1, h.2.2.2⟩
theorem cF_10 {M M1 : qxM} (h1 : ∀ j, j < 10 → M1.1 20 j = M.1 20 j) (h2 : qf (fun a => a = 20 ∨ 22 ≤ a ∧ a ≤ 24) M M1) : cF M M1 := ⟨fun j hj => h1 j (by omega), h2⟩
theorem nPu_q4 {R : Nat → Prop} {W W1 : qxM} {n r q : Nat} {f mt : Nat → Nat} (h : nPu W n r q f mt) (hf : q4 R W W1) : nPu W1 n r q f mt := nPu_cp h (fun k _ => by rw [hf.2.1 401 (by decide)])
/-- how a line ends, of both: a fault at the same place, or the same pupils -/
def lot (M W : qxM) (B : Nat → Int32) (N s n r : Nat) (rc rw : Option qxO) : Prop :=
  (∃ c s1 M1 W1 q1 q2, ∃ f1 mt1 f2 mt2 : Nat → Nat, rc = some (.inl (some (.int (nI c))), M1, 0) ∧ rw = some (.inl none, W1, 0) ∧ M1.1 20 8 = nI s1 ∧ s1 ≤ N ∧ qPu 22 M1 n r q2 f2 mt2 ∧ qp_ok n r q2 f2 mt2 ∧ wE W1 c s1 n r q1 f1 mt1 ∧ cF M M1 ∧ wF W W1) ∨
  (∃ s1 M1 W1 q1, ∃ f1 mt1 : Nat → Nat, rc = some (.inl (some (.int (nI 0))), M1, 0) ∧ rw = some (.inl none, W1, 0) ∧ lk M1 W1 B N s1 n r q1 f1 mt1 ∧ s ≤ s1 ∧ cF M M1 ∧ wF W W1)
theorem lot_tr {M W M0 W0 : qxM} {B : Nat → Int32} {N s s0 n r : Nat} {rc rw : Option qxO} (h1 : cF M0 M) (h2 : wF W0 W) (h3 : s0 ≤ s) (h : lot M W B N s n r rc rw) : lot M0 W0 B N s0 n r rc rw := by
  rcases h with ⟨c, s1, M1, W1, q1, q2, f1, mt1, f2, mt2, a1, a2, a3, a4, a5, a6, a7, a8, a9⟩ | ⟨s1, M1, W1, q1, f1, mt1, a1, a2, a3, a4, a5, a6⟩
  · exact Or.inl ⟨c, s1, M1, W1, q1, q2, f1, mt1, f2, mt2, a1, a2, a3, a4, a5, a6, a7, cF_trans h1 a8, wF_trans h2 a9⟩
  · exact Or.inr ⟨s1, M1, W1, q1, f1, mt1, a1, a2, a3, by omega, cF_trans h1 a5, wF_trans h2 a6⟩
/-- a fault that the token at s has -/
theorem lot_bad {M W W1 : qxM} {B : Nat → Int32} {N s n r q q1 c : Nat} {f mt f1 mt1 : Nat → Nat} {rc rw : Option qxO} (h : lk M W B N s n r q f mt) (hc : rc = some (.inl (some (.int (nI c))), M, 0)) (hw : rw = some (.inl none, W1, 0)) (hE : wE W1 c s n r q1 f1 mt1) (hF : wF W W1) : lot M W B N s n r rc rw :=
  Or.inl ⟨c, s, M, W1, q1, q, f1, mt1, f, mt, hc, hw, h.1.2.2.1, h.2.2.2.2.2.2.1, h.2.2.2.1, h.2.2.2.2.2.1, hE, cF_refl _, hF⟩
theorem tkK_N {B : Nat → Int32} {N s : Nat} (h : N ≤ s) : tkK B N s = 4 := if_pos h
section QL
variable {L : Nat} {xs : Nat → Int32} {B : Nat → Int32} {N : Nat}
theorem nxtk {d e s : Nat} {M W : qxM} (hN : N ≤ 500) (h : lt M W B N s) : ∃ M1 W1 s1, Rs L xs (d + 3) 28 0 [some (.ref 20)] [] M 0 = some (.inl none, M1, 0) ∧ Rs L xs (e + 3) 192 0 [some (.ref 400)] [] W 0 = some (.inl none, W1, 0) ∧ lt M1 W1 B N s1 ∧ q20 qtF M M1 ∧ q4 qnF W W1 ∧ s ≤ s1 ∧ (tkK B N s ≠ 4 → s < s1) := by
  obtain ⟨h1, h2, h3, h7⟩ := h
  have hE := tkE_le (B := B) h7
  have hS := tkS_le (B := B) hE.2
  obtain ⟨M1, g1, c1, f1⟩ := m28 (L := L) (xs := xs) (d := d) (x := 0) hN hE.2 h1.1
  obtain ⟨W1, g2, c2, f2⟩ := m192 (L := L) (xs := xs) (d := e) (x := 0) hN hE.2 h3 h2.1
  refine ⟨M1, W1, _, g1, g2, ⟨c1, c2, by rw [f2.1 10 (by unfold qnF; omega), h3], hS.2⟩, f1, f2, by omega, fun w => ?_⟩
  have := tkE_gt w
  omega
/-- the class's loop over a line's pupils -/
theorem c23x {d s i so nd lm : Nat} {e6 : Option Value} {M : qxM} (hT : cTk M B N s) (h : lm ≤ i ∨ tkK B N s ≠ 2) (hi : i ≤ 500) (hnd : nd ≤ 3) (hlm : lm ≤ 500) : Rs L xs (d + 9) 23 63 [some (.ref 20), some (.int (nI so)), some (.int (nI nd)), some (.int (nI lm)), some (.int (nI i)), some (.int (nI i)), e6] [] M 0 = if i < nd then some (.inl (some (.int (nI 1))), M, 0) else Rs L xs (d + 9) 23 143 [some (.ref 20), some (.int (nI so)), some (.int (nI nd)), some (.int (nI lm)), some (.int (nI i)), some (.int (nI i)), e6] [] M 0 := by
  have k1 := qx_m20.1
  have hK := tkK_le B N s
  have e1 : (nI nd ≤ nI i) = (nd ≤ i) := qi_le (by omega) (by omega)
  have e2 : (nI lm ≤ nI i) = (lm ≤ i) := qi_le (by omega) (by omega)
  have e3 : (nI (tkK B N s) = nI 2) = (tkK B N s = 2) := qi_eq (by omega) (by decide)
  have hto : Rs L xs (d + 9) 23 63 [some (.ref 20), some (.int (nI so)), some (.int (nI nd)), some (.int (nI lm)), some (.int (nI i)), some (.int (nI i)), e6] [] M 0 = Rs L xs (d + 9) 23 135 [some (.ref 20), some (.int (nI so)), some (.int (nI nd)), some (.int (nI lm)), some (.int (nI i)), some (.int (nI i)), e6] [] M 0 := by
    by_cases y : lm ≤ i
    · have t : (nI lm ≤ nI i) = True := by rw [e2]; exact eq_true y
      simp only [s23_63, s23_65, s23_66, s23_69, s23_70, s23_73, s23_74, k1, t, List.length_cons, List.length_nil, Nat.zero_le, Nat.reduceAdd, Nat.reduceLeDiff, Option.bind_some, qx_kn_v, qx_kn_n, Nat.add_zero, Bool.false_eq_true, ↓reduceIte]
    · have t : (nI lm ≤ nI i) = False := by rw [e2]; exact eq_false y
      have t3 : (nI (tkK B N s) = nI 2) = False := by rw [e3]; exact eq_false (h.resolve_left y)
      simp only [s23_63, s23_65, s23_66, s23_69, s23_70, s23_73, s23_74, k1, t, hT.2.1, t3, List.length_cons, List.length_nil, Nat.zero_le, Nat.reduceAdd, Nat.reduceLeDiff, Option.bind_some, qx_kn_v, qx_kn_n, Nat.add_zero, Bool.false_eq_true, ↓reduceIte]
  rw [hto]
  by_cases y : i < nd
  · have t : (nI nd ≤ nI i) = False := by rw [e1]; exact eq_false (by omega)
    rw [if_pos y]
    simp only [s23_135, s23_137, s23_138, s23_141, s23_142, t, List.length_cons, List.length_nil, Nat.zero_le, Nat.reduceAdd, Nat.reduceLeDiff, Option.bind_some, qx_kn_v, qx_kn_n, Nat.add_zero, Bool.false_eq_true, ↓reduceIte]
  · have t : (nI nd ≤ nI i) = True := by rw [e1]; exact eq_true (by omega)
    rw [if_neg y]
    simp only [s23_135, s23_137, s23_138, s23_141, s23_142, t, List.length_cons, List.length_nil, Nat.zero_le, Nat.reduceAdd, Nat.reduceLeDiff, Option.bind_some, qx_kn_v, qx_kn_n, Nat.add_zero, Bool.false_eq_true, ↓reduceIte]
theorem c23e {d s i so nd lm n c : Nat} {e6 : Option Value} {M : qxM} (hT : cTk M B N s) (hK : tkK B N s = 2) (hi : i < lm) (hlm : lm ≤ 500) (hn : M.1 22 0 = nI n) (hc : 0 < c) (hc9 : c < 9)
    (h : ∀ d x : Nat, Rs L xs (d) 27 0 [some (.ref (20)), some (.int (nI 0)), some (.int (nI n - nI 1))] [] (M) x = some (.inl (some (.int (nI c))), M, x)) : Rs L xs (d + 9) 23 63 [some (.ref 20), some (.int (nI so)), some (.int (nI nd)), some (.int (nI lm)), some (.int (nI i)), some (.int (nI i)), e6] [] M 0 = some (.inl (some (.int (nI c))), M, 0) := by
  have k1 := qx_m20.1
  have k2 := qx_P22.1
  have t : (nI lm ≤ nI i) = False := by rw [qi_le (by omega) (by omega)]; exact eq_false (by omega)
  have t3 : (nI (tkK B N s) = nI 2) = True := eq_true (by rw [hK])
  have g := fun d => h d 0
  simp only [s23_63, s23_65, s23_66, s23_69, s23_70, s23_73, s23_74, s23_77, s23_78, s23_79, s23_80, s23_83, s23_86, s23_87, s23_88, s23_91i, s23_91r, s23_91n, s23_93, s23_95, s23_98, s23_99, s23_100, s23_102, s23_105i, s23_105r, s23_105n, s23_107, s23_109, s23_112, s23_114, k1, k2, t, hT.2.1, t3, hn, g, zi0 hc (show c < 2 ^ 31 by omega), List.length_cons, List.length_nil, Nat.zero_le, Nat.reduceAdd, Nat.reduceLeDiff, Option.bind_some, qx_kn_v, qx_kn_n, Nat.add_zero, Bool.false_eq_true, ↓reduceIte]
theorem c23b {d s i so nd lm n c : Nat} {e6 : Option Value} {M : qxM} (hT : cTk M B N s) (hK : tkK B N s = 2) (hi : i < lm) (hlm : lm ≤ 500) (hn : M.1 22 0 = nI n) (hc : 0 < c) (hc9 : c < 9)
    (h : ∀ d x : Nat, Rs L xs (d) 27 0 [some (.ref (20)), some (.int (nI 0)), some (.int (nI n - nI 1))] [] (M) x = some (.inl (some (.int (nI 0))), M, x)) (h25 : Rs L xs (d + 8) 25 0 [some (.ref 20), some (.int (nI so)), some (.int (nI i)), none, none] [] M 0 = some (.inl (some (.int (nI c))), M, 0)) : Rs L xs (d + 9) 23 63 [some (.ref 20), some (.int (nI so)), some (.int (nI nd)), some (.int (nI lm)), some (.int (nI i)), some (.int (nI i)), e6] [] M 0 = some (.inl (some (.int (nI c))), M, 0) := by
  have k1 := qx_m20.1
  have k2 := qx_P22.1
  have t : (nI lm ≤ nI i) = False := by rw [qi_le (by omega) (by omega)]; exact eq_false (by omega)
  have t3 : (nI (tkK B N s) = nI 2) = True := eq_true (by rw [hK])
  have g := fun d => h d 0
  simp only [s23_63, s23_65, s23_66, s23_69, s23_70, s23_73, s23_74, s23_77, s23_78, s23_79, s23_80, s23_83, s23_86, s23_87, s23_88, s23_91i, s23_91r, s23_91n, s23_93, s23_95, s23_98, s23_99, s23_100, s23_102, s23_105i, s23_105r, s23_105n, s23_107, s23_109, s23_112, s23_114, k1, k2, t, hT.2.1, t3, hn, g, qi_z0, h25, zi0 hc (show c < 2 ^ 31 by omega), List.length_cons, List.length_nil, Nat.zero_le, Nat.reduceAdd, Nat.reduceLeDiff, Option.bind_some, qx_kn_v, qx_kn_n, Nat.add_zero, Bool.false_eq_true, ↓reduceIte]
theorem c23g {d s i so nd lm n : Nat} {e6 : Option Value} {M M1 M2 : qxM} (hT : cTk M B N s) (hK : tkK B N s = 2) (hi : i < lm) (hlm : lm ≤ 500) (hn : M.1 22 0 = nI n)
    (h : ∀ d x : Nat, Rs L xs (d) 27 0 [some (.ref (20)), some (.int (nI 0)), some (.int (nI n - nI 1))] [] (M) x = some (.inl (some (.int (nI 0))), M, x)) (h25 : Rs L xs (d + 8) 25 0 [some (.ref 20), some (.int (nI so)), some (.int (nI i)), none, none] [] M 0 = some (.inl (some (.int (nI 0))), M, 0))
    (h26 : Rs L xs (d + 8) 26 0 [some (.ref 20), some (.int (nI so)), some (.int (nI i))] [] M 0 = some (.inl none, M1, 0)) (h28 : Rs L xs (d + 8) 28 0 [some (.ref 20)] [] M1 0 = some (.inl none, M2, 0)) : Rs L xs (d + 9) 23 63 [some (.ref 20), some (.int (nI so)), some (.int (nI nd)), some (.int (nI lm)), some (.int (nI i)), some (.int (nI i)), e6] [] M 0 = Rs L xs (d + 9) 23 63 [some (.ref 20), some (.int (nI so)), some (.int (nI nd)), some (.int (nI lm)), some (.int (nI (i + 1))), some (.int (nI (i + 1))), some (.int (nI 0))] [] M2 0 := by
  have k1 := qx_m20.1
  have k2 := qx_P22.1
  have t : (nI lm ≤ nI i) = False := by rw [qi_le (by omega) (by omega)]; exact eq_false (by omega)
  have t3 : (nI (tkK B N s) = nI 2) = True := eq_true (by rw [hK])
  have g := fun d => h d 0
  rw [s23_63]
  simp only [s23_65, s23_66, s23_69, s23_70, s23_73, s23_74, s23_77, s23_78, s23_79, s23_80, s23_83, s23_86, s23_87, s23_88, s23_91i, s23_91r, s23_91n, s23_93, s23_95, s23_98, s23_99, s23_100, s23_102, s23_105i, s23_105r, s23_105n, s23_107, s23_109, s23_112, s23_114, s23_115, s23_116, s23_117, s23_119, s23_122i, s23_122r, s23_122n, s23_125, s23_126, s23_129i, s23_129r, s23_129n, k1, k2, t, hT.2.1, t3, hn, g, qi_z0, h25, h26, h28, nI_add, List.length_cons, List.length_nil, Nat.zero_le, Nat.reduceAdd, Nat.reduceLeDiff, Option.bind_some, qx_kn_v, qx_kn_n, Nat.add_zero, Bool.false_eq_true, ↓reduceIte]
  rw [s23_132]
theorem m199 {d p : Nat} {W W1 : qxM} (h : ∀ d x : Nat, Rs L xs (d + 2) 198 0 [some (.ref (400))] [] (W) x = some (.inl (some (.int (nI p))), W, x)) (h2 : Rs L xs (d + 3) 192 0 [some (.ref 400)] [] W 0 = some (.inl none, W1, 0)) : Rs L xs (d + 4) 199 0 [some (.ref 400), none] [] W 0 = some (.inl (some (.int (nI p))), W1, 0) := by
  have g := fun d => h d 0
  simp only [s199_0, s199_1, s199_4i, s199_4r, s199_4n, s199_5, s199_6, s199_9, s199_10, qx_m400.1, g, h2, List.length_cons, List.length_nil, Nat.zero_le, Nat.reduceAdd, Nat.reduceLeDiff, Option.bind_some, qx_kn_v, qx_kn_n, Nat.add_zero, Bool.false_eq_true, ↓reduceIte]
theorem m199b {d c s : Nat} {W : qxM} (hc : 0 < c ∧ c < 9) (h : ∀ d x : Nat, Rs L xs (d + 2) 198 0 [some (.ref (400))] [] (W) x = some (.inl (some (.int (nI 0))), qft W c s, x)) : Rs L xs (d + 4) 199 0 [some (.ref 400), none] [] W 0 = some (.inl (some (.int (nI 0))), qft W c s, 0) := by
  have g := fun d => h d 0
  have e : (qft W c s).1 400 10 = nI c := by unfold qft; rw [qx_up_at, if_neg (by omega), qx_up_eq]
  simp only [s199_0, s199_1, s199_4i, s199_4r, s199_4n, s199_5, s199_6, s199_9, s199_10, qx_m400.1, g, m192e hc.1 hc.2 e, List.length_cons, List.length_nil, Nat.zero_le, Nat.reduceAdd, Nat.reduceLeDiff, Option.bind_some, qx_kn_v, qx_kn_n, Nat.add_zero, Bool.false_eq_true, ↓reduceIte]
/-- the kinds -/
theorem g200 {d p q' i : Nat} {W W1 : qxM} (hp : p < 14) (hq : W.1 401 2 = nI q') (h : Rs L xs (d + 8) 199 0 [some (.ref 400), none] [] W 0 = some (.inl (some (.int (nI p))), W1, 0)) (h194 : 0 < i → ∀ d, Rs L xs d 194 0 [some (.ref 400), some (.int (nI 3))] [] W 0 = some (.inl (some (.int (bI true))), W, 0)) :
    Rs L xs (d + 9) 200 (if i = 0 then 4 else 19) [some (.ref 400)] [] W 0 = Rs L xs (d + 9) 200 19 [some (.ref 400)] [] (qx_up W1 401 2 (nI (q' ||| 2 ^ p))) 0 := by
  obtain ⟨k1, k2, k3⟩ := qx_m400
  by_cases z : i = 0
  · rw [if_pos z]
    simp only [s200_4, s200_5, s200_8, s200_9, s200_10, s200_11, s200_12, s200_13, s200_16, s200_17, s200_18, k1, k2, k3, hq, h, qb_shl (show p < 32 by omega), qb_or, (qn_c (2) (by omega)).1, (qn_c (2) (by omega)).2, List.length_cons, List.length_nil, Nat.zero_le, Nat.reduceAdd, Nat.reduceLeDiff, Option.bind_some, qx_kn_v, qx_kn_n, Nat.add_zero, Bool.false_eq_true, ↓reduceIte]
  · rw [if_neg z]
    have h' := fun d => h194 (by omega) d
    rw [s200_19]
    simp only [s200_20, s200_21, s200_24, s200_27, s200_28, s200_31, s200_32, s200_33, s200_34, s200_35, s200_36, s200_39, s200_40, s200_41, k1, k2, k3, hq, h, h', qbt, qb_shl (show p < 32 by omega), qb_or, (qn_c (2) (by omega)).1, (qn_c (2) (by omega)).2, List.length_cons, List.length_nil, Nat.zero_le, Nat.reduceAdd, Nat.reduceLeDiff, Option.bind_some, qx_kn_v, qx_kn_n, Nat.add_zero, Bool.false_eq_true, ↓reduceIte]
    rw [s200_42]
end QL
