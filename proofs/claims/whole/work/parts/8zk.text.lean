/-! The lines of a text, to its end. -/
def s51 (L : Nat) (xs : Nat → Int32) (M : qxM) : Prop := ∀ M0 : qxM, M0.1 22 = M.1 22 → M0.1 23 = M.1 23 → M0.1 24 = M.1 24 → ∀ d, ∃ v M1, Rs L xs (d + 3) 51 0 [some (.ref 22), none, none, none] [] M0 0 = some (.inl (some (.int v)), M1, 0) ∧ qf (fun a => a = 24) M0 M1
def tot (M W : qxM) (rc rw : Option qxO) : Prop :=
  (∃ c s1 M1 W1, (0 < c ∧ c < 9) ∧ s1 ≤ 500 ∧ rc = some (.inl (some (.int (nI 0))), M1, 0) ∧ rw = some (.inl none, W1, 0) ∧ M1.1 20 3 = nI c ∧ M1.1 20 4 = nI s1 ∧ W1.1 400 10 = nI c ∧ W1.1 400 11 = nI s1 ∧ M1.1 20 2 = nI 0 ∧ qf (fun a => a = 20 ∨ 22 ≤ a ∧ a ≤ 24) M M1 ∧ wF W W1) ∨
  (∃ n r q M1 W1, ∃ f mt : Nat → Nat, rc = some (.inl (some (.int (nI 1))), M1, 0) ∧ rw = some (.inl none, W1, 0) ∧ M1.1 20 3 = nI 0 ∧ M1.1 20 4 = -1 ∧ W1.1 400 10 = nI 0 ∧ M1.1 20 2 = nI 0 ∧ qPu 22 M1 n r q f mt ∧ nPu W1 n r q f mt ∧ qp_ok n r q f mt ∧ 1 ≤ n ∧ qf (fun a => a = 20 ∨ 22 ≤ a ∧ a ≤ 24) M M1 ∧ wF W W1)
theorem tot_tr {M W M0 W0 : qxM} {rc rw : Option qxO} (h1 : qf (fun a => a = 20 ∨ 22 ≤ a ∧ a ≤ 24) M0 M) (h2 : wF W0 W) (h : tot M W rc rw) : tot M0 W0 rc rw := by
  rcases h with ⟨c, s1, M1, W1, a1, a2, a3, a4, a5, a6, a7, a8, a9, a10, a11⟩ | ⟨n, r, q, M1, W1, f, mt, a1, a2, a3, a4, a5, a6, a7, a8, a9, a10, a11, a12⟩
  · exact Or.inl ⟨c, s1, M1, W1, a1, a2, a3, a4, a5, a6, a7, a8, a9, qf_trans h1 a10, wF_trans h2 a11⟩
  · exact Or.inr ⟨n, r, q, M1, W1, f, mt, a1, a2, a3, a4, a5, a6, a7, a8, a9, a10, qf_trans h1 a11, wF_trans h2 a12⟩
section QL
variable {L : Nat} {xs : Nat → Int32} {B : Nat → Int32} {N : Nat}
theorem s51_ok {n r q : Nat} {f mt : Nat → Nat} {M : qxM} (hp : qp_ok n r q f mt) (hu : qPu 22 M n r q f mt) : s51 L xs M := by
  intro M0 e1 e2 e3 d
  have hu0 : qPu 22 M0 n r q f mt := by
    obtain ⟨u0, u1, u2, u3, u4⟩ := hu
    exact ⟨by rw [e1, u0], by rw [e1, u1], by rw [e1, u2], fun p hp => by rw [e2, u3 p hp], fun p hp => by rw [e3, u4 p hp]⟩
  obtain ⟨M1, g1, _, f1⟩ := g51 (L := L) (xs := xs) (d := d) (x := 0) (u := 22) qx_P22 hp hu0
  exact ⟨_, M1, g1, f1⟩
theorem s51_free {n : Nat} {M : qxM} (hn : n ≤ 14) (h0 : M.1 22 0 = nI n) (hm : ∀ p, p < 14 → M.1 24 p = -1) : s51 L xs M := by
  intro M0 e1 e2 e3 d
  rw [← e1] at h0
  rw [← e3] at hm
  refine ⟨nI 0, M0, ?_, qf_refl _ _⟩
  have hl : ∀ (k i : Nat) (a3 : Option Value), i + k = n → Rs L xs (d + 3) 51 4 [some (.ref 22), some (.int (nI 0)), some (.int (nI i)), a3] [] M0 0 = some (.inl (some (.int (nI 0))), M0, 0) := by
    intro k
    induction k with
    | zero =>
      intro i a3 hi
      have t : (nI n ≤ nI i) = True := eq_true (nI_le (by omega) (by omega))
      simp only [s51_4, s51_5, s51_6, s51_9, s51_49, s51_50, qx_P22.1, h0, t, List.length_cons, List.length_nil, Nat.zero_le, Nat.reduceAdd, Nat.reduceLeDiff, Option.bind_some, qx_kn_v, qx_kn_n, Nat.add_zero, Bool.false_eq_true, ↓reduceIte]
    | succ k ih =>
      intro i a3 hi
      have t : ¬ nI n ≤ nI i := nI_ge (by omega) (by omega)
      have g46 := fun d => m46 (L := L) (xs := xs) (d := d) (x := 0) (M := M0) (t := 22) qx_P22 (show i < 14 by omega)
      have hmi := hm i (by omega)
      simp only [s51_4, s51_5, s51_6, s51_9, s51_12, s51_13, s51_14, s51_17i, s51_17r, s51_17n, s51_18, s51_19, s51_20, s51_23, s51_24, s51_25, s51_28, s51_29, s51_32, s51_35, s51_36, s51_37, s51_40i, s51_40r, s51_40n, s51_43i, s51_43r, s51_43n, qx_P22.1, h0, t, g46, hmi, eq_self, nI_add, List.length_cons, List.length_nil, Nat.zero_le, Nat.reduceAdd, Nat.reduceLeDiff, Option.bind_some, qx_kn_v, qx_kn_n, Nat.add_zero, Bool.false_eq_true, ↓reduceIte]
      rw [s51_46]
      exact ih (i + 1) _ (by omega)
  simp only [s51_0, s51_1i, s51_1r, s51_1n, s51_2, s51_3i, s51_3r, s51_3n]
  exact hl n 0 none (by omega)
/-- the class's end of a text -/
theorem c21f {d c s : Nat} {l1 l2 : Option Value} {M : qxM} (hc : 0 < c ∧ c < 9) (h3 : M.1 20 3 = nI c) (h8 : M.1 20 8 = nI s) (hs : s51 L xs M) : ∃ M1, Rs L xs (d + 10) 21 63 [some (.ref 20), l1, l2] [] M 0 = some (.inl (some (.int (nI 0))), M1, 0) ∧ M1.1 20 3 = nI c ∧ M1.1 20 4 = nI s ∧ M1.1 20 2 = nI 0 ∧ qf (fun a => a = 20 ∨ 22 ≤ a ∧ a ≤ 24) M M1 := by
  have k0 := qx_m20.1
  have tc := zi0 hc.1 (show c < 2 ^ 31 by omega)
  have F : qf (fun a => a = 20) M (qx_up M 20 4 (nI s)) := qf_up _ _ _ _ rfl
  obtain ⟨v, Mb, g1, f1⟩ := hs (qx_up M 20 4 (nI s)) (F.1 22 (by decide)) (F.1 23 (by decide)) (F.1 24 (by decide)) (d + 6)
  have b3 : Mb.1 20 3 = nI c := by rw [f1.1 20 (by decide), qx_up_at, if_neg (by omega), h3]
  have b4 : Mb.1 20 4 = nI s := by rw [f1.1 20 (by decide), qx_up_eq]
  have e3 : ∀ v, (qx_up Mb 20 2 v).1 20 3 = nI c := fun v => by rw [qx_up_at, if_neg (by omega), b3]
  refine ⟨qx_up Mb 20 2 (nI 0), ?_, e3 _, ?_, qx_up_eq _ _ _ _, ?_⟩
  · simp only [s21_63, s21_64, s21_67, s21_83, s21_84, s21_85, s21_88, s21_91, s21_92, s21_95, s21_96, s21_99, s21_102, s21_103, s21_106, s21_109, s21_110, s21_111, s21_112, s21_115, s21_116, s21_119, s21_122, s21_123, s21_126, s21_127, k0, qx_P22.1, h3, h8, tc, g1, e3, qx_z0, List.length_cons, List.length_nil, Nat.zero_le, Nat.reduceAdd, Nat.reduceLeDiff, Option.bind_some, qx_kn_v, qx_kn_n, Nat.add_zero, Bool.false_eq_true, ↓reduceIte]
  · rw [qx_up_at, if_neg (by omega), b4]
  · exact qf_trans (qf_mono F (fun a e => Or.inl e)) (qf_trans (qf_mono f1 (fun a e => by omega)) (qf_up _ _ _ _ (Or.inl rfl)))
theorem c21e {d s : Nat} {l1 l2 : Option Value} {M : qxM} (h3 : M.1 20 3 = nI 0) (hT : cTk M B N s) (hk : tkK B N s ≠ 4) (hs : s51 L xs M) : ∃ M1, Rs L xs (d + 10) 21 63 [some (.ref 20), l1, l2] [] M 0 = some (.inl (some (.int (nI 0))), M1, 0) ∧ M1.1 20 3 = nI 1 ∧ M1.1 20 4 = nI s ∧ M1.1 20 2 = nI 0 ∧ qf (fun a => a = 20 ∨ 22 ≤ a ∧ a ≤ 24) M M1 := by
  have k0 := qx_m20.1
  have hK := tkK_le B N s
  have t4 : (nI (tkK B N s) = nI 4) = False := by rw [qi_eq (by omega) (by decide)]; exact eq_false hk
  have F : qf (fun a => a = 20) M (qx_up M 20 3 (nI 1)) := qf_up _ _ _ _ rfl
  have e3 : (qx_up M 20 3 (nI 1)).1 20 3 = nI 1 := qx_up_eq _ _ _ _
  have e8 : (qx_up M 20 3 (nI 1)).1 20 8 = nI s := by rw [qx_up_at, if_neg (by omega), hT.2.2.1]
  have F2 : qf (fun a => a = 20) (qx_up M 20 3 (nI 1)) (qx_up (qx_up M 20 3 (nI 1)) 20 4 (nI s)) := qf_up _ _ _ _ rfl
  have G := qf_trans F F2
  obtain ⟨v, Mb, g1, f1⟩ := hs (qx_up (qx_up M 20 3 (nI 1)) 20 4 (nI s)) (G.1 22 (by decide)) (G.1 23 (by decide)) (G.1 24 (by decide)) (d + 6)
  have b3 : Mb.1 20 3 = nI 1 := by rw [f1.1 20 (by decide), qx_up_at, if_neg (by omega), e3]
  have b4 : Mb.1 20 4 = nI s := by rw [f1.1 20 (by decide), qx_up_eq]
  have e3' : ∀ v, (qx_up Mb 20 2 v).1 20 3 = nI 1 := fun v => by rw [qx_up_at, if_neg (by omega), b3]
  refine ⟨qx_up Mb 20 2 (nI 0), ?_, e3' _, ?_, qx_up_eq _ _ _ _, ?_⟩
  · simp only [s21_63, s21_64, s21_67, s21_70, s21_71, s21_74, s21_75, s21_78, s21_79, s21_80, s21_83, s21_84, s21_85, s21_88, s21_91, s21_92, s21_95, s21_96, s21_99, s21_102, s21_103, s21_106, s21_109, s21_110, s21_111, s21_112, s21_115, s21_116, s21_119, s21_122, s21_123, s21_126, s21_127, k0, qx_P22.1, h3, hT.2.1, t4, qi_z0, e3, e8, z10, g1, e3', true_or, List.length_cons, List.length_nil, Nat.zero_le, Nat.reduceAdd, Nat.reduceLeDiff, Option.bind_some, qx_kn_v, qx_kn_n, Nat.add_zero, Bool.false_eq_true, ↓reduceIte]
  · rw [qx_up_at, if_neg (by omega), b4]
  · exact qf_trans (qf_mono G (fun a e => Or.inl e)) (qf_trans (qf_mono f1 (fun a e => by omega)) (qf_up _ _ _ _ (Or.inl rfl)))
theorem c21g {d n r q s : Nat} {f mt : Nat → Nat} {l1 l2 : Option Value} {M : qxM} (h3 : M.1 20 3 = nI 0) (hT : cTk M B N s) (hk : tkK B N s = 4) (hp : qp_ok n r q f mt) (hu : qPu 22 M n r q f mt) : ∃ M1, Rs L xs (d + 10) 21 63 [some (.ref 20), l1, l2] [] M 0 = some (.inl (some (.int (nI 1))), M1, 0) ∧ M1.1 20 3 = nI 0 ∧ M1.1 20 4 = -1 ∧ M1.1 20 2 = nI 0 ∧ qPu 22 M1 n r q f (qm_pf (fun p => qp_al r q (f p) p) n 0 mt 0).1 ∧ qf (fun a => a = 20 ∨ 22 ≤ a ∧ a ≤ 24) M M1 := by
  have k0 := qx_m20.1
  have t4 : (nI (tkK B N s) = nI 4) = True := eq_true (by rw [hk])
  have F : qf (fun a => a = 20) M (qx_up M 20 4 (-1)) := qf_up _ _ _ _ rfl
  have hu1 := qPu_20 hu F
  obtain ⟨Mb, g1, m1, f1⟩ := g51 (L := L) (xs := xs) (d := d + 6) (x := 0) (u := 22) qx_P22 hp hu1
  have b3 : Mb.1 20 3 = nI 0 := by rw [f1.1 20 (by decide), qx_up_at, if_neg (by omega), h3]
  have b4 : Mb.1 20 4 = -1 := by rw [f1.1 20 (by decide), qx_up_eq]
  have e3 : ∀ v, (qx_up Mb 20 2 v).1 20 3 = nI 0 := fun v => by rw [qx_up_at, if_neg (by omega), b3]
  have F3 : qf (fun a => a = 20) Mb (qx_up Mb 20 2 (nI 0)) := qf_up _ _ _ _ rfl
  refine ⟨qx_up Mb 20 2 (nI 0), ?_, e3 _, ?_, qx_up_eq _ _ _ _, ?_, ?_⟩
  · simp only [s21_63, s21_64, s21_67, s21_70, s21_71, s21_74, s21_75, s21_83, s21_84, s21_85, s21_88, s21_91, s21_92, s21_95, s21_96, s21_99, s21_102, s21_103, s21_106, s21_109, s21_110, s21_111, s21_112, s21_115, s21_116, s21_119, s21_122, s21_123, s21_126, s21_127, k0, qx_P22.1, h3, hT.2.1, t4, qi_z0, g1, e3, qx_z1, List.length_cons, List.length_nil, Nat.zero_le, Nat.reduceAdd, Nat.reduceLeDiff, Option.bind_some, qx_kn_v, qx_kn_n, Nat.add_zero, Bool.false_eq_true, ↓reduceIte]
  · rw [qx_up_at, if_neg (by omega), b4]
  · exact qPu_20 (qPu_step (t := 0) hu1 f1 m1 (by decide) (by decide)) F3
  · exact qf_trans (qf_mono F (fun a e => Or.inl e)) (qf_trans (qf_mono f1 (fun a e => by omega)) (qf_mono F3 (fun a e => Or.inl e)))
/-- the Model's end of a text -/
theorem g206e {d c s n r q : Nat} {f mt : Nat → Nat} {iv : Int32} {W : qxM} (h : wE W c s n r q f mt) : ∃ W1, Rs L xs (d + 11) 206 71 [some (.ref 400), some (.int iv)] [] W 0 = some (.inl none, W1, 0) ∧ W1.1 400 10 = nI c ∧ W1.1 400 11 = nI s ∧ wF W W1 := by
  obtain ⟨W1, g1, m1, f1⟩ := g221 (L := L) (xs := xs) (d := d + 7) (x := 0) h.2.2.2.2 h.2.2.2.1
  have g194 := fun d j => m194e (L := L) (xs := xs) (d := d) (x := 0) (j := j) h.1.1 h.1.2 h.2.1
  have g193 := fun d => m193e (L := L) (xs := xs) (d := d) (x := 0) (j := 1) h.1.1 h.1.2 h.2.1
  refine ⟨W1, ?_, by rw [f1.1.1 400 (by decide), h.2.1], by rw [f1.1.1 400 (by decide), h.2.2.1], wF_mf f1 (by intro j hj; omega)⟩
  simp only [s206_71, s206_72, s206_73, s206_76, s206_90, s206_91, s206_92, s206_95, s206_98, s206_99, s206_100, s206_103, s206_104, s206_107i, s206_107r, s206_107n, s206_108, qx_m400.1, g194, qbf, g193, g1, List.length_cons, List.length_nil, Nat.zero_le, Nat.reduceAdd, Nat.reduceLeDiff, Option.bind_some, qx_kn_v, qx_kn_n, Nat.add_zero, Bool.false_eq_true, ↓reduceIte]
end QL
