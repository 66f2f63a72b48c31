/-! Both parsers, step by step: what holds between them; the next token; a pupil is read and taken. -/
theorem qx_P22 : qx_P 22 := by
  unfold qx_P
  decide +kernel
def lk (M W : qxM) (B : Nat → Int32) (N s n r q : Nat) (f mt : Nat → Nat) : Prop := cTk M B N s ∧ nTk W B N s ∧ W.1 400 10 = nI 0 ∧ qPu 22 M n r q f mt ∧ nPu W n r q f mt ∧ qp_ok n r q f mt ∧ s ≤ N ∧ 1 ≤ n
def cF (M M1 : qxM) : Prop := (∀ j, j < 5 → M1.1 20 j = M.1 20 j) ∧ qf (fun a => a = 20 ∨ 22 ≤ a ∧ a ≤ 24) M M1
def wF (W W1 : qxM) : Prop := (∀ j, ¬ (10 ≤ j ∧ j ≤ 16 ∧ j ≠ 12) → W1.1 400 j = W.1 400 j) ∧ (∀ k, ¬ (k < 3 ∨ 7 ≤ k ∧ k < 35) → W1.1 401 k = W.1 401 k) ∧ qf (fun a => a = 400 ∨ a = 401) W W1 ∧ (W1.1 400 10 = nI 0 → W.1 400 10 = nI 0 ∧ W1.1 400 11 = W.1 400 11)
theorem cF_refl (M : qxM) : cF M M := ⟨fun _ _ => rfl, qf_refl _ _⟩
theorem cF_trans {M M1 M2 : qxM} (h : cF M M1) (g : cF M1 M2) : cF M M2 := ⟨fun j hj => by rw [g.1 j hj, h.1 j hj], qf_trans h.2 g.2⟩
theorem wF_refl (M : qxM) : wF M M := ⟨fun _ _ => rfl, fun _ _ => rfl, qf_refl _ _, fun h => ⟨h, rfl⟩⟩
theorem wF_trans {M M1 M2 : qxM} (h : wF M M1) (g : wF M1 M2) : wF M M2 := ⟨fun j hj => by rw [g.1 j hj, h.1 j hj], fun j hj => by rw [g.2.1 j hj, h.2.1 j hj], qf_trans h.2.2.1 g.2.2.1, fun e => ⟨(h.2.2.2 (g.2.2.2 e).1).1, by rw [(g.2.2.2 e).2, (h.2.2.2 (g.2.2.2 e).1).2]⟩⟩
theorem cF_q20 {M M1 : qxM} (h : q20 qtF M M1) : cF M M1 := ⟨fun j hj => h.1 j (by unfold qtF; omega), qf_mono h.2 (fun _ e => Or.inl e)⟩
theorem wF_q4 {M M1 : qxM} (h : q4 qnF M M1) : wF M M1 := ⟨fun j hj => h.1 j (by unfold qnF; omega), fun k _ => by rw [h.2.1 401 (by decide)], qf_mono h.2 (fun _ e => Or.inl e), fun e => ⟨by rw [← h.1 10 (by unfold qnF; omega)]; exact e, h.1 11 (by unfold qnF; omega)⟩⟩
theorem wF_mf {R : Nat → Prop} {M M1 : qxM} (h : mf R M M1) (hR : ∀ j, R j → j < 3 ∨ 7 ≤ j ∧ j < 35) : wF M M1 := ⟨fun j _ => by rw [h.1.1 400 (by decide)], fun k hk => h.2 k (fun w => hk (hR k w)), qf_mono h.1 (fun _ e => Or.inr e), fun e => ⟨by rw [← h.1.1 400 (by decide)]; exact e, by rw [h.1.1 400 (by decide)]⟩⟩
def wE (W : qxM) (c s n r q : Nat) (f mt : Nat → Nat) : Prop := (0 < c ∧ c < 9) ∧ W.1 400 10 = nI c ∧ W.1 400 11 = nI s ∧ nPu W n r q f mt ∧ qp_ok n r q f mt
theorem wE_ft {W : qxM} {c s n r q : Nat} {f mt : Nat → Nat} (hc : 0 < c ∧ c < 9) (hu : nPu W n r q f mt) (hp : qp_ok n r q f mt) : wE (qft W c s) c s n r q f mt ∧ wF W (qft W c s) := by
  have e : ∀ k, (qft W c s).1 401 k = W.1 401 k := fun k => by unfold qft; rw [qx_up_ne _ _ _ (by decide), qx_up_ne _ _ _ (by decide)]
  refine ⟨⟨hc, by unfold qft; rw [qx_up_at, if_neg (by omega), qx_up_eq], by unfold qft; rw [qx_up_eq], nPu_cp hu (fun k _ => e k), hp⟩, fun j hj => ?_, fun k _ => e k, ?_, fun w => ?_⟩
  · unfold qft
    rw [qx_up_at, if_neg (by omega), qx_up_at, if_neg (by omega)]
  · exact qf_trans (qf_up _ _ _ _ (Or.inl rfl)) (qf_up _ _ _ _ (Or.inl rfl))
  · exfalso
    unfold qft at w
    rw [qx_up_at, if_neg (by omega), qx_up_eq, qi_eq (by omega) (by decide)] at w
    omega
theorem tkE_gt {B : Nat → Int32} {N s : Nat} (h : tkK B N s ≠ 4) : s < tkE B N s := by
  have hs : ¬ N ≤ s := fun w => h (if_pos w)
  obtain ⟨k, hk⟩ : ∃ k, N - s = k + 1 := ⟨N - s - 1, by omega⟩
  unfold tkE
  rw [if_neg hs, hk]
  have a1 := (rnk_le isLt B k (s + 1)).1
  have a2 := (rnk_le isDg B k (s + 1)).1
  by_cases z : isLt (B s) = true
  · rw [if_pos z]
    unfold rnk
    rw [if_pos z]
    omega
  · rw [if_neg z]
    by_cases y : isDg (B s) = true
    · rw [if_pos y]
      unfold rnk
      rw [if_pos y]
      omega
    · rw [if_neg y]
      omega
section QL
variable {L : Nat} {xs : Nat → Int32} {B : Nat → Int32} {N : Nat}
theorem nxt {d e s n r q : Nat} {f mt : Nat → Nat} {M W : qxM} (hN : N ≤ 500) (h : lk M W B N s n r q f mt) : ∃ M1 W1 s1, Rs L xs (d + 3) 28 0 [some (.ref 20)] [] M 0 = some (.inl none, M1, 0) ∧ Rs L xs (e + 3) 192 0 [some (.ref 400)] [] W 0 = some (.inl none, W1, 0) ∧ lk M1 W1 B N s1 n r q f mt ∧ cF M M1 ∧ wF W W1 ∧ (∀ j, 10 ≤ j → M1.1 20 j = M.1 20 j) ∧ s ≤ s1 ∧ (tkK B N s ≠ 4 → s < s1) := by
  obtain ⟨h1, h2, h3, h4, h5, h6, h7, h8⟩ := h
  have hE := tkE_le (B := B) h7
  have hS := tkS_le (B := B) hE.2
  obtain ⟨M1, g1, c1, f1⟩ := m28 (L := L) (xs := xs) (d := d) (x := 0) hN hE.2 h1.1
  obtain ⟨W1, g2, c2, f2⟩ := m192 (L := L) (xs := xs) (d := e) (x := 0) hN hE.2 h3 h2.1
  refine ⟨M1, W1, _, g1, g2, ⟨c1, c2, by rw [f2.1 10 (by unfold qnF; omega), h3], ?_, ?_, h6, hS.2, h8⟩, cF_q20 f1, wF_q4 f2, fun j hj => f1.1 j (by unfold qtF; omega), by omega, fun w => ?_⟩
  · exact qPu_step (t := 0) h4 f1.2 (qMt_fr h4.2.2.2.2 f1.2 (by decide)) (by decide) (by decide)
  · exact nPu_cp h5 (fun k _ => by rw [f2.2.1 401 (by decide)])
  · have := tkE_gt w
    omega
/-- the pupil that a token names -/
theorem pup {s n r q : Nat} {f mt : Nat → Nat} {M W : qxM} (h : lk M W B N s n r q f mt) :
    (∃ c, 0 < c ∧ c < 3 ∧ (tkK B N s ≠ 2 → c = 1) ∧ (∀ d x : Nat, Rs L xs (d) 27 0 [some (.ref (20)), some (.int (nI 0)), some (.int (nI n - nI 1))] [] (M) x = some (.inl (some (.int (nI c))), M, x)) ∧ ∀ d x : Nat, Rs L xs (d + 2) 198 0 [some (.ref (400))] [] (W) x = some (.inl (some (.int (nI 0))), qft W c s, x)) ∨
    (∃ p, p < n ∧ tkK B N s = 2 ∧ M.1 20 9 = nI p ∧ (∀ d x : Nat, Rs L xs (d) 27 0 [some (.ref (20)), some (.int (nI 0)), some (.int (nI n - nI 1))] [] (M) x = some (.inl (some (.int (nI 0))), M, x)) ∧ ∀ d x : Nat, Rs L xs (d + 2) 198 0 [some (.ref (400))] [] (W) x = some (.inl (some (.int (nI p))), W, x)) := by
  obtain ⟨k1, k2, k3⟩ := qx_m400
  obtain ⟨h1, h2, h3, h4, h5, h6, h7, h8⟩ := h
  have hn14 := h6.1
  have hn := h5.1
  rcases num (L := L) (xs := xs) (lo := nI 0) (hi := nI n - nI 1) h1 h2 h3 with ⟨c, c0, c3, ce, g1, g2⟩ | ⟨z, z1, z2, z3, z4, g1, g2⟩
  · refine Or.inl ⟨c, c0, c3, ce, g1, fun d x => ?_⟩
    have g := fun d => g2 d 0
    simp only [s198_0, s198_1, s198_2, s198_3, s198_6, s198_7, s198_8, s198_9, s198_10, s198_13, k1, k2, k3, hn, g, (qn_c (0) (by omega)).1, (qn_c (0) (by omega)).2, List.length_cons, List.length_nil, Nat.zero_le, Nat.reduceAdd, Nat.reduceLeDiff, Option.bind_some, qx_kn_v, qx_kn_n, Nat.add_zero, Bool.false_eq_true, ↓reduceIte]
  · obtain ⟨p, p1, p2⟩ := qOut_not (n := n) (by omega) ((qOut_iff (show n < 1000 by omega) z).mp ⟨z1, z2⟩)
    subst p2
    refine Or.inr ⟨p, p1, z3, z4, g1, fun d x => ?_⟩
    have g := fun d => g2 d 0
    simp only [s198_0, s198_1, s198_2, s198_3, s198_6, s198_7, s198_8, s198_9, s198_10, s198_13, k1, k2, k3, hn, g, (qn_c (0) (by omega)).1, (qn_c (0) (by omega)).2, List.length_cons, List.length_nil, Nat.zero_le, Nat.reduceAdd, Nat.reduceLeDiff, Option.bind_some, qx_kn_v, qx_kn_n, Nat.add_zero, Bool.false_eq_true, ↓reduceIte]
theorem m198e {d x c s n r q : Nat} {f mt : Nat → Nat} {W : qxM} (h : wE W c s n r q f mt) : Rs L xs (d + 2) 198 0 [some (.ref (400))] [] (W) x = some (.inl (some (.int (nI 0))), W, x) := by
  obtain ⟨k1, k2, k3⟩ := qx_m400
  obtain ⟨⟨h1, h2⟩, h3, h4, h5, h6⟩ := h
  simp only [s198_0, s198_1, s198_2, s198_3, s198_6, s198_7, s198_8, s198_9, s198_10, s198_13, k1, k2, k3, m196e h1 h2 h3, (qn_c (0) (by omega)).1, (qn_c (0) (by omega)).2, List.length_cons, List.length_nil, Nat.zero_le, Nat.reduceAdd, Nat.reduceLeDiff, Option.bind_some, qx_kn_v, qx_kn_n, Nat.add_zero, Bool.false_eq_true, ↓reduceIte]
theorem m199e {d x c s n r q : Nat} {f mt : Nat → Nat} {W : qxM} (h : wE W c s n r q f mt) : Rs L xs (d + 3) 199 0 [some (.ref (400)), none] [] (W) x = some (.inl (some (.int (nI 0))), W, x) := by
  obtain ⟨k1, k2, k3⟩ := qx_m400
  obtain ⟨⟨h1, h2⟩, h3, h4, h5, h6⟩ := id h
  have g := fun d => m198e (L := L) (xs := xs) (d := d) (x := 0) h
  simp only [s199_0, s199_1, s199_4i, s199_4r, s199_4n, s199_5, s199_6, s199_9, s199_10, k1, g, m192e h1 h2 h3, List.length_cons, List.length_nil, Nat.zero_le, Nat.reduceAdd, Nat.reduceLeDiff, Option.bind_some, qx_kn_v, qx_kn_n, Nat.add_zero, Bool.false_eq_true, ↓reduceIte]
theorem qPu_be22 {d x n r q : Nat} {f mt : Nat → Nat} {M : qxM} (hu : qPu 22 M n r q f mt) {a b : Nat} (ha : a < 14) (hb : b < 14) (hab : a ≠ b) (on : Bool) :
    ∃ M', Rs L xs (d + 1) 40 0 [some (.ref (22)), some (.int (nI a)), some (.int (nI b)), some (.int (bI on))] [] (M) x = some (.inl (none), M', x) ∧ qPu 22 M' n r q (qp_be f a b on) mt ∧ qf (fun k => k = 23) M M' := by
  have hP : qx_P 22 := qx_P22
  obtain ⟨u0, u1, u2, u3, u4⟩ := hu
  have h := m40 (L := L) (xs := xs) (d := d) (x := x) (M := M) hP ha hb hab (u3 a ha) (u3 b hb) on
  have f1 : qf (fun k => k = 23) M (qx_up (qx_up M 23 a (nI (qb_fl on (f a) b))) 23 b (nI (qb_fl on (f b) a))) := qf_trans (qf_up _ _ _ _ rfl) (qf_up _ _ _ _ rfl)
  refine ⟨qx_up (qx_up M 23 a (nI (qb_fl on (f a) b))) 23 b (nI (qb_fl on (f b) a)), h, ⟨?_, ?_, ?_, ?_, qMt_fr u4 f1 (by decide)⟩, f1⟩
  · rw [f1.1 22 (by decide), u0]
  · rw [f1.1 22 (by decide), u1]
  · rw [f1.1 22 (by decide), u2]
  · intro p hp
    unfold qp_be
    show (qx_up _ 23 b _).1 23 p = _
    rw [qx_up_at]
    by_cases y : p = b
    · rw [if_pos ⟨rfl, y⟩, y, qu_eq]
    · rw [if_neg (by omega), qu_ne _ _ y, qx_up_at]
      by_cases y2 : p = a
      · rw [if_pos ⟨rfl, y2⟩, y2, qu_eq]
      · rw [if_neg (by omega), qu_ne _ _ y2]
        exact u3 p hp

theorem m26t {d x p i : Nat} {so : Int32} {M : qxM} (hp : p < 31) (h9 : M.1 20 9 = nI p) : ∃ M1, Rs L xs (d + 1) 26 99 [some (.ref (20)), some (.int (so)), some (.int (nI i))] [] (M) x = some (.inl (none), M1, x) ∧ (∀ j, j < 10 → M1.1 20 j = M.1 20 j) ∧ M1.1 20 10 = (if nI i = 0 then nI p else M.1 20 10) ∧ M1.1 20 11 = nI p ∧ (∀ S : Nat, M.1 20 12 = nI S → M1.1 20 12 = nI (S ||| 2 ^ p)) ∧ qf (fun a => a = 20) M M1 := by
  have k1 := qx_m20.1
  have e1 : ∀ (M : qxM) k v, k ≠ 9 → (qx_up M 20 k v).1 20 9 = M.1 20 9 := fun M k v hk => by rw [qx_up_at, if_neg (by omega)]
  have e2 : ∀ (M : qxM) k v, k ≠ 12 → (qx_up M 20 k v).1 20 12 = M.1 20 12 := fun M k v hk => by rw [qx_up_at, if_neg (by omega)]
  have n1 : 10 ≠ 9 := by decide
  have n2 : 11 ≠ 9 := by decide
  have n3 : 10 ≠ 12 := by decide
  have n4 : 11 ≠ 12 := by decide
  have h169 := fun d (M : qxM) => m169 (L := L) (xs := xs) (d := d) (x := 0) (M := M) hp
  by_cases z : nI i = 0
  · have hz : (nI i = 0) = True := eq_true z
    refine ⟨qx_up (qx_up (qx_up M 20 10 (nI p)) 20 11 (nI p)) 20 12 (M.1 20 12 ||| nI (2 ^ p)), ?_, fun j hj => ?_, ?_, ?_, fun S hS => ?_, qf_trans (qf_trans (qf_up _ _ _ _ rfl) (qf_up _ _ _ _ rfl)) (qf_up _ _ _ _ rfl)⟩
    · simp only [s26_99, s26_100, s26_103, s26_104, s26_105, s26_108, s26_111, s26_112, s26_113, s26_116, s26_119, s26_120r, s26_120i, s26_121, s26_124, s26_125, s26_128, s26_131, s26_132, s26_135, k1, hz, h9, e1 _ _ _ n1, e1 _ _ _ n2, e2 _ _ _ n3, e2 _ _ _ n4, h169, List.length_cons, List.length_nil, Nat.zero_le, Nat.reduceAdd, Nat.reduceLeDiff, Option.bind_some, qx_kn_v, qx_kn_n, Nat.add_zero, Bool.false_eq_true, ↓reduceIte]
    · rw [qx_up_at, if_neg (by omega), qx_up_at, if_neg (by omega), qx_up_at, if_neg (by omega)]
    · rw [if_pos z, qx_up_at, if_neg (by omega), qx_up_at, if_neg (by omega), qx_up_eq]
    · rw [qx_up_at, if_neg (by omega), qx_up_eq]
    · rw [qx_up_eq, hS, qb_or]
  · refine ⟨qx_up (qx_up M 20 11 (nI p)) 20 12 (M.1 20 12 ||| nI (2 ^ p)), ?_, fun j hj => ?_, ?_, ?_, fun S hS => ?_, qf_trans (qf_up _ _ _ _ rfl) (qf_up _ _ _ _ rfl)⟩
    · simp only [s26_99, s26_100, s26_103, s26_104, s26_105, s26_108, s26_111, s26_112, s26_113, s26_116, s26_119, s26_120r, s26_120i, s26_121, s26_124, s26_125, s26_128, s26_131, s26_132, s26_135, k1, z, h9, e1 _ _ _ n1, e1 _ _ _ n2, e2 _ _ _ n3, e2 _ _ _ n4, h169, List.length_cons, List.length_nil, Nat.zero_le, Nat.reduceAdd, Nat.reduceLeDiff, Option.bind_some, qx_kn_v, qx_kn_n, Nat.add_zero, Bool.false_eq_true, ↓reduceIte]
    · rw [qx_up_at, if_neg (by omega), qx_up_at, if_neg (by omega)]
    · rw [if_neg z, qx_up_at, if_neg (by omega), qx_up_at, if_neg (by omega)]
    · rw [qx_up_at, if_neg (by omega), qx_up_eq]
    · rw [qx_up_eq, hS, qb_or]
end QL
