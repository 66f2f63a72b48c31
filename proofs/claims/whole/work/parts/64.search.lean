/-! Search: a blossom is made. -/
theorem qb_dif_dif (a b c : Nat) : qb_dif (qb_dif a b) c = qb_dif a (b ||| c) := by
  apply Nat.eq_of_testBit_eq
  intro i
  simp only [qb_dif_bit, Nat.testBit_or, Bool.not_or, Bool.and_assoc]
theorem qs_tw (p : Nat) (l2 : List Nat) : ∀ (l1 : List Nat), (∀ a, a ∈ l1 → a ≠ p) → (l1 ++ p :: l2).takeWhile (fun a => a != p) = l1
  | [], _ => by simp
  | a :: l1, h => by
    have h1 : (a != p) = true := by simpa using h a List.mem_cons_self
    rw [List.cons_append, List.takeWhile_cons_of_pos (by exact h1), qs_tw p l2 l1 (fun b hb => h b (List.mem_cons_of_mem _ hb))]
theorem qs_back_eq {p : Nat} {l1 l2 : List Nat} (h : ∀ a, a ∈ l1 → a ≠ p) : qs_back p (l1 ++ p :: l2) = p :: l1.reverse := by
  unfold qs_back
  rw [qs_tw p l2 l1 h]
/-- those of a set come to the end of the queue -/
def qs_en (s : Nat → Bool) (e : Nat) (qa : Nat → Nat) : Nat → (Nat → Nat)
  | 0 => qa
  | i + 1 => if s i then qu (qs_en s e qa i) (e + fb_ct s i) i else qs_en s e qa i
theorem qs_en_old (s : Nat → Bool) (e : Nat) (qa : Nat → Nat) {j : Nat} (hj : j < e) : ∀ i, qs_en s e qa i j = qa j
  | 0 => rfl
  | i + 1 => by
    rw [qs_en]
    split
    · rw [qu_ne _ _ (by omega), qs_en_old s e qa hj i]
    · exact qs_en_old s e qa hj i
theorem qs_en_new (s : Nat → Bool) (e : Nat) (qa : Nat → Nat) {p : Nat} (hs : s p = true) : ∀ i, p < i → qs_en s e qa i (e + fb_ct s p) = p
  | 0, h => by omega
  | i + 1, h => by
    rw [qs_en]
    by_cases hp : p = i
    · rw [← hp, if_pos hs, qu_eq]
    · have := qs_en_new s e qa hs i (by omega)
      split
      · rename_i hsi
        have h1 := fb_ct_mono s (show p + 1 ≤ i by omega)
        rw [fb_ct_succ, if_pos hs] at h1
        rw [qu_ne _ _ (by omega), this]
      · exact this
/-- what a bridge gives -/
def qs_H (ma : Nat → Bool) (wy : Nat → List Nat) (nr fr : Nat → Nat) : Prop :=
  ∀ p, ma p = true → wy p = [] ∧ nr p < 14 ∧ fr p < 14 ∧ ma (nr p) = false ∧ ma (fr p) = false ∧ (∀ a, a ∈ wy (nr p) → a < 14) ∧ ∃ l1 l2, wy (nr p) = l1 ++ p :: l2 ∧ (∀ a, a ∈ l1 → a ≠ p) ∧ p ∉ l2 ∧ l1.length + 1 + (wy (fr p)).length ≤ 14
def qs_wn (ma : Nat → Bool) (wy : Nat → List Nat) (nr fr : Nat → Nat) (i q : Nat) : List Nat := if q < i ∧ ma q = true then qs_back q (wy (nr q)) ++ wy (fr q) else wy q
def qs_bn (me : Nat → Bool) (bs : Nat → Nat) (tp i q : Nat) : Nat := if q < i ∧ me q = true then tp else bs q
theorem qs_wn_succ (ma : Nat → Bool) (wy : Nat → List Nat) (nr fr : Nat → Nat) (i : Nat) : qs_wn ma wy nr fr (i + 1) = if ma i = true then qu (qs_wn ma wy nr fr i) i (qs_back i (wy (nr i)) ++ wy (fr i)) else qs_wn ma wy nr fr i := by
  funext q
  by_cases h : ma i = true
  · rw [if_pos h]
    unfold qu qs_wn
    by_cases e : q = i
    · subst e
      rw [if_pos ⟨by omega, h⟩, if_pos rfl]
    · rw [if_neg e]
      by_cases e2 : q < i ∧ ma q = true
      · rw [if_pos e2, if_pos ⟨by omega, e2.2⟩]
      · rw [if_neg e2, if_neg (fun z => e2 ⟨by omega, z.2⟩)]
  · rw [if_neg h]
    unfold qs_wn
    by_cases e2 : q < i ∧ ma q = true
    · rw [if_pos e2, if_pos ⟨by omega, e2.2⟩]
    · rw [if_neg e2, if_neg]
      intro z
      by_cases e : q = i
      · rw [e] at z
        exact h z.2
      · exact e2 ⟨by omega, z.2⟩
theorem qs_bn_succ (me : Nat → Bool) (bs : Nat → Nat) (tp i : Nat) : qs_bn me bs tp (i + 1) = if me i = true then qu (qs_bn me bs tp i) i tp else qs_bn me bs tp i := by
  funext q
  by_cases h : me i = true
  · rw [if_pos h]
    unfold qu qs_bn
    by_cases e : q = i
    · subst e
      rw [if_pos ⟨by omega, h⟩, if_pos rfl]
    · rw [if_neg e]
      by_cases e2 : q < i ∧ me q = true
      · rw [if_pos e2, if_pos ⟨by omega, e2.2⟩]
      · rw [if_neg e2, if_neg (fun z => e2 ⟨by omega, z.2⟩)]
  · rw [if_neg h]
    unfold qs_bn
    by_cases e2 : q < i ∧ me q = true
    · rw [if_pos e2, if_pos ⟨by omega, e2.2⟩]
    · rw [if_neg e2, if_neg]
      intro z
      by_cases e : q = i
      · rw [e] at z
        exact h z.2
      · exact e2 ⟨by omega, z.2⟩
section QL
variable {L : Nat} {xs : Nat → Int32} {d x : Nat} {t u rt : Nat} {mt bs lk tm : Nat → Nat} {B : Nat → Prop}
theorem g68l {v w tp ma me st sp bm ou inn qb e as : Nat} {qa nr fr : Nat → Nat} {wy : Nat → List Nat} (hZ : qx_Z t) (hma : ma < 16384) (hme : me < 16384) (htp : tp < 14) (hec : e + fb_ct ma.testBit 14 ≤ 14)
    (hH : qs_H ma.testBit wy nr fr) : ∀ (k i : Nat) (M : qxM), i + k = 14 →
    qS t M st rt sp bm (ou ||| qb_of ma.testBit i) (qb_dif inn (qb_of ma.testBit i)) qb (e + fb_ct ma.testBit i) as (qs_en ma.testBit e qa i) (qs_bn me.testBit bs tp i) lk nr fr (qs_wn ma.testBit wy nr fr i) →
    ∃ M', Rs L xs (d + 3) 68 65 [some (.ref t), some (.ref u), some (.int (nI v)), some (.int (nI w)), some (.int (nI tp)), some (.int (nI ma)), some (.int (nI me)), some (.int (nI i))] [] M x = some (.inl none, M', x) ∧
    qS t M' st rt sp bm (ou ||| qb_of ma.testBit 14) (qb_dif inn (qb_of ma.testBit 14)) qb (e + fb_ct ma.testBit 14) as (qs_en ma.testBit e qa 14) (qs_bn me.testBit bs tp 14) lk nr fr (qs_wn ma.testBit wy nr fr 14) ∧ qf (qSf t) M M' := by
  intro k
  induction k with
  | zero =>
    intro i M hi hS
    have h1 : (nI 14 ≤ nI 14) = True := eq_true (Int32.le_refl _)
    rw [show i = 14 by omega] at hS ⊢
    refine ⟨M, ?_, hS, qf_refl _ _⟩
    simp only [s68_0, s68_1r, s68_1i, s68_2, s68_5, s68_6, s68_7, s68_10, s68_11, s68_12, s68_13, s68_14, s68_17i, s68_17r, s68_17n, s68_19, s68_20, s68_21, s68_22, s68_23, s68_25, s68_28, s68_29, s68_30, s68_31, s68_32, s68_34, s68_37, s68_38i, s68_38r, s68_38n, s68_40, s68_41, s68_42, s68_43, s68_45, s68_48, s68_49, s68_50, s68_51, s68_53, s68_56, s68_57, s68_59, s68_60i, s68_60r, s68_60n, s68_62, s68_63i, s68_63r, s68_63n, s68_65, s68_67, s68_69, s68_72, s68_74, s68_76, s68_79, s68_82, s68_83, s68_86, s68_88, s68_90, s68_93, s68_95, s68_97, s68_100, s68_103, s68_104, s68_106, s68_109, s68_110, s68_113, s68_115, s68_116, s68_119, s68_121, s68_124, s68_127, s68_128, s68_131, s68_133, s68_134, s68_137, s68_139, s68_142, s68_145i, s68_145r, s68_145n, s68_151, h1, ↓reduceIte]
  | succ k ih =>
    intro i M hi hS
    have h1 : ¬ nI 14 ≤ nI i := nI_ge (by omega) (by decide)
    have k2 := hZ.2.1 2 (by decide) (by decide)
    have k4 := hZ.2.1 4 (by decide) (by decide)
    have k5 := hZ.2.1 5 (by decide) (by decide)
    have h174 := fun (d : Nat) => m174 (L := L) (xs := xs) (d := d) (x := 0) (M := M) (v := nI tp) k2.1 k2.2 (show i < 14 by omega) (by decide)
    -- the bases
    have hM1 : ∃ M1, Rs L xs (d + 3) 68 65 [some (.ref t), some (.ref u), some (.int (nI v)), some (.int (nI w)), some (.int (nI tp)), some (.int (nI ma)), some (.int (nI me)), some (.int (nI i))] [] M x = Rs L xs (d + 3) 68 93 [some (.ref t), some (.ref u), some (.int (nI v)), some (.int (nI w)), some (.int (nI tp)), some (.int (nI ma)), some (.int (nI me)), some (.int (nI i))] [] M1 x ∧
        qS t M1 st rt sp bm (ou ||| qb_of ma.testBit i) (qb_dif inn (qb_of ma.testBit i)) qb (e + fb_ct ma.testBit i) as (qs_en ma.testBit e qa i) (qs_bn me.testBit bs tp (i + 1)) lk nr fr (qs_wn ma.testBit wy nr fr i) ∧ qf (qSf t) M M1 := by
      rw [qs_bn_succ]
      by_cases q : me.testBit i = true
      · rw [if_pos q]
        obtain ⟨s1, s2, s3, s4, s5, s6, s7⟩ := hS
        have f1 : qf (fun a => a = t + 2) M (qx_up M (t + 2) i (nI tp)) := qf_up _ _ _ _ rfl
        refine ⟨qx_up M (t + 2) i (nI tp), ?_, ⟨?_, ?_, ?_, ?_, ?_, ?_, ?_⟩, qf_mono f1 (fun a ha => by unfold qSf; omega)⟩
        · simp only [s68_65, s68_67, s68_69, s68_72, s68_74, s68_76, s68_79, s68_82, s68_83, s68_86, s68_88, s68_90, h1, hZ.1, h174, m170 (show me < 2 ^ 31 by omega) (show i < 31 by omega), q, bI_0, Bool.true_eq_false, List.length_cons, List.length_nil, Nat.zero_le, Nat.reduceAdd, Nat.reduceLeDiff, Option.bind_some, qx_kn_v, qx_kn_n, Nat.add_zero, ↓reduceIte]
        · unfold qS1 at s1 ⊢
          rw [f1.1 t (by omega)]
          exact s1
        · intro j hj
          rw [f1.1 _ (by omega)]
          exact s2 j hj
        · intro p hp
          rw [qx_up_at]
          by_cases e2 : p = i
          · rw [if_pos ⟨rfl, e2⟩, e2, qu_eq]
          · rw [if_neg (by omega), qu_ne _ _ e2, s3 p hp]
        · intro p hp
          rw [f1.1 _ (by omega)]
          exact s4 p hp
        · intro p hp
          rw [f1.1 _ (by omega)]
          exact s5 p hp
        · intro p hp
          rw [f1.1 _ (by omega)]
          exact s6 p hp
        · exact qW_fr s7 f1 (by omega) (by omega)
      · rw [if_neg q]
        have q2 : me.testBit i = false := by simpa using q
        refine ⟨M, ?_, hS, qf_refl _ _⟩
        simp only [s68_65, s68_67, s68_69, s68_72, s68_74, s68_76, s68_79, s68_82, s68_83, s68_86, s68_88, s68_90, h1, m170 (show me < 2 ^ 31 by omega) (show i < 31 by omega), q2, bI_0, List.length_cons, List.length_nil, Nat.zero_le, Nat.reduceAdd, Nat.reduceLeDiff, Option.bind_some, qx_kn_v, qx_kn_n, Nat.add_zero, ↓reduceIte]
    obtain ⟨M1, g1, hS1, f1⟩ := hM1
    -- the fresh one
    have hM2 : ∃ M2, Rs L xs (d + 3) 68 93 [some (.ref t), some (.ref u), some (.int (nI v)), some (.int (nI w)), some (.int (nI tp)), some (.int (nI ma)), some (.int (nI me)), some (.int (nI i))] [] M1 x = Rs L xs (d + 3) 68 65 [some (.ref t), some (.ref u), some (.int (nI v)), some (.int (nI w)), some (.int (nI tp)), some (.int (nI ma)), some (.int (nI me)), some (.int (nI (i + 1)))] [] M2 x ∧
        qS t M2 st rt sp bm (ou ||| qb_of ma.testBit (i + 1)) (qb_dif inn (qb_of ma.testBit (i + 1))) qb (e + fb_ct ma.testBit (i + 1)) as (qs_en ma.testBit e qa (i + 1)) (qs_bn me.testBit bs tp (i + 1)) lk nr fr (qs_wn ma.testBit wy nr fr (i + 1)) ∧ qf (qSf t) M1 M2 := by
      rw [qs_wn_succ, qs_en, qb_of, fb_ct_succ]
      by_cases q : ma.testBit i = true
      · rw [if_pos q, if_pos q, if_pos q, if_pos q]
        obtain ⟨a1, a2, a3, a4, a5, a6, l1, l2, a7, a8, a9, a10⟩ := hH i q
        obtain ⟨s1, s2, s3, s4, s5, s6, s7⟩ := hS1
        obtain ⟨t0, t1, t2, t3, t4, t5, t6, t7, t8⟩ := s1
        have hcnt := fb_ct_mono ma.testBit (show i + 1 ≤ 14 by omega)
        rw [fb_ct_succ, if_pos q] at hcnt
        obtain ⟨M2, g2, b4, b5, b7, bk, bq, bq2, f2⟩ := g66 (L := L) (xs := xs) (d := d + 1) (x := 0) (M := M1) hZ (show i < 14 by omega) t4 t5 t7 (by omega)
        have w2 := qW_fr s7 f2 (by omega) (by omega)
        have wn : qs_wn ma.testBit wy nr fr i (nr i) = wy (nr i) := if_neg (fun z => by rw [a4] at z; exact absurd z.2 (by decide))
        have wf : qs_wn ma.testBit wy nr fr i (fr i) = wy (fr i) := if_neg (fun z => by rw [a5] at z; exact absurd z.2 (by decide))
        have wi : qs_wn ma.testBit wy nr fr i i = [] := by
          unfold qs_wn
          rw [if_neg (by omega), a1]
        have hin : i ≠ nr i := fun z => by rw [← z, q] at a4; exact absurd a4 (by decide)
        have hif : i ≠ fr i := fun z => by rw [← z, q] at a5; exact absurd a5 (by decide)
        obtain ⟨M3, g3, w3, f3⟩ := g91 (L := L) (xs := xs) (d := d) (x := 0) (M := M2) (l1 := l1) (l2 := l2) hZ.2.2 (show i < 14 by omega) a2 hin (by rw [wn]; exact a6) (by rw [wn]; exact a7) a9 w2 (by rw [wi, List.length_nil]; omega)
        rw [wi, List.nil_append] at w3
        have hl3 : (qu (qs_wn ma.testBit wy nr fr i) i (i :: l1.reverse) i).length + (qu (qs_wn ma.testBit wy nr fr i) i (i :: l1.reverse) (fr i)).length ≤ 14 := by
          rw [qu_eq, qu_ne _ _ (Ne.symm hif), wf, List.length_cons, List.length_reverse]
          omega
        obtain ⟨M4, g4, w4, f4⟩ := g90 (L := L) (xs := xs) (d := d) (x := 0) (M := M3) hZ.2.2 (show i < 14 by omega) a3 hif w3 hl3
        rw [qu_eq, qu_twice, qu_ne _ _ (Ne.symm hif), wf] at w4
        have hnr : M2.1 (t + 4) i = nI (nr i) := by
          rw [f2.1 _ (by omega), s5 i (by omega), qz_lt a2]
        have hfr : M3.1 (t + 5) i = nI (fr i) := by
          rw [f3.1 _ (by unfold qWf; omega), f2.1 _ (by omega), s6 i (by omega), qz_lt a3]
        have h173a := fun (d : Nat) => m173 (L := L) (xs := xs) (d := d) (x := 0) (M := M2) k4.1 k4.2 (show i < 14 by omega) (by decide)
        have h173b := fun (d : Nat) => m173 (L := L) (xs := xs) (d := d) (x := 0) (M := M3) k5.1 k5.2 (show i < 14 by omega) (by decide)
        have fA : qf (qWf (t + 6)) M2 M4 := qf_trans f3 f4
        have cA : ∀ a, a ≤ t + 6 → M4.1 a = M2.1 a := fun a ha => fA.1 a (by unfold qWf; omega)
        refine ⟨M4, ?_, ⟨?_, ?_, ?_, ?_, ?_, ?_, ?_⟩, qf_trans (qf_mono f2 (fun a ha => by unfold qSf; omega)) (qf_mono fA (fun a ha => by unfold qWf at ha; unfold qSf; omega))⟩
        · simp only [s68_93, s68_95, s68_97, s68_100, s68_103, s68_104, s68_106, s68_109, s68_110, s68_113, s68_115, s68_116, s68_119, s68_121, s68_124, s68_127, s68_128, s68_131, s68_133, s68_134, s68_137, s68_139, s68_142, s68_145i, s68_145r, s68_145n, hZ.1, hZ.2.2.1, h173a, h173b, m170 (show ma < 2 ^ 31 by omega) (show i < 31 by omega), q, bI_0, Bool.true_eq_false, g2, hnr, g3, hfr, g4, nI_add, List.length_cons, List.length_nil, Nat.zero_le, Nat.reduceAdd, Nat.reduceLeDiff, Option.bind_some, qx_kn_v, qx_kn_n, Nat.add_zero, ↓reduceIte]
          exact s68_148
        · unfold qS1
          rw [cA t (by omega), b4, b5, b7, bk 0 (by decide) (by decide) (by decide), bk 1 (by decide) (by decide) (by decide), bk 2 (by decide) (by decide) (by decide), bk 3 (by decide) (by decide) (by decide), bk 6 (by decide) (by decide) (by decide), bk 8 (by decide) (by decide) (by decide), qb_dif_dif, Nat.or_assoc]
          exact ⟨t0, t1, t2, t3, rfl, rfl, t6, rfl, t8⟩
        · intro j hj
          rw [cA _ (by omega)]
          by_cases z : j = e + fb_ct ma.testBit i
          · rw [z, bq, qu_eq]
          · rw [bq2 j z, qu_ne _ _ z, s2 j (by omega)]
        · intro p hp
          rw [cA _ (by omega), f2.1 _ (by omega)]
          exact s3 p hp
        · intro p hp
          rw [cA _ (by omega), f2.1 _ (by omega)]
          exact s4 p hp
        · intro p hp
          rw [cA _ (by omega), f2.1 _ (by omega)]
          exact s5 p hp
        · intro p hp
          rw [cA _ (by omega), f2.1 _ (by omega)]
          exact s6 p hp
        · rw [a7, qs_back_eq a8]
          exact w4
      · rw [if_neg q, if_neg q, if_neg q, if_neg q, Nat.or_zero]
        have q2 : ma.testBit i = false := by simpa using q
        refine ⟨M1, ?_, hS1, qf_refl _ _⟩
        simp only [s68_93, s68_95, s68_97, s68_100, s68_103, s68_104, s68_106, s68_109, s68_110, s68_113, s68_115, s68_116, s68_119, s68_121, s68_124, s68_127, s68_128, s68_131, s68_133, s68_134, s68_137, s68_139, s68_142, s68_145i, s68_145r, s68_145n, m170 (show ma < 2 ^ 31 by omega) (show i < 31 by omega), q2, bI_0, nI_add, List.length_cons, List.length_nil, Nat.zero_le, Nat.reduceAdd, Nat.reduceLeDiff, Option.bind_some, qx_kn_v, qx_kn_n, Nat.add_zero, ↓reduceIte]
        exact s68_148
    obtain ⟨M2, g2, hS2, f2⟩ := hM2
    obtain ⟨M3, g3, hS3, f3⟩ := ih (i + 1) M2 (by omega) hS2
    exact ⟨M3, by rw [g1, g2, g3], hS3, qf_trans f1 (qf_trans f2 f3)⟩
end QL
