/-! The Model's search: a blossom is shrunken. -/
theorem qb_of_past {s : Nat → Bool} {n : Nat} (h : ∀ j, n ≤ j → s j = false) : ∀ k, qb_of s (n + k) = qb_of s n
  | 0 => rfl
  | k + 1 => by rw [← Nat.add_assoc, qb_of, if_neg (by rw [h _ (by omega)]; decide), Nat.or_zero, qb_of_past h k]
theorem fb_ct_past {s : Nat → Bool} {n : Nat} (h : ∀ j, n ≤ j → s j = false) : ∀ k, fb_ct s (n + k) = fb_ct s n
  | 0 => rfl
  | k + 1 => by rw [← Nat.add_assoc, fb_ct_succ, if_neg (by rw [h _ (by omega)]; decide), Nat.add_zero, fb_ct_past h k]
theorem qs_en_past {s : Nat → Bool} {n e : Nat} {qa : Nat → Nat} (h : ∀ j, n ≤ j → s j = false) : ∀ k, qs_en s e qa (n + k) = qs_en s e qa n
  | 0 => rfl
  | k + 1 => by rw [← Nat.add_assoc, qs_en, if_neg (by rw [h _ (by omega)]; decide), qs_en_past h k]
section QS
variable {n rt qb e as ou inn : Nat} {mt qa tm bs lk : Nat → Nat} {wy : Nat → List Nat}
theorem qg_brid (h : qg_ok n rt mt ou inn qb e as qa tm bs lk wy) {v w : Nat} (hv : qO ou v) (hw : qO ou w) {tp ma : Nat}
    (htp : tp = qs_top (qs_up mt bs lk) (qs_fo (fun c => 2 ^ c) (qs_row (qs_up mt bs lk) rt 14 (bs w)) 0).testBit 14 (bs v))
    (hma : ma = qs_fo (fun c => 2 ^ mt c) (qs_bel (qs_up mt bs lk) tp 14 (bs v)) 0 ||| qs_fo (fun c => 2 ^ mt c) (qs_bel (qs_up mt bs lk) tp 14 (bs w)) 0) :
    (∀ c, c ∈ qs_bel (qs_up mt bs lk) tp 14 (bs v) → qs_h1 wy v w (mt c)) ∧ (∀ c, c ∈ qs_bel (qs_up mt bs lk) tp 14 (bs w) → qs_h1 wy w v (mt c)) ∧
    (∀ c c', c ∈ qs_bel (qs_up mt bs lk) tp 14 (bs v) → c' ∈ qs_bel (qs_up mt bs lk) tp 14 (bs w) → mt c ≠ mt c') ∧ ma.testBit v = false ∧ ma.testBit w = false ∧ (∀ a, a ∈ wy v → a < 14) ∧ (∀ a, a ∈ wy w → a < 14) ∧
    (∀ b, (qO ou b ∧ bs b = b) → b ≠ rt → mt (mt b) = b) ∧ (∀ p, ma.testBit p = true → p < n) := by
  obtain ⟨m1, m2, m3, m4⟩ := qg_meet h hv hw htp
  obtain ⟨s1, s2, s3, tm', s4⟩ := qg_shrink h hv hw htp hma (me := qs_me bs (qs_bel (qs_up mt bs lk) tp 14 (bs v)) (qs_bel (qs_up mt bs lk) tp 14 (bs w)) tp ma) (nr := fun _ => 14) (fr := fun _ => 14) (fun p hp => qs_me_bit hp)
  have hcl := qg_cl h
  obtain ⟨h1, h2, h3, h4, h5, h6, h7⟩ := h
  have he := qs_e_le h7
  have hup := qs_climb h1 h2 h7
  have h70 := h7
  obtain ⟨a1, a2, a3, a4, a5, a6, a7, a8, a9⟩ := h7
  have bv := a1 v hv
  have bw := a1 w hw
  have bv2 := a1 _ bv.2.2.2.2.1
  have bw2 := a1 _ bw.2.2.2.2.1
  have hinv : ∀ b, (qO ou b ∧ bs b = b) → b ≠ rt → mt (mt b) = b := by
    intro b hb hr
    have r := a5 b hb.1 hr
    have r2 := a1 b hb.1
    exact (h2 b (by omega) (by omega)).2.2.2
  have e1 := qs_bel_mem hup tp 14 (bs v) ⟨bv.2.2.2.2.1, bv.2.2.2.2.2.1⟩ (by omega) m1
  have e2 := qs_bel_mem hup tp 14 (bs w) ⟨bw.2.2.2.2.1, bw.2.2.2.2.2.1⟩ (by omega) m2
  have hne : ∀ c c', c ∈ qs_bel (qs_up mt bs lk) tp 14 (bs v) → c' ∈ qs_bel (qs_up mt bs lk) tp 14 (bs w) → mt c ≠ mt c' := by
    intro c c' hc hc' heq
    have r1 := hinv c (e1 c hc).2.1 (e1 c hc).2.2.1
    have r2 := hinv c' (e2 c' hc').2.1 (e2 c' hc').2.2.1
    rw [heq, r2] at r1
    rw [← r1] at hc
    exact m4 c' hc hc'
  have hbit : ∀ p, ma.testBit p = true ↔ (∃ c, c ∈ qs_bel (qs_up mt bs lk) tp 14 (bs v) ∧ mt c = p) ∨ (∃ c, c ∈ qs_bel (qs_up mt bs lk) tp 14 (bs w) ∧ mt c = p) := by
    intro p
    rw [hma, Nat.testBit_or, Bool.or_eq_true, qs_fo_pw, qs_fo_pw]
  have hF1 : ∀ c, c ∈ qs_bel (qs_up mt bs lk) tp 14 (bs v) → (∃ z, z ∈ qs_bel (qs_up mt bs lk) tp 14 (bs v) ∧ mt z = mt c) ∧ ¬ ∃ z, z ∈ qs_bel (qs_up mt bs lk) tp 14 (bs w) ∧ mt z = mt c :=
    fun c hc => ⟨⟨c, hc, rfl⟩, fun ⟨z, z1, z2⟩ => hne c z hc z1 z2.symm⟩
  have hF2 : ∀ c, c ∈ qs_bel (qs_up mt bs lk) tp 14 (bs w) → ∃ z, z ∈ qs_bel (qs_up mt bs lk) tp 14 (bs w) ∧ mt z = mt c :=
    fun c hc => ⟨c, hc, rfl⟩
  have hI : ∀ p, ma.testBit p = true → qO inn p ∧ p < n := by
    intro p hp
    rcases (hbit p).mp hp with ⟨c, c1, c2⟩ | ⟨c, c1, c2⟩
    · have := e1 c c1
      have r := a5 c this.2.1.1 this.2.2.1
      rw [← c2]
      exact ⟨r.2.1 this.2.1.2, r.1⟩
    · have := e2 c c1
      have r := a5 c this.2.1.1 this.2.2.1
      rw [← c2]
      exact ⟨r.2.1 this.2.1.2, r.1⟩
  have hnO : ∀ p, qO ou p → ma.testBit p = false := fun p hp => by
    cases hb : ma.testBit p with
    | false => rfl
    | true => exact absurd (hI p hb).1 (a1 p hp).2.1
  have hway : ∀ z, qO ou z → ∀ a, a ∈ wy z → a < 14 := by
    intro z hz a ha
    obtain ⟨s, s1, s2, s3, s4, s5⟩ := qs_way h1 h2 h70 hz
    rw [s1] at ha
    rcases List.mem_append.mp ha with q | q
    · rcases s4 a q with r | r
      · have := a1 a r
        omega
      · have := a3 a r
        omega
    · rw [List.mem_singleton] at q
      rw [q]
      have := a1 rt a4.1
      omega
  refine ⟨?_, ?_, hne, hnO v hv, hnO w hw, hway v hv, hway w hw, hinv, fun p hp => (hI p hp).2⟩
  · intro c hc
    have hb := (hbit (mt c)).mpr (Or.inl (hF1 c hc).1)
    obtain ⟨q1, q2, q3, q4, q5, q6, l1, l2, q7, q8, q9, q10⟩ := s2 (mt c) hb
    rw [qs_st_eq, if_neg (hF1 c hc).2, qs_st_eq, if_pos (hF1 c hc).1] at q4 q7
    rw [qs_st_eq, if_neg (hF1 c hc).2, qs_st_eq, if_pos (hF1 c hc).1] at q5 q10
    exact ⟨q1, by have := (hI _ hb).2; omega, fun z => by rw [z, q4] at hb; exact absurd hb (by decide), fun z => by rw [z, q5] at hb; exact absurd hb (by decide), l1, l2, q7, q8, q10⟩
  · intro c hc
    have hb := (hbit (mt c)).mpr (Or.inr (hF2 c hc))
    obtain ⟨q1, q2, q3, q4, q5, q6, l1, l2, q7, q8, q9, q10⟩ := s2 (mt c) hb
    rw [qs_st_eq, if_pos (hF2 c hc)] at q4 q7
    rw [qs_st_eq, if_pos (hF2 c hc)] at q5 q10
    exact ⟨q1, by have := (hI _ hb).2; omega, fun z => by rw [z, q4] at hb; exact absurd hb (by decide), fun z => by rw [z, q5] at hb; exact absurd hb (by decide), l1, l2, q7, q8, q10⟩
end QS
def nS1 (M : qxM) (st rt sp bm as ql : Nat) : Prop := M.1 401 35 = nI st ∧ M.1 401 36 = nI rt ∧ M.1 401 37 = nI sp ∧ M.1 401 38 = nI bm ∧ M.1 401 39 = nI as ∧ M.1 401 40 = nI ql
def nQ (M : qxM) (qb e : Nat) (qa : Nat → Nat) : Prop := ∀ j, qb ≤ j → j < e → M.1 401 (41 + (j - qb)) = nI (qa j)
def nLb (M : qxM) (ou inn : Nat) : Prop := ∀ p, p < 14 → M.1 401 (55 + p) = nI (qs_lb ou inn p)
def nS (M : qxM) (st rt sp bm ou inn qb e as : Nat) (qa bs lk nr fr : Nat → Nat) (wy : Nat → List Nat) : Prop :=
  nS1 M st rt sp bm as (e - qb) ∧ nQ M qb e qa ∧ nLb M ou inn ∧ nB M bs ∧ nLk M lk ∧ nNr M nr ∧ nFr M fr ∧ nW M wy
theorem qs_lb_or (ou inn a i : Nat) {p : Nat} (h : p ≠ i) : qs_lb (ou ||| (a ||| 2 ^ i)) (qb_dif inn (a ||| 2 ^ i)) p = qs_lb (ou ||| a) (qb_dif inn a) p := by
  unfold qs_lb
  have e : (2 ^ i).testBit p = false := by rw [qb_two]; simpa using (fun z => h z.symm)
  simp only [Nat.testBit_or, qb_dif_bit, e, Bool.or_false]
theorem qs_lb_in (ou inn a i : Nat) : qs_lb (ou ||| (a ||| 2 ^ i)) inn i = 1 := by
  unfold qs_lb
  have e : (2 ^ i).testBit i = true := by rw [qb_two]; simp
  simp only [Nat.testBit_or, e, Bool.or_true, ↓reduceIte]
section QL
variable {L : Nat} {xs : Nat → Int32} {d x : Nat} {rt : Nat} {mt bs lk tm : Nat → Nat} {B : Nat → Prop}
theorem g248l {n v w o ma me ba tp st sp bm ou inn qb e as : Nat} {qa nr fr : Nat → Nat} {wy : Nat → List Nat} (hn : n ≤ 14) (hma : ma < 16384) (hba : ba < 16384) (hb14 : ∀ p, p < 14 → bs p < 14) (hqe : qb ≤ e) (hec : e + fb_ct ma.testBit 14 ≤ 14)
    (hc1 : ∀ p, p < n → (ma.testBit p = true ∨ ba.testBit (bs p) = true) → me.testBit p = true) (hc2 : ∀ p, p < n → ¬ (ma.testBit p = true ∨ ba.testBit (bs p) = true) → me.testBit p = true → bs p = tp) : ∀ (k i : Nat) (M : qxM) (a8 : Option Value), i + k = n →
    M.1 401 0 = nI n →
    nS M st rt sp bm (ou ||| qb_of ma.testBit i) (qb_dif inn (qb_of ma.testBit i)) qb (e + fb_ct ma.testBit i) as (qs_en ma.testBit e qa i) (qs_bn me.testBit bs tp i) lk nr fr wy →
    ∃ M' a9, Rs L xs (d + 1) 248 100 [some (.ref 400), some (.int (nI v)), some (.int (nI w)), some (.int (nI o)), some (.int (nI tp)), some (.int (nI ba)), some (.int (nI ma)), some (.int (nI i)), a8] [] M x = Rs L xs (d + 1) 248 182 [some (.ref 400), some (.int (nI v)), some (.int (nI w)), some (.int (nI o)), some (.int (nI tp)), some (.int (nI ba)), some (.int (nI ma)), some (.int (nI n)), a9] [] M' x ∧
      nS M' st rt sp bm (ou ||| qb_of ma.testBit n) (qb_dif inn (qb_of ma.testBit n)) qb (e + fb_ct ma.testBit n) as (qs_en ma.testBit e qa n) (qs_bn me.testBit bs tp n) lk nr fr wy ∧ mf (fun j => 40 ≤ j ∧ j < 83) M M' := by
  obtain ⟨k1, k2, k3⟩ := qx_m400
  intro k
  induction k with
  | zero =>
    intro i M a8 hi h0 hS
    have h1 : (nI n ≤ nI i) = True := by rw [show i = n by omega]; exact eq_true (Int32.le_refl _)
    rw [show i = n by omega] at hS h1 ⊢
    refine ⟨M, a8, ?_, hS, mf_refl _ _⟩
    simp only [s248_100, s248_102, s248_103, s248_106, s248_107, s248_108, k1, k2, k3, h0, h1, (qn_c (0) (by omega)).1, (qn_c (0) (by omega)).2, ↓reduceIte]
  | succ k ih =>
    intro i M a8 hi h0 hS
    have h1 : ¬ nI n ≤ nI i := nI_ge (by omega) (by omega)
    have hA : ∃ M1 a9, Rs L xs (d + 1) 248 100 [some (.ref 400), some (.int (nI v)), some (.int (nI w)), some (.int (nI o)), some (.int (nI tp)), some (.int (nI ba)), some (.int (nI ma)), some (.int (nI i)), a8] [] M x = Rs L xs (d + 1) 248 136 [some (.ref 400), some (.int (nI v)), some (.int (nI w)), some (.int (nI o)), some (.int (nI tp)), some (.int (nI ba)), some (.int (nI ma)), some (.int (nI i)), a9] [] M1 x ∧
        nS M1 st rt sp bm (ou ||| qb_of ma.testBit (i + 1)) (qb_dif inn (qb_of ma.testBit (i + 1))) qb (e + fb_ct ma.testBit (i + 1)) as (qs_en ma.testBit e qa (i + 1)) (qs_bn me.testBit bs tp i) lk nr fr wy ∧ mf (fun j => 40 ≤ j ∧ j < 69) M M1 := by
      rw [qb_of, qs_en, fb_ct_succ]
      by_cases q : ma.testBit i = true
      · rw [if_pos q, if_pos q, if_pos q]
        obtain ⟨⟨t0, t1, t2, t3, t4, t5⟩, s2, s3, s4, s5, s6, s7, s8⟩ := hS
        have hcnt := fb_ct_mono ma.testBit (show i + 1 ≤ 14 by omega)
        rw [fb_ct_succ, if_pos q] at hcnt
        have f1 : mf (fun j => 40 ≤ j ∧ j < 69) M (qx_up (qx_up (qx_up M 401 (55 + i) (nI 1)) 401 (41 + (e + fb_ct ma.testBit i - qb)) (nI i)) 401 40 (nI (e + fb_ct ma.testBit i - qb + 1))) := mf_trans (mf_up _ _ _ (by omega)) (mf_trans (mf_up _ _ _ (by omega)) (mf_up _ _ _ (by omega)))
        have h40 : (qx_up M 401 (55 + i) (nI 1)).1 401 40 = nI (e + fb_ct ma.testBit i - qb) := by rw [qx_up_at, if_neg (by omega), t5]
        refine ⟨_, some (.int (nI 1)), ?_, ⟨⟨?_, ?_, ?_, ?_, ?_, ?_⟩, ?_, ?_, nB_fr s4 f1 (by omega), nLk_fr s5 f1 (by omega), nNr_fr s6 f1 (by omega), nFr_fr s7 f1 (by omega), nW_fr s8 f1 (by omega)⟩, f1⟩
        · simp only [s248_100, s248_102, s248_103, s248_106, s248_107, s248_108, s248_111, s248_113, s248_115, s248_118, s248_121, s248_122, s248_124, s248_125, s248_128i, s248_130, s248_131, s248_133, k1, k2, k3, h0, h1, (qn_c (0) (by omega)).1, (qn_c (0) (by omega)).2, m208 (show ma < 2 ^ 31 by omega) (show i < 31 by omega), q, bI_0, Bool.true_eq_false, g233 (show i < 14 by omega), g234 h40 (show e + fb_ct ma.testBit i - qb < 14 by omega), List.length_cons, List.length_nil, Nat.zero_le, Nat.reduceAdd, Nat.reduceLeDiff, Option.bind_some, qx_kn_v, qx_kn_n, Nat.add_zero, ↓reduceIte]
        · rw [f1.2 _ (by omega), t0]
        · rw [f1.2 _ (by omega), t1]
        · rw [f1.2 _ (by omega), t2]
        · rw [f1.2 _ (by omega), t3]
        · rw [f1.2 _ (by omega), t4]
        · rw [qx_up_at, if_pos ⟨rfl, rfl⟩]
          congr 1
          omega
        · intro j h1 h2
          by_cases z : j = e + fb_ct ma.testBit i
          · rw [z, qu_eq, qx_up_at, if_neg (by omega), qx_up_at, if_pos ⟨rfl, rfl⟩]
          · rw [qu_ne _ _ z, qx_up_at, if_neg (by omega), qx_up_at, if_neg (by omega), qx_up_at, if_neg (by omega)]
            exact s2 j h1 (by omega)
        · intro p hp
          rw [qx_up_at, if_neg (by omega), qx_up_at, if_neg (by omega), qx_up_at]
          by_cases z : p = i
          · rw [if_pos ⟨rfl, by omega⟩, z, qs_lb_in]
          · rw [if_neg (by omega), qs_lb_or _ _ _ _ z]
            exact s3 p hp
      · rw [if_neg q, if_neg q, if_neg q, Nat.or_zero]
        have q2 : ma.testBit i = false := by simpa using q
        refine ⟨M, a8, ?_, hS, mf_refl _ _⟩
        simp only [s248_100, s248_102, s248_103, s248_106, s248_107, s248_108, s248_111, s248_113, s248_115, s248_118, k1, k2, k3, h0, h1, (qn_c (0) (by omega)).1, (qn_c (0) (by omega)).2, m208 (show ma < 2 ^ 31 by omega) (show i < 31 by omega), q2, bI_0, List.length_cons, List.length_nil, Nat.zero_le, Nat.reduceAdd, Nat.reduceLeDiff, Option.bind_some, qx_kn_v, qx_kn_n, Nat.add_zero, ↓reduceIte]
    obtain ⟨M1, a9, g1, hS1, f1⟩ := hA
    have hB : ∃ M2, Rs L xs (d + 1) 248 136 [some (.ref 400), some (.int (nI v)), some (.int (nI w)), some (.int (nI o)), some (.int (nI tp)), some (.int (nI ba)), some (.int (nI ma)), some (.int (nI i)), a9] [] M1 x = Rs L xs (d + 1) 248 100 [some (.ref 400), some (.int (nI v)), some (.int (nI w)), some (.int (nI o)), some (.int (nI tp)), some (.int (nI ba)), some (.int (nI ma)), some (.int (nI (i + 1))), a9] [] M2 x ∧
        nS M2 st rt sp bm (ou ||| qb_of ma.testBit (i + 1)) (qb_dif inn (qb_of ma.testBit (i + 1))) qb (e + fb_ct ma.testBit (i + 1)) as (qs_en ma.testBit e qa (i + 1)) (qs_bn me.testBit bs tp (i + 1)) lk nr fr wy ∧ mf (fun j => 69 ≤ j ∧ j < 83) M1 M2 := by
      obtain ⟨s1, s2, s3, s4, s5, s6, s7, s8⟩ := hS1
      have hbi : M1.1 401 (69 + i) = nI (bs i) := by
        rw [s4 i (by omega)]
        congr 1
        exact if_neg (by omega)
      have hbi14 := hb14 i (by omega)
      by_cases q : ma.testBit i = true ∨ ba.testBit (bs i) = true
      · have f2 : mf (fun j => 69 ≤ j ∧ j < 83) M1 (qx_up M1 401 (69 + i) (nI tp)) := mf_up _ _ _ (by omega)
        refine ⟨_, ?_, ⟨?_, ?_, ?_, ?_, nLk_fr s5 f2 (by omega), nNr_fr s6 f2 (by omega), nFr_fr s7 f2 (by omega), nW_fr s8 f2 (by omega)⟩, f2⟩
        · by_cases q1 : ma.testBit i = true
          · simp only [s248_136, s248_138, s248_140, s248_143, s248_164, s248_165, s248_168, s248_170, s248_172, s248_173, s248_175, s248_176i, k1, k2, k3, nI_add, (qn_c (69 + i) (by omega)).1, (qn_c (69 + i) (by omega)).2, m208 (show ma < 2 ^ 31 by omega) (show i < 31 by omega), q1, bI_0, Bool.true_eq_false, List.length_cons, List.length_nil, Nat.zero_le, Nat.reduceAdd, Nat.reduceLeDiff, Option.bind_some, qx_kn_v, qx_kn_n, Nat.add_zero, ↓reduceIte]
            exact s248_179
          · have q2 : ma.testBit i = false := by simpa using q1
            have q3 : ba.testBit (bs i) = true := by
              rcases q with q | q
              · exact absurd q q1
              · exact q
            simp only [s248_136, s248_138, s248_140, s248_143, s248_146, s248_148, s248_149, s248_152, s248_154, s248_156, s248_157, s248_158, s248_161, s248_164, s248_165, s248_168, s248_170, s248_172, s248_173, s248_175, s248_176i, k1, k2, k3, nI_add, (qn_c (69 + i) (by omega)).1, (qn_c (69 + i) (by omega)).2, m208 (show ma < 2 ^ 31 by omega) (show i < 31 by omega), q2, hbi, m208 (show ba < 2 ^ 31 by omega) (show bs i < 31 by omega), q3, bI_0, Bool.true_eq_false, List.length_cons, List.length_nil, Nat.zero_le, Nat.reduceAdd, Nat.reduceLeDiff, Option.bind_some, qx_kn_v, qx_kn_n, Nat.add_zero, ↓reduceIte]
            exact s248_179
        · unfold nS1 at s1 ⊢
          rw [f2.2 _ (by omega), f2.2 _ (by omega), f2.2 _ (by omega), f2.2 _ (by omega), f2.2 _ (by omega), f2.2 _ (by omega)]
          exact s1
        · intro j h1 h2
          have hcnt := fb_ct_mono ma.testBit (show i + 1 ≤ 14 by omega)
          rw [f2.2 _ (by omega)]
          exact s2 j h1 h2
        · intro p hp
          rw [f2.2 _ (by omega)]
          exact s3 p hp
        · intro p hp
          rw [qs_bn_succ, if_pos (hc1 i (by omega) q), qx_up_at]
          by_cases z : p = i
          · rw [if_pos ⟨rfl, by omega⟩, z, qu_eq]
          · rw [if_neg (by omega), qu_ne _ _ z]
            exact s4 p hp
      · have q1 : ma.testBit i = false := by
          cases z : ma.testBit i with
          | false => rfl
          | true => exact absurd (Or.inl z) q
        have q3 : ba.testBit (bs i) = false := by
          cases z : ba.testBit (bs i) with
          | false => rfl
          | true => exact absurd (Or.inr z) q
        refine ⟨M1, ?_, ⟨s1, s2, s3, ?_, s5, s6, s7, s8⟩, mf_refl _ _⟩
        · simp only [s248_136, s248_138, s248_140, s248_143, s248_146, s248_148, s248_149, s248_152, s248_154, s248_156, s248_157, s248_158, s248_161, s248_176i, k1, k2, k3, nI_add, (qn_c (69 + i) (by omega)).1, (qn_c (69 + i) (by omega)).2, m208 (show ma < 2 ^ 31 by omega) (show i < 31 by omega), q1, hbi, m208 (show ba < 2 ^ 31 by omega) (show bs i < 31 by omega), q3, bI_0, List.length_cons, List.length_nil, Nat.zero_le, Nat.reduceAdd, Nat.reduceLeDiff, Option.bind_some, qx_kn_v, qx_kn_n, Nat.add_zero, ↓reduceIte]
          exact s248_179
        · intro p hp
          rw [qs_bn_succ]
          by_cases z : me.testBit i = true
          · rw [if_pos z]
            by_cases y : p = i
            · rw [y, qu_eq, hbi, hc2 i (by omega) q z]
            · rw [qu_ne _ _ y]
              exact s4 p hp
          · rw [if_neg z]
            exact s4 p hp
    obtain ⟨M2, g2, hS2, f2⟩ := hB
    obtain ⟨M3, b8, g3, hS3, f3⟩ := ih (i + 1) M2 a9 (by omega) (by rw [f2.2 0 (by omega), f1.2 0 (by omega), h0]) hS2
    exact ⟨M3, b8, by rw [g1, g2, g3], hS3, mf_trans (mf_mono f1 (fun j hj => by omega)) (mf_trans (mf_mono f2 (fun j hj => by omega)) f3)⟩
theorem g248t (hC : qs_cl rt mt bs lk tm B) {M : qxM} (hm : nMt M mt) (hb : nB M bs) (hl : nLk M lk) {v w o : Nat} (ho : o < 2 ^ 31) (hor : o.testBit rt = true) : ∀ (k b : Nat), B b → tm b < k →
    Rs L xs (d + 2) 248 25 [some (.ref 400), some (.int (nI v)), some (.int (nI w)), some (.int (nI o)), some (.int (nI b)), none, none, none, none] [] M x = Rs L xs (d + 2) 248 45 [some (.ref 400), some (.int (nI v)), some (.int (nI w)), some (.int (nI o)), some (.int (nI (qs_top (qs_up mt bs lk) o.testBit k b))), none, none, none, none] [] M x := by
  intro k
  induction k with
  | zero => intro b _ h; omega
  | succ k ih =>
    intro b hB hk
    have b14 := (hC.2.2.1 b hB).1
    rw [qs_top]
    by_cases hW : o.testBit b = true
    · rw [if_pos hW]
      simp only [s248_25, s248_26, s248_28, s248_31, qx_m400.1, m208 ho (show b < 31 by omega), hW, bI_0, Bool.true_eq_false, List.length_cons, List.length_nil, Nat.zero_le, Nat.reduceAdd, Nat.reduceLeDiff, Option.bind_some, qx_kn_v, qx_kn_n, Nat.add_zero, ↓reduceIte]
    · rw [if_neg hW]
      have hr : b ≠ rt := fun e => hW (by rw [e]; exact hor)
      obtain ⟨e1, e2, e3, e4⟩ := hC.2.2.2 b hB hr
      have hW2 : o.testBit b = false := by simpa using hW
      simp only [s248_25, s248_26, s248_28, s248_31, s248_34, s248_35, s248_37, s248_40i, qx_m400.1, m208 ho (show b < 31 by omega), hW2, bI_0, g244 hC hm hb hl hB hr, List.length_cons, List.length_nil, Nat.zero_le, Nat.reduceAdd, Nat.reduceLeDiff, Option.bind_some, qx_kn_v, qx_kn_n, Nat.add_zero, ↓reduceIte]
      rw [s248_42, ih (qs_up mt bs lk b) e3 (by omega)]
/-- shrinks -/
theorem g248 {n rt v w st sp bm ou inn qb e as tp ma : Nat} {mt qa tm bs lk nr fr : Nat → Nat} {wy : Nat → List Nat} {M : qxM} (hG : qg_ok n rt mt ou inn qb e as qa tm bs lk wy) (hv : qO ou v) (hw : qO ou w)
    (h : nS M st rt sp bm ou inn qb e as qa bs lk nr fr wy) (hm : nMt M mt) (h0 : M.1 401 0 = nI n)
    (htp : tp = qs_top (qs_up mt bs lk) (qs_fo (fun c => 2 ^ c) (qs_row (qs_up mt bs lk) rt 14 (bs w)) 0).testBit 14 (bs v))
    (hma : ma = qs_fo (fun c => 2 ^ mt c) (qs_bel (qs_up mt bs lk) tp 14 (bs v)) 0 ||| qs_fo (fun c => 2 ^ mt c) (qs_bel (qs_up mt bs lk) tp 14 (bs w)) 0) :
    ∃ M', Rs L xs (d + 3) 248 0 [some (.ref (400)), some (.int (nI v)), some (.int (nI w)), none, none, none, none, none, none] [] (M) x = some (.inl (some (.int (nI 2))), M', x) ∧
      nS M' st rt sp (bm + 1) (ou ||| qb_of ma.testBit 14) (qb_dif inn (qb_of ma.testBit 14)) qb (e + fb_ct ma.testBit 14) as (qs_en ma.testBit e qa 14) (qs_bn (qs_me bs (qs_bel (qs_up mt bs lk) tp 14 (bs v)) (qs_bel (qs_up mt bs lk) tp 14 (bs w)) tp ma).testBit bs tp 14) lk
        (qs_st mt w (qs_bel (qs_up mt bs lk) tp 14 (bs w)) (qs_st mt v (qs_bel (qs_up mt bs lk) tp 14 (bs v)) nr)) (qs_st mt v (qs_bel (qs_up mt bs lk) tp 14 (bs w)) (qs_st mt w (qs_bel (qs_up mt bs lk) tp 14 (bs v)) fr))
        (qs_wn ma.testBit wy (qs_st mt w (qs_bel (qs_up mt bs lk) tp 14 (bs w)) (qs_st mt v (qs_bel (qs_up mt bs lk) tp 14 (bs v)) nr)) (qs_st mt v (qs_bel (qs_up mt bs lk) tp 14 (bs w)) (qs_st mt w (qs_bel (qs_up mt bs lk) tp 14 (bs v)) fr)) 14) ∧
      mf (fun j => j = 5 ∨ 35 ≤ j) M M' ∧ M'.1 401 5 = M.1 401 5 + nI 1 := by
  obtain ⟨k1, k2, k3⟩ := qx_m400
  have hC := qg_cl hG
  have hb2 : ∀ p, p < 14 → bs p < 14 := fun p hp => qg_bs hG hp
  obtain ⟨c1, c2, c3, c4⟩ := qg_meet hG hv hw htp
  obtain ⟨q1, q2, q3, tm', q4⟩ := qg_shrink hG hv hw htp hma (me := qs_me bs (qs_bel (qs_up mt bs lk) tp 14 (bs v)) (qs_bel (qs_up mt bs lk) tp 14 (bs w)) tp ma) (nr := nr) (fr := fr) (fun p hp => qs_me_bit hp)
  obtain ⟨b1, b2, b3, b4, b5, b6, b7, b8, b9⟩ := qg_brid hG hv hw htp hma
  have h14 : 2 ^ n ≤ 2 ^ 14 := Nat.pow_le_pow_right (by decide) hG.1
  have hqe := hG.2.2.2.2.1
  have hG2 := hG
  obtain ⟨h1, h2, h3, h4, h5, h6, h7⟩ := hG
  have he := qs_e_le h7
  obtain ⟨a1, a2, a3, a4, a5, a6, a7, a8, a9⟩ := h7
  have bv := a1 v hv
  have bw := a1 w hw
  have hv14 : v < 14 := by omega
  have hw14 : w < 14 := by omega
  have ht14 : tp < 14 := by omega
  have Bv : qO ou (bs v) ∧ bs (bs v) = bs v := ⟨bv.2.2.2.2.1, bv.2.2.2.2.2.1⟩
  have Bw : qO ou (bs w) ∧ bs (bs w) = bs w := ⟨bw.2.2.2.2.1, bw.2.2.2.2.2.1⟩
  have hup : ∀ b, (qO ou b ∧ bs b = b) → b ≠ rt → (qO ou (qs_up mt bs lk b) ∧ bs (qs_up mt bs lk b) = qs_up mt bs lk b) ∧ tm (qs_up mt bs lk b) < tm b := fun b q r => (hC.2.2.2 b q r).2.2
  have hrow := qs_row_mem hup 14 (bs w) Bw (hC.2.2.1 _ Bw).2
  have hbm1 := qs_bel_mem hup tp 14 (bs v) Bv (hC.2.2.1 _ Bv).2 c1
  have hbm2 := qs_bel_mem hup tp 14 (bs w) Bw (hC.2.2.1 _ Bw).2 c2
  have olt : qs_fo (fun c => 2 ^ c) (qs_row (qs_up mt bs lk) rt 14 (bs w)) 0 < 2 ^ 14 := qs_fo_lt _ _ (by decide) (fun c hc => Nat.pow_lt_pow_right (by decide) (hC.2.2.1 c (hrow.2.2 c hc).1).1)
  have obit : (qs_fo (fun c => 2 ^ c) (qs_row (qs_up mt bs lk) rt 14 (bs w)) 0).testBit rt = true := (qs_fo_pw (fun c => c) _ _).mpr ⟨rt, hrow.1, rfl⟩
  have blt : ∀ u, (∀ c, c ∈ qs_bel (qs_up mt bs lk) tp 14 u → c < 14) → qs_fo (fun c => 2 ^ c) (qs_bel (qs_up mt bs lk) tp 14 u) 0 < 2 ^ 14 := fun u hu => qs_fo_lt _ _ (by decide) (fun c hc => Nat.pow_lt_pow_right (by decide) (hu c hc))
  have bl1 := blt (bs v) (fun c hc => (hC.2.2.1 c (hbm1 c hc).2.1).1)
  have bl2 := blt (bs w) (fun c hc => (hC.2.2.1 c (hbm2 c hc).2.1).1)
  obtain ⟨⟨t0, t1, t2, t3, t4, t5⟩, s2, s3, s4, s5, s6, s7, s8⟩ := h
  have g1 := g245 (L := L) (xs := xs) (d := d) (x := 0) hC hm s4 s5 t1 Bw
  have g2 := g248t (L := L) (xs := xs) (d := d + 1) (x := x) (v := v) (w := w) hC hm s4 s5 (show _ < 2 ^ 31 by omega) obit 14 (bs v) Bv (hC.2.2.1 _ Bv).2
  rw [← htp] at g2
  have g3 := g247 (L := L) (xs := xs) (d := d) (x := 0) hC hm s4 s5 ht14 Bv c1
  have g4 := g247 (L := L) (xs := xs) (d := d) (x := 0) hC hm s4 s5 ht14 Bw c2
  obtain ⟨M1, g5, n1, p1, w1, f1⟩ := g246 (L := L) (xs := xs) (d := d) (x := 0) hC b8 hv14 hw14 ht14 Bv c1 hm s4 s5 s6 s7 s8 b6 b1
  have hex1 : ∀ p, (∃ c, c ∈ qs_bel (qs_up mt bs lk) tp 14 (bs v) ∧ mt c = p) → ma.testBit p = true := by
    intro p hp
    rw [hma, Nat.testBit_or, (qs_fo_pw _ _ _).mpr hp, Bool.true_or]
  have hex2 : ∀ p, (∃ c, c ∈ qs_bel (qs_up mt bs lk) tp 14 (bs w) ∧ mt c = p) → ma.testBit p = true := by
    intro p hp
    rw [hma, Nat.testBit_or, (qs_fo_pw _ _ _).mpr hp, Bool.or_true]
  have ev1 : qs_wb mt (wy v) (wy w) (qs_bel (qs_up mt bs lk) tp 14 (bs v)) wy v = wy v := by
    rw [qs_wb_eq, if_neg]
    intro z
    rw [hex1 v z] at b4
    exact absurd b4 (by decide)
  have ew1 : qs_wb mt (wy v) (wy w) (qs_bel (qs_up mt bs lk) tp 14 (bs v)) wy w = wy w := by
    rw [qs_wb_eq, if_neg]
    intro z
    rw [hex1 w z] at b5
    exact absurd b5 (by decide)
  have hm1 := nMt_fr hm f1 (fun j hj => by omega)
  have s41 := nB_fr s4 f1 (fun j hj => by omega)
  have s51 := nLk_fr s5 f1 (fun j hj => by omega)
  obtain ⟨M2, g6, n2, p2, w2, f2⟩ := g246 (L := L) (xs := xs) (d := d) (x := 0) (M := M1) hC b8 hw14 hv14 ht14 Bw c2 hm1 s41 s51 n1 p1 w1 (by rw [ew1]; exact b7) (by
    intro c hc
    obtain ⟨r1, r2, r3, r4, r5⟩ := b2 c hc
    have hz : qs_wb mt (wy v) (wy w) (qs_bel (qs_up mt bs lk) tp 14 (bs v)) wy (mt c) = wy (mt c) := by
      rw [qs_wb_eq, if_neg]
      rintro ⟨z, z1, z2⟩
      exact b3 z c z1 hc z2
    unfold qs_h1
    rw [hz, ev1, ew1]
    exact ⟨r1, r2, r3, r4, r5⟩)
  rw [ev1, ew1] at w2
  have f12 := mf_trans f1 f2
  have hmt0 : ∀ j, n ≤ j → ma.testBit j = false := by
    intro j hj
    cases z : ma.testBit j with
    | false => rfl
    | true => have := b9 j z; omega
  have hnn : n + (14 - n) = 14 := by omega
  have hwy : ∀ p, p < 14 → qs_wb mt (wy w) (wy v) (qs_bel (qs_up mt bs lk) tp 14 (bs w)) (qs_wb mt (wy v) (wy w) (qs_bel (qs_up mt bs lk) tp 14 (bs v)) wy) p = qs_wn ma.testBit wy (qs_st mt w (qs_bel (qs_up mt bs lk) tp 14 (bs w)) (qs_st mt v (qs_bel (qs_up mt bs lk) tp 14 (bs v)) nr)) (qs_st mt v (qs_bel (qs_up mt bs lk) tp 14 (bs w)) (qs_st mt w (qs_bel (qs_up mt bs lk) tp 14 (bs v)) fr)) 14 p := by
    intro p hp
    unfold qs_wn
    rw [qs_wb_eq, qs_wb_eq, qs_st_eq, qs_st_eq, qs_st_eq, qs_st_eq]
    by_cases z2 : ∃ c, c ∈ qs_bel (qs_up mt bs lk) tp 14 (bs w) ∧ mt c = p
    · rw [if_pos z2, if_pos ⟨hp, hex2 p z2⟩, if_pos z2, if_pos z2]
    · rw [if_neg z2, if_neg z2, if_neg z2]
      by_cases z1 : ∃ c, c ∈ qs_bel (qs_up mt bs lk) tp 14 (bs v) ∧ mt c = p
      · rw [if_pos z1, if_pos ⟨hp, hex1 p z1⟩, if_pos z1, if_pos z1]
      · rw [if_neg z1, if_neg]
        intro z
        have z3 := z.2
        rw [hma, Nat.testBit_or, Bool.or_eq_true, qs_fo_pw, qs_fo_pw] at z3
        rcases z3 with z3 | z3
        · exact z1 z3
        · exact z2 z3
  have w3 : nW M2 (qs_wn ma.testBit wy (qs_st mt w (qs_bel (qs_up mt bs lk) tp 14 (bs w)) (qs_st mt v (qs_bel (qs_up mt bs lk) tp 14 (bs v)) nr)) (qs_st mt v (qs_bel (qs_up mt bs lk) tp 14 (bs w)) (qs_st mt w (qs_bel (qs_up mt bs lk) tp 14 (bs v)) fr)) 14) := by
    intro p hp
    rw [← hwy p hp]
    exact w2 p hp
  have hS2 : nS M2 st rt sp bm (ou ||| qb_of ma.testBit 0) (qb_dif inn (qb_of ma.testBit 0)) qb (e + fb_ct ma.testBit 0) as (qs_en ma.testBit e qa 0) (qs_bn (qs_me bs (qs_bel (qs_up mt bs lk) tp 14 (bs v)) (qs_bel (qs_up mt bs lk) tp 14 (bs w)) tp ma).testBit bs tp 0) lk
        (qs_st mt w (qs_bel (qs_up mt bs lk) tp 14 (bs w)) (qs_st mt v (qs_bel (qs_up mt bs lk) tp 14 (bs v)) nr)) (qs_st mt v (qs_bel (qs_up mt bs lk) tp 14 (bs w)) (qs_st mt w (qs_bel (qs_up mt bs lk) tp 14 (bs v)) fr))
        (qs_wn ma.testBit wy (qs_st mt w (qs_bel (qs_up mt bs lk) tp 14 (bs w)) (qs_st mt v (qs_bel (qs_up mt bs lk) tp 14 (bs v)) nr)) (qs_st mt v (qs_bel (qs_up mt bs lk) tp 14 (bs w)) (qs_st mt w (qs_bel (qs_up mt bs lk) tp 14 (bs v)) fr)) 14) := by
    have e1 : ou ||| qb_of ma.testBit 0 = ou := Nat.or_zero _
    have e2 : qb_dif inn (qb_of ma.testBit 0) = inn := by unfold qb_dif qb_of; simp
    have e3 : ∀ me, qs_bn me bs tp 0 = bs := fun me => funext fun q => if_neg (by omega)
    rw [e1, e2, e3]
    refine ⟨?_, ?_, ?_, nB_fr s41 f2 (by omega), nLk_fr s51 f2 (by omega), n2, p2, w3⟩
    · unfold nS1
      rw [f12.2 _ (by omega), f12.2 _ (by omega), f12.2 _ (by omega), f12.2 _ (by omega), f12.2 _ (by omega), f12.2 _ (by omega)]
      exact ⟨t0, t1, t2, t3, t4, t5⟩
    · intro j h1 h2
      have h2' : j < e := h2
      rw [f12.2 _ (by omega)]
      exact s2 j h1 h2
    · intro p hp
      rw [f12.2 _ (by omega)]
      exact s3 p hp
  have hbab : ∀ p, (qs_fo (fun c => 2 ^ c) (qs_bel (qs_up mt bs lk) tp 14 (bs v)) 0 ||| qs_fo (fun c => 2 ^ c) (qs_bel (qs_up mt bs lk) tp 14 (bs w)) 0).testBit p = true ↔ p ∈ qs_bel (qs_up mt bs lk) tp 14 (bs v) ∨ p ∈ qs_bel (qs_up mt bs lk) tp 14 (bs w) := by
    intro p
    rw [Nat.testBit_or, Bool.or_eq_true, qs_fo_pw (fun c => c), qs_fo_pw (fun c => c)]
    simp
  obtain ⟨M3, y8, g7, hS3, f3⟩ := g248l (L := L) (xs := xs) (d := d + 2) (x := x) (v := v) (w := w) (o := qs_fo (fun c => 2 ^ c) (qs_row (qs_up mt bs lk) rt 14 (bs w)) 0) (ba := qs_fo (fun c => 2 ^ c) (qs_bel (qs_up mt bs lk) tp 14 (bs v)) 0 ||| qs_fo (fun c => 2 ^ c) (qs_bel (qs_up mt bs lk) tp 14 (bs w)) 0) h1 (show ma < 16384 by omega) (Nat.or_lt_two_pow (n := 14) bl1 bl2) hb2 hqe q3
    (by
      intro p hp hz
      rw [hbab] at hz
      exact (qs_me_bit (by omega)).mpr (by rcases hz with z | z; exact Or.inl z; exact Or.inr (Or.inr z)))
    (by
      intro p hp hz hme
      rw [hbab] at hz
      rcases (qs_me_bit (by omega)).mp hme with z | z | z
      · exact absurd (Or.inl z) hz
      · exact z
      · exact absurd (Or.inr z) hz) n 0 M2 none (by omega) (by rw [f12.2 0 (by omega), h0]) hS2
  have hn14 : ∀ p, p < 14 → qs_bn (qs_me bs (qs_bel (qs_up mt bs lk) tp 14 (bs v)) (qs_bel (qs_up mt bs lk) tp 14 (bs w)) tp ma).testBit bs tp n p = qs_bn (qs_me bs (qs_bel (qs_up mt bs lk) tp 14 (bs v)) (qs_bel (qs_up mt bs lk) tp 14 (bs w)) tp ma).testBit bs tp 14 p := by
    intro p hp
    unfold qs_bn
    by_cases z : p < n
    · by_cases y : (qs_me bs (qs_bel (qs_up mt bs lk) tp 14 (bs v)) (qs_bel (qs_up mt bs lk) tp 14 (bs w)) tp ma).testBit p = true
      · rw [if_pos ⟨z, y⟩, if_pos ⟨hp, y⟩]
      · rw [if_neg (fun u => y u.2), if_neg (fun u => y u.2)]
    · rw [if_neg (fun u => z u.1), if_neg]
      intro u
      have hpO : ¬ qO ou p := fun q => z (a1 p q).1
      have hbp := (a6 p hpO).1
      rcases (qs_me_bit hp).mp u.2 with r | r | r | r
      · rw [hmt0 p (by omega)] at r
        exact absurd r (by decide)
      · rw [hbp] at r
        omega
      · rw [hbp] at r
        exact hpO (hbm1 p r).2.1.1
      · rw [hbp] at r
        exact hpO (hbm2 p r).2.1.1
  obtain ⟨⟨y0, y1, y2, y3, y4, y5⟩, z2, z3, z4, z5, z6, z7, z8⟩ := hS3
  have e1 := qb_of_past hmt0 (14 - n)
  have e2 := fb_ct_past hmt0 (14 - n)
  have e3 := qs_en_past (e := e) (qa := qa) hmt0 (14 - n)
  rw [hnn] at e1 e2 e3
  rw [← e1] at z3
  rw [← e2] at y5 z2
  rw [← e3] at z2
  have f4 : mf (fun j => j = 5 ∨ j = 38) M3 (qx_up (qx_up M3 401 38 (nI (bm + 1))) 401 5 (M3.1 401 5 + nI 1)) := mf_trans (mf_up _ _ _ (Or.inr rfl)) (mf_up _ _ _ (Or.inl rfl))
  have h5' : (qx_up M3 401 38 (nI (bm + 1))).1 401 5 = M3.1 401 5 := by rw [qx_up_at, if_neg (by omega)]
  have f123 := mf_trans (mf_mono f12 (fun j (hj : 97 ≤ j) => (show 40 ≤ j by omega))) (mf_mono f3 (fun j hj => (show 40 ≤ j by omega)))
  refine ⟨_, ?_, ⟨⟨?_, ?_, ?_, ?_, ?_, ?_⟩, ?_, ?_, ?_, nLk_fr z5 f4 (by omega), nNr_fr z6 f4 (by omega), nFr_fr z7 f4 (by omega), nW_fr z8 f4 (by omega)⟩, ?_, ?_⟩
  · have hcb : ∀ p, p < 14 → M.1 401 (69 + p) = nI (bs p) := s4
    simp only [s248_0, s248_1, s248_2, s248_5, s248_7, s248_8, s248_9, s248_10, s248_13i, s248_13r, s248_13n, s248_14, s248_15, s248_18, s248_20, s248_21, s248_22, s248_23i, s248_23r, s248_23n, k1, k2, k3, nI_add, hcb v hv14, hcb w hw14, g1, (qn_c (69 + v) (by omega)).1, (qn_c (69 + v) (by omega)).2, (qn_c (69 + w) (by omega)).1, (qn_c (69 + w) (by omega)).2, List.length_cons, List.length_nil, Nat.zero_le, Nat.reduceAdd, Nat.reduceLeDiff, Option.bind_some, qx_kn_v, qx_kn_n, Nat.add_zero, ↓reduceIte]
    rw [g2]
    simp only [s248_45, s248_46, s248_47, s248_50, s248_52, s248_53, s248_54, s248_55, s248_57, s248_60, s248_61, s248_62, s248_65, s248_67, s248_68, s248_69, s248_70, s248_72, s248_75, s248_76i, s248_76r, s248_76n, s248_78, s248_79, s248_80, s248_81, s248_83, s248_86, s248_87, s248_88, s248_89, s248_91, s248_94, s248_95i, s248_95r, s248_95n, s248_97, s248_98i, s248_98r, s248_98n, k1, k2, k3, nI_add, hcb v hv14, hcb w hw14, g3, g4, g5, g6, qb_or, ← hma, (qn_c (69 + v) (by omega)).1, (qn_c (69 + v) (by omega)).2, (qn_c (69 + w) (by omega)).1, (qn_c (69 + w) (by omega)).2, List.length_cons, List.length_nil, Nat.zero_le, Nat.reduceAdd, Nat.reduceLeDiff, Option.bind_some, qx_kn_v, qx_kn_n, Nat.add_zero, ↓reduceIte]
    rw [g7]
    simp only [s248_182, s248_183, s248_186, s248_188, s248_189, s248_190, s248_191, s248_192, s248_193, s248_194, s248_197, s248_198, s248_199, s248_200, s248_201, s248_202, s248_203, s248_204, k1, k2, k3, nI_add, y3, h5', (qn_c (38) (by omega)).1, (qn_c (38) (by omega)).2, (qn_c (5) (by omega)).1, (qn_c (5) (by omega)).2, List.length_cons, List.length_nil, Nat.zero_le, Nat.reduceAdd, Nat.reduceLeDiff, Option.bind_some, qx_kn_v, qx_kn_n, Nat.add_zero, ↓reduceIte]
  · rw [f4.2 _ (by omega), y0]
  · rw [f4.2 _ (by omega), y1]
  · rw [f4.2 _ (by omega), y2]
  · rw [qx_up_at, if_neg (by omega), qx_up_at, if_pos ⟨rfl, rfl⟩]
  · rw [f4.2 _ (by omega), y4]
  · rw [f4.2 _ (by omega), y5]
  · intro j h1 h2
    rw [f4.2 _ (by omega)]
    exact z2 j h1 h2
  · intro p hp
    rw [f4.2 _ (by omega)]
    exact z3 p hp
  · intro p hp
    rw [f4.2 _ (by omega), ← hn14 p hp]
    exact z4 p hp
  · exact mf_trans (mf_mono f123 (fun j hj => by omega)) (mf_mono f4 (fun j hj => by omega))
  · rw [qx_up_at, if_pos ⟨rfl, rfl⟩, f123.2 5 (by omega)]
end QL
