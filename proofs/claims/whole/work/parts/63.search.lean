/-! Search: bridges; who is asked; a search begins. -/
def qs_st (mt : Nat → Nat) (z : Nat) : List Nat → (Nat → Nat) → (Nat → Nat)
  | [], f => f
  | c :: l, f => qs_st mt z l (qu f (mt c) z)
def qNr (t : Nat) (M : qxM) (nr : Nat → Nat) : Prop := ∀ p, p < 14 → M.1 (t + 4) p = qz (nr p)
def qFr (t : Nat) (M : qxM) (fr : Nat → Nat) : Prop := ∀ p, p < 14 → M.1 (t + 5) p = qz (fr p)
def qs_nx (s : Nat) : Nat → Nat → Nat
  | 0, _ => 14
  | k + 1, i => if s.testBit i then i else qs_nx s k (i + 1)
def qS1 (t : Nat) (M : qxM) (st rt sp bm ou inn qb e as : Nat) : Prop := M.1 t 0 = nI st ∧ M.1 t 1 = nI rt ∧ M.1 t 2 = nI sp ∧ M.1 t 3 = nI bm ∧ M.1 t 4 = nI ou ∧ M.1 t 5 = nI inn ∧ M.1 t 6 = nI qb ∧ M.1 t 7 = nI e ∧ M.1 t 8 = nI as
def qQ (t : Nat) (M : qxM) (e : Nat) (qa : Nat → Nat) : Prop := ∀ i, i < e → M.1 (t + 1) i = nI (qa i)
def qS (t : Nat) (M : qxM) (st rt sp bm ou inn qb e as : Nat) (qa bs lk nr fr : Nat → Nat) (wy : Nat → List Nat) : Prop :=
  qS1 t M st rt sp bm ou inn qb e as ∧ qQ t M e qa ∧ qB t M bs ∧ qLk t M lk ∧ qNr t M nr ∧ qFr t M fr ∧ qW (t + 6) M wy
def qSf (t a : Nat) : Prop := t ≤ a ∧ a ≤ t + 8
section QL
variable {L : Nat} {xs : Nat → Int32} {d x : Nat} {t u rt : Nat} {mt bs lk tm : Nat → Nat} {B : Nat → Prop}
theorem g71l (hZ : qx_Z t) (hP : qx_P u) (hut : u + 2 < t) (hC : qs_cl rt mt bs lk tm B) {v w tp : Nat} (hv : v < 14) (hw : w < 14) (htp : tp < 14) : ∀ (k b i a : Nat) (M : qxM) (nr fr : Nat → Nat) (a8 : Option Value), B b → tm b < k → i + k ≤ 14 → tp ∈ qs_row (qs_up mt bs lk) rt k b →
    qMt u M mt → qB t M bs → qLk t M lk → qNr t M nr → qFr t M fr →
    ∃ M', Rs L xs (d + 2) 71 13 [some (.ref t), some (.ref u), some (.int (nI v)), some (.int (nI w)), some (.int (nI tp)), some (.int (nI a)), some (.int (nI b)), some (.int (nI i)), a8] [] M x = some (.inl (some (.int (nI (qs_fo (fun c => 2 ^ mt c) (qs_bel (qs_up mt bs lk) tp k b) a)))), M', x) ∧
      qNr t M' (qs_st mt v (qs_bel (qs_up mt bs lk) tp k b) nr) ∧ qFr t M' (qs_st mt w (qs_bel (qs_up mt bs lk) tp k b) fr) ∧ qf (fun a => a = t + 4 ∨ a = t + 5) M M' := by
  intro k
  induction k with
  | zero => intro b i a M nr fr a8 _ h; omega
  | succ k ih =>
    intro b i a M nr fr a8 hB hk hi ht hm hb hl hn hf
    have h1 : ¬ nI 14 ≤ nI i := nI_ge (by omega) (by decide)
    have b14 := (hC.2.2.1 b hB).1
    have h2 := qi_n1 (show b < 2 ^ 31 by omega)
    have h3 : (nI b = nI tp) = (b = tp) := qi_eq (by omega) (by omega)
    rw [qs_bel]
    by_cases h0 : b = tp
    · rw [if_pos h0, qs_fo, qs_st, qs_st]
      rw [h0] at h2
      refine ⟨M, ?_, hn, hf, qf_refl _ _⟩
      simp only [s71_0, s71_1i, s71_1r, s71_1n, s71_3, s71_4, s71_5, s71_8i, s71_8r, s71_8n, s71_10, s71_11i, s71_11r, s71_11n, s71_15, s71_17, s71_20, s71_22, s71_23, s71_26, s71_28, s71_30, s71_33, s71_34, s71_36, s71_39i, s71_39r, s71_39n, s71_41, s71_43, s71_45, s71_48, s71_49i, s71_49r, s71_49n, s71_51, s71_52, s71_55, s71_57, s71_58, s71_61, s71_62, s71_65, s71_67, s71_68, s71_71, s71_72, s71_73, s71_75, s71_78i, s71_78r, s71_78n, s71_80i, s71_80r, s71_80n, s71_86, s71_88, s71_13, h1, h2, h0, eq_self, List.length_cons, List.length_nil, Nat.zero_le, Nat.reduceAdd, Nat.reduceLeDiff, Option.bind_some, qx_kn_v, qx_kn_n, Nat.add_zero, ↓reduceIte]
    · rw [if_neg h0, qs_fo, qs_st, qs_st]
      rw [qs_row] at ht
      have hr : b ≠ rt := by
        intro e
        rw [if_pos e, List.mem_singleton] at ht
        exact h0 ht.symm
      rw [if_neg hr] at ht
      have ht2 : tp ∈ qs_row (qs_up mt bs lk) rt k (qs_up mt bs lk b) := by
        rcases List.mem_cons.mp ht with e | e
        · exact absurd e.symm h0
        · exact e
      obtain ⟨e1, e2, e3, e4⟩ := hC.2.2.2 b hB hr
      have hmb := hm b b14
      rw [qz_lt e1] at hmb
      have k4 := hZ.2.1 4 (by decide) (by decide)
      have k5 := hZ.2.1 5 (by decide) (by decide)
      have f1 : qf (fun a => a = t + 4 ∨ a = t + 5) M (qx_up (qx_up M (t + 4) (mt b) (nI v)) (t + 5) (mt b) (nI w)) := qf_trans (qf_up _ _ _ _ (Or.inl rfl)) (qf_up _ _ _ _ (Or.inr rfl))
      have hm1 := qMt_fr hm f1 (by omega)
      have hb1 : qB t (qx_up (qx_up M (t + 4) (mt b) (nI v)) (t + 5) (mt b) (nI w)) bs := fun p hp => by rw [f1.1 _ (by omega)]; exact hb p hp
      have hl1 : qLk t (qx_up (qx_up M (t + 4) (mt b) (nI v)) (t + 5) (mt b) (nI w)) lk := fun p hp => by rw [f1.1 _ (by omega)]; exact hl p hp
      have hn1 : qNr t (qx_up (qx_up M (t + 4) (mt b) (nI v)) (t + 5) (mt b) (nI w)) (qu nr (mt b) v) := by
        intro p hp
        rw [qx_up_at, if_neg (by omega), qx_up_at]
        by_cases e : p = mt b
        · rw [if_pos ⟨rfl, e⟩, e, qu_eq, qz_lt hv]
        · rw [if_neg (by omega), qu_ne _ _ e, hn p hp]
      have hf1 : qFr t (qx_up (qx_up M (t + 4) (mt b) (nI v)) (t + 5) (mt b) (nI w)) (qu fr (mt b) w) := by
        intro p hp
        rw [qx_up_at]
        by_cases e : p = mt b
        · rw [if_pos ⟨rfl, e⟩, e, qu_eq, qz_lt hw]
        · rw [if_neg (by omega), qx_up_at, if_neg (by omega), qu_ne _ _ e, hf p hp]
      obtain ⟨M2, g2, n2, q2, f2⟩ := ih (qs_up mt bs lk b) (i + 1) (a ||| 2 ^ mt b) _ _ _ (some (.int (nI (mt b)))) e3 (by omega) (by omega) ht2 hm1 hb1 hl1 hn1 hf1
      refine ⟨M2, ?_, n2, q2, qf_trans f1 f2⟩
      simp only [s71_0, s71_1i, s71_1r, s71_1n, s71_3, s71_4, s71_5, s71_8i, s71_8r, s71_8n, s71_10, s71_11i, s71_11r, s71_11n, s71_15, s71_17, s71_20, s71_22, s71_23, s71_26, s71_28, s71_30, s71_33, s71_34, s71_36, s71_39i, s71_39r, s71_39n, s71_41, s71_43, s71_45, s71_48, s71_49i, s71_49r, s71_49n, s71_51, s71_52, s71_55, s71_57, s71_58, s71_61, s71_62, s71_65, s71_67, s71_68, s71_71, s71_72, s71_73, s71_75, s71_78i, s71_78r, s71_78n, s71_80i, s71_80r, s71_80n, s71_86, s71_88, s71_13, h1, h2, h3, h0, hP.1, hZ.1, m46 hP b14, hmb, m169 (show mt b < 31 by omega), qb_or, m174 k4.1 k4.2 e1 (by decide), m174 k5.1 k5.2 e1 (by decide), g69 hZ hP hC hm1 hb1 hl1 hB hr, nI_add, List.length_cons, List.length_nil, Nat.zero_le, Nat.reduceAdd, Nat.reduceLeDiff, Option.bind_some, qx_kn_v, qx_kn_n, Nat.add_zero, ↓reduceIte]
      rw [s71_83, g2]
theorem g71 (hZ : qx_Z t) (hP : qx_P u) (hut : u + 2 < t) (hC : qs_cl rt mt bs lk tm B) {v w tp : Nat} (hv : v < 14) (hw : w < 14) (htp : tp < 14) {M : qxM} {nr fr : Nat → Nat} (hBv : B (bs v)) (ht : tp ∈ qs_row (qs_up mt bs lk) rt 14 (bs v))
    (hm : qMt u M mt) (hb : qB t M bs) (hl : qLk t M lk) (hn : qNr t M nr) (hf : qFr t M fr) :
    ∃ M', Rs L xs (d + 2) 71 0 [some (.ref (t)), some (.ref (u)), some (.int (nI v)), some (.int (nI w)), some (.int (nI tp)), none, none, none, none] [] (M) x = some (.inl (some (.int (nI (qs_fo (fun c => 2 ^ mt c) (qs_bel (qs_up mt bs lk) tp 14 (bs v)) 0)))), M', x) ∧
      qNr t M' (qs_st mt v (qs_bel (qs_up mt bs lk) tp 14 (bs v)) nr) ∧ qFr t M' (qs_st mt w (qs_bel (qs_up mt bs lk) tp 14 (bs v)) fr) ∧ qf (fun a => a = t + 4 ∨ a = t + 5) M M' := by
  obtain ⟨M2, g2, n2, q2, f2⟩ := g71l (L := L) (xs := xs) (d := d) (x := x) hZ hP hut hC hv hw htp 14 (bs v) 0 0 M nr fr none hBv (hC.2.2.1 _ hBv).2 (by omega) ht hm hb hl hn hf
  have hcb : ∀ p, p < 14 → M.1 (t + 2) p = nI (bs p) := hb
  refine ⟨M2, ?_, n2, q2, f2⟩
  simp only [s71_0, s71_1i, s71_1r, s71_1n, s71_3, s71_4, s71_5, s71_8i, s71_8r, s71_8n, s71_10, s71_11i, s71_11r, s71_11n, s71_15, s71_17, s71_20, s71_22, s71_23, s71_26, s71_28, s71_30, s71_33, s71_34, s71_36, s71_39i, s71_39r, s71_39n, s71_41, s71_43, s71_45, s71_48, s71_49i, s71_49r, s71_49n, s71_51, s71_52, s71_55, s71_57, s71_58, s71_61, s71_62, s71_65, s71_67, s71_68, s71_71, s71_72, s71_73, s71_75, s71_78i, s71_78r, s71_78n, s71_80i, s71_80r, s71_80n, s71_86, s71_88, hZ.1, m58 hZ hv, hcb v hv, List.length_cons, List.length_nil, Nat.zero_le, Nat.reduceAdd, Nat.reduceLeDiff, Option.bind_some, qx_kn_v, qx_kn_n, Nat.add_zero, ↓reduceIte]
  exact g2
theorem g63l {M : qxM} {al : Nat} (hal : al < 2 ^ 31) : ∀ (k i : Nat), i + k = 14 →
    Rs L xs (d + 3) 63 15 [some (.ref (t)), some (.ref (u)), some (.int (nI al)), some (.int (nI i))] [] (M) x = some (.inl (some (.int (qz (qs_nx al k i)))), M, x) := by
  intro k
  induction k with
  | zero =>
    intro i hi
    rw [show i = 14 by omega]
    have h1 : (nI 14 ≤ nI 14) = True := eq_true (Int32.le_refl _)
    simp only [s63_0, s63_1, s63_2, s63_3, s63_6, s63_9i, s63_9r, s63_9n, s63_10, s63_11, s63_14i, s63_14r, s63_14n, s63_15, s63_16, s63_18, s63_21, s63_22, s63_23, s63_26, s63_29, s63_30, s63_31i, s63_31r, s63_31n, s63_37, s63_38, h1, ↓reduceIte]
    rfl
  | succ k ih =>
    intro i hi
    have h1 : ¬ nI 14 ≤ nI i := nI_ge (by omega) (by decide)
    rw [qs_nx]
    by_cases q : al.testBit i = true
    · rw [if_pos q, qz_lt (by omega)]
      simp only [s63_0, s63_1, s63_2, s63_3, s63_6, s63_9i, s63_9r, s63_9n, s63_10, s63_11, s63_14i, s63_14r, s63_14n, s63_15, s63_16, s63_18, s63_21, s63_22, s63_23, s63_26, s63_29, s63_30, s63_31i, s63_31r, s63_31n, s63_37, s63_38, h1, m170 hal (show i < 31 by omega), q, bI_0, Bool.true_eq_false, List.length_cons, List.length_nil, Nat.zero_le, Nat.reduceAdd, Nat.reduceLeDiff, Option.bind_some, qx_kn_v, qx_kn_n, Nat.add_zero, ↓reduceIte]
    · have q2 : al.testBit i = false := by simpa using q
      rw [if_neg q]
      simp only [s63_0, s63_1, s63_2, s63_3, s63_6, s63_9i, s63_9r, s63_9n, s63_10, s63_11, s63_14i, s63_14r, s63_14n, s63_15, s63_16, s63_18, s63_21, s63_22, s63_23, s63_26, s63_29, s63_30, s63_31i, s63_31r, s63_31n, s63_37, s63_38, h1, m170 hal (show i < 31 by omega), q2, bI_0, nI_add, List.length_cons, List.length_nil, Nat.zero_le, Nat.reduceAdd, Nat.reduceLeDiff, Option.bind_some, qx_kn_v, qx_kn_n, Nat.add_zero, ↓reduceIte]
      rw [s63_34, ih (i + 1) (by omega)]
theorem g63 {M : qxM} {qa f : Nat → Nat} {qb e as r q : Nat} (hZ : qx_Z t) (hP : qx_P u) (hq : qQ t M e qa) (hb : M.1 t 6 = nI qb) (he : M.1 t 7 = nI e) (has : M.1 t 8 = nI as) (hbe : qb < e) (he2 : e ≤ 14) (ha2 : as ≤ 14) (hv : qa qb < 14) (hr : r ≤ 2) (hr2 : M.1 u 1 = nI r) (hk : M.1 u 2 = nI q) (hk2 : q < 16384) (hs : M.1 (u + 1) (qa qb) = nI (f (qa qb))) (hs2 : f (qa qb) < 16384) :
    Rs L xs (d + 3) 63 0 [some (.ref (t)), some (.ref (u)), none, none] [] (M) x = some (.inl (some (.int (qz (qs_nx (qp_al r q (f (qa qb)) (qa qb)) (14 - as) as)))), M, x) := by
  have h := g63l (L := L) (xs := xs) (d := d) (x := x) (t := t) (u := u) (M := M) (al := qp_al r q (f (qa qb)) (qa qb)) (by have := qp_al_lt (r := r) (k := q) (p := qa qb) hs2; omega) (14 - as) as (by omega)
  have h0 := m61 (L := L) (xs := xs) (d := d + 1) (x := 0) (i := 0) hZ hb he (by omega) he2 (show 0 < e - qb by omega)
  have hq0 : M.1 (t + 1) (qb + 0) = nI (qa qb) := hq qb hbe
  rw [hq0] at h0
  simp only [s63_0, s63_1, s63_2, s63_3, s63_6, s63_9i, s63_9r, s63_9n, s63_10, s63_11, s63_14i, s63_14r, s63_14n, s63_16, s63_18, s63_21, s63_22, s63_23, s63_26, s63_29, s63_30, s63_31i, s63_31r, s63_31n, s63_37, s63_38, hP.1, hZ.1, h0, m42 hP hv hr hr2 hk hk2 hs, has, List.length_cons, List.length_nil, Nat.zero_le, Nat.reduceAdd, Nat.reduceLeDiff, Option.bind_some, qx_kn_v, qx_kn_n, Nat.add_zero, ↓reduceIte]
  exact h
theorem g53l {p : Nat} (hZ : qx_Z t) : ∀ (k i : Nat) (M : qxM), i + k = 14 →
    Rs L xs (d + 3) 53 47 [some (.ref t), some (.int (nI p)), some (.int (nI i))] [] M x = Rs L xs (d + 3) 53 68 [some (.ref t), some (.int (nI p)), some (.int (nI 14))] [] (qx_ur M (t + 2) (fun j => if i ≤ j ∧ j < 14 then nI j else M.1 (t + 2) j)) x := by
  intro k
  induction k with
  | zero =>
    intro i M hi
    rw [show i = 14 by omega]
    have h1 : (nI 14 ≤ nI 14) = True := eq_true (Int32.le_refl _)
    simp only [s53_47, s53_48, s53_50, h1, ↓reduceIte]
    congr 1
    rw [show (fun j => if 14 ≤ j ∧ j < 14 then nI j else M.1 (t + 2) j) = M.1 (t + 2) from funext fun j => if_neg (by omega)]
    exact (qx_ur_self M (t + 2)).symm
  | succ k ih =>
    intro i M hi
    have h1 : ¬ nI 14 ≤ nI i := nI_ge (by omega) (by decide)
    have hk := hZ.2.1 2 (by decide) (by decide)
    have h174 := fun (d : Nat) => m174 (L := L) (xs := xs) (d := d) (x := 0) (M := M) (v := nI i) hk.1 hk.2 (show i < 14 by omega) (by decide)
    simp only [s53_47, s53_48, s53_50, s53_53, s53_54, s53_57, s53_58, s53_59, s53_62i, s53_62r, s53_62n, h1, hZ.1, h174, nI_add, List.length_cons, List.length_nil, Nat.zero_le, Nat.reduceAdd, Nat.reduceLeDiff, Option.bind_some, qx_kn_v, qx_kn_n, Nat.add_zero, ↓reduceIte]
    rw [s53_65, ih (i + 1) _ (by omega)]
    congr 1
    rw [qx_up_ur, qx_ur_ur, qx_ur_eq]
    congr 1
    funext j
    unfold upd
    by_cases e : j = i
    · rw [if_neg (by omega), if_pos e, if_pos (by omega), e]
    · rw [if_neg e]
      by_cases e2 : i + 1 ≤ j ∧ j < 14
      · rw [if_pos e2, if_pos (by omega)]
      · rw [if_neg e2, if_neg (by omega)]
theorem g175 {t n : Nat} {v : Int32} {M : qxM} (hk : qx_kd t = 0) (hn : qx_ln t = n) (hn2 : n < 2 ^ 31) : ∃ M', Rs L xs d 175 0 [some (.ref t), some (.int v), none] [] M x = some (.inl none, M', x) ∧ (∀ j, j < n → M'.1 t j = v) ∧ qf (fun a => a = t) M M' := by
  refine ⟨_, m175 hk hn hn2, ?_, qf_ur _ _ _ rfl⟩
  intro j hj
  rw [qx_ur_eq, if_pos hj]
theorem g66 {t p o i e : Nat} {M : qxM} (hZ : qx_Z t) (hp : p < 14) (ho : M.1 t 4 = nI o) (hi : M.1 t 5 = nI i) (he : M.1 t 7 = nI e) (he2 : e < 14) :
    ∃ M', Rs L xs (d + 1) 66 0 [some (.ref (t)), some (.int (nI p))] [] (M) x = some (.inl (none), M', x) ∧ M'.1 t 4 = nI (o ||| 2 ^ p) ∧ M'.1 t 5 = nI (qb_dif i (2 ^ p)) ∧ M'.1 t 7 = nI (e + 1) ∧ (∀ k, k ≠ 4 → k ≠ 5 → k ≠ 7 → M'.1 t k = M.1 t k) ∧ M'.1 (t + 1) e = nI p ∧ (∀ k, k ≠ e → M'.1 (t + 1) k = M.1 (t + 1) k) ∧ qf (fun a => a = t ∨ a = t + 1) M M' := by
  refine ⟨_, m66 hZ hp ho hi he he2, ?_, ?_, ?_, ?_, ?_, ?_, ?_⟩
  · simp [qx_up_at]
  · simp [qx_up_at]
  · simp [qx_up_at]
  · intro k h4 h5 h7
    simp [qx_up_at, h4, h5, h7]
  · simp [qx_up_at]
  · intro k hk
    simp [qx_up_at, hk]
  · exact qf_trans (qf_up _ _ _ _ (Or.inl rfl)) (qf_trans (qf_up _ _ _ _ (Or.inl rfl)) (qf_trans (qf_up _ _ _ _ (Or.inr rfl)) (qf_up _ _ _ _ (Or.inl rfl))))
theorem g53a {p : Nat} (hZ : qx_Z t) (M : qxM) : ∃ M', Rs L xs (d + 3) 53 0 [some (.ref t), some (.int (nI p)), none] [] M x = Rs L xs (d + 3) 53 68 [some (.ref t), some (.int (nI p)), some (.int (nI 14))] [] M' x ∧
    qS1 t M' 1 p 0 0 0 0 0 0 0 ∧ qB t M' (fun j => j) ∧ qf (fun a => a = t ∨ a = t + 2) M M' := by
  have q0 : (fun a => a = t ∨ a = t + 2) t := Or.inl rfl
  have h : Rs L xs (d + 3) 53 0 [some (.ref t), some (.int (nI p)), none] [] M x = Rs L xs (d + 3) 53 47 [some (.ref t), some (.int (nI p)), some (.int (nI 0))] [] (qx_up (qx_up (qx_up (qx_up (qx_up (qx_up (qx_up (qx_up (qx_up M t 0 (nI 1)) t 1 (nI p)) t 2 (nI 0)) t 3 (nI 0)) t 4 (nI 0)) t 5 (nI 0)) t 6 (nI 0)) t 7 (nI 0)) t 8 (nI 0)) x := by
    simp only [s53_0, s53_1, s53_2, s53_5, s53_6, s53_7, s53_10, s53_11, s53_12, s53_15, s53_16, s53_17, s53_20, s53_21, s53_22, s53_25, s53_26, s53_27, s53_30, s53_31, s53_32, s53_35, s53_36, s53_37, s53_40, s53_41, s53_42, s53_45, s53_46i, hZ.1]
  refine ⟨_, h.trans (g53l hZ 14 0 _ (by omega)), ?_, ?_, ?_⟩
  · unfold qS1
    simp only [qx_ur_ne _ _ (show t ≠ t + 2 by omega)]
    simp [qx_up_at]
  · intro j hj
    rw [qx_ur_eq, if_pos ⟨Nat.zero_le _, hj⟩]
  · exact qf_trans (qf_trans (qf_up _ _ _ _ q0) (qf_trans (qf_up _ _ _ _ q0) (qf_trans (qf_up _ _ _ _ q0) (qf_trans (qf_up _ _ _ _ q0) (qf_trans (qf_up _ _ _ _ q0) (qf_trans (qf_up _ _ _ _ q0) (qf_trans (qf_up _ _ _ _ q0) (qf_trans (qf_up _ _ _ _ q0) (qf_up _ _ _ _ q0))))))))) (qf_ur _ _ _ (Or.inr rfl))
theorem g53 {p : Nat} {M : qxM} {qa : Nat → Nat} (hZ : qx_Z t) (hp : p < 14) :
    ∃ M', Rs L xs (d + 3) 53 0 [some (.ref (t)), some (.int (nI p)), none] [] (M) x = some (.inl (none), M', x) ∧ qS t M' 1 p 0 0 (2 ^ p) 0 0 1 0 (qu qa 0 p) (fun j => j) (fun _ => 14) (fun _ => 14) (fun _ => 14) (qu (fun _ => []) p [p]) ∧ qf (qSf t) M M' := by
  have k3 := hZ.2.1 3 (by decide) (by decide)
  have k4 := hZ.2.1 4 (by decide) (by decide)
  have k5 := hZ.2.1 5 (by decide) (by decide)
  obtain ⟨M2, g2, s2, b2, f2⟩ := g53a (L := L) (xs := xs) (d := d) (x := x) (t := t) (p := p) hZ M
  obtain ⟨M3, g3, l3, f3⟩ := g175 (L := L) (xs := xs) (d := d + 2) (x := 0) (v := -1) (M := M2) k3.1 k3.2 (by decide)
  obtain ⟨M4, g4, l4, f4⟩ := g175 (L := L) (xs := xs) (d := d + 2) (x := 0) (v := -1) (M := M3) k4.1 k4.2 (by decide)
  obtain ⟨M5, g5, l5, f5⟩ := g175 (L := L) (xs := xs) (d := d + 2) (x := 0) (v := -1) (M := M4) k5.1 k5.2 (by decide)
  obtain ⟨M6, g6, w6, f6⟩ := g85 (L := L) (xs := xs) (d := d + 1) (x := 0) (t := t + 6) (M := M5) hZ.2.2
  have c6 : M6.1 t = M2.1 t := by
    rw [f6.1 t (by unfold qWf; omega), f5.1 t (by omega), f4.1 t (by omega), f3.1 t (by omega)]
  obtain ⟨s20, s21, s22, s23, s24, s25, s26, s27, s28⟩ := s2
  obtain ⟨M7, g7, a4, a5, a7, ak, aq, aq2, f7⟩ := g66 (L := L) (xs := xs) (d := d + 1) (x := 0) (M := M6) (t := t) (p := p) (o := 0) (i := 0) (e := 0) hZ hp (by rw [c6, s24]) (by rw [c6, s25]) (by rw [c6, s27]) (by decide)
  have w7 : qW (t + 6) M7 (fun _ => []) := qW_fr w6 f7 (by omega) (by omega)
  obtain ⟨M8, g8, w8, f8⟩ := g89 (L := L) (xs := xs) (d := d + 1) (x := 0) (t := t + 6) (p := p) (q := p) (M := M7) hZ.2.2 hp w7 (by simp)
  have c8 : ∀ a, a ≤ t + 6 → M8.1 a = M7.1 a := fun a ha => f8.1 a (by unfold qWf; omega)
  refine ⟨M8, ?_, ⟨?_, ?_, ?_, ?_, ?_, ?_, w8⟩, ?_⟩
  · rw [g2]
    simp only [s53_0, s53_1, s53_2, s53_5, s53_6, s53_7, s53_10, s53_11, s53_12, s53_15, s53_16, s53_17, s53_20, s53_21, s53_22, s53_25, s53_26, s53_27, s53_30, s53_31, s53_32, s53_35, s53_36, s53_37, s53_40, s53_41, s53_42, s53_45, s53_46i, s53_46r, s53_46n, s53_48, s53_50, s53_53, s53_54, s53_57, s53_58, s53_59, s53_62i, s53_62r, s53_62n, s53_68, s53_69, s53_72, s53_73, s53_76, s53_77, s53_80, s53_81, s53_84, s53_85, s53_88, s53_89, s53_92, s53_93, s53_96, s53_99, s53_100, s53_101, s53_104, s53_105, s53_108, s53_109, s53_110, s53_113, hZ.1, hZ.2.2.1, g3, g4, g5, g6, g7, g8, List.length_cons, List.length_nil, Nat.zero_le, Nat.reduceAdd, Nat.reduceLeDiff, Option.bind_some, qx_kn_v, qx_kn_n, Nat.add_zero, ↓reduceIte]
  · have e0 : qb_dif 0 (2 ^ p) = 0 := by unfold qb_dif; simp
    unfold qS1
    rw [c8 t (by omega), a4, a5, a7, ak 0 (by decide) (by decide) (by decide), ak 1 (by decide) (by decide) (by decide), ak 2 (by decide) (by decide) (by decide), ak 3 (by decide) (by decide) (by decide), ak 6 (by decide) (by decide) (by decide), ak 8 (by decide) (by decide) (by decide), c6, s20, s21, s22, s23, s26, s28, e0, Nat.zero_or]
    exact ⟨rfl, rfl, rfl, rfl, rfl, rfl, rfl, rfl, rfl⟩
  · intro i hi
    rw [c8 _ (by omega), show i = 0 by omega, qu_eq]
    exact aq
  · intro q hq
    rw [c8 _ (by omega), f7.1 _ (by omega), f6.1 _ (by unfold qWf; omega), f5.1 _ (by omega), f4.1 _ (by omega), f3.1 _ (by omega)]
    exact b2 q hq
  · intro q hq
    rw [c8 _ (by omega), f7.1 _ (by omega), f6.1 _ (by unfold qWf; omega), f5.1 _ (by omega), f4.1 _ (by omega)]
    exact l3 q hq
  · intro q hq
    rw [c8 _ (by omega), f7.1 _ (by omega), f6.1 _ (by unfold qWf; omega), f5.1 _ (by omega)]
    exact l4 q hq
  · intro q hq
    rw [c8 _ (by omega), f7.1 _ (by omega), f6.1 _ (by unfold qWf; omega)]
    exact l5 q hq
  · have hw : ∀ a, qWf (t + 6) a → qSf t a := fun a ha => by unfold qWf at ha; unfold qSf; omega
    have h1 : ∀ j, j ≤ 8 → ∀ a, a = t + j → qSf t a := fun j hj a ha => by unfold qSf; omega
    exact qf_trans (qf_mono f2 (fun a ha => by unfold qSf; omega)) (qf_trans (qf_mono f3 (h1 3 (by decide))) (qf_trans (qf_mono f4 (h1 4 (by decide))) (qf_trans (qf_mono f5 (h1 5 (by decide))) (qf_trans (qf_mono f6 hw) (qf_trans (qf_mono f7 (fun a ha => by unfold qSf; omega)) (qf_mono f8 hw))))))
end QL
