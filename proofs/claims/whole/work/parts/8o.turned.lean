/-! A friendship turned: the Model; inSome, inAll, mostIf, helps. -/
theorem qp_be_bit {f : Nat → Nat} {a b : Nat} (hab : a ≠ b) (on : Bool) (p z : Nat) : (qp_be f a b on p).testBit z = if p = b ∧ z = a ∨ p = a ∧ z = b then on else (f p).testBit z := by
  unfold qp_be
  by_cases e1 : p = b
  · rw [e1, qu_eq, qb_fl_bit]
    by_cases e2 : z = a
    · rw [if_pos e2, if_pos (Or.inl ⟨rfl, e2⟩)]
    · rw [if_neg e2, if_neg (by rintro (⟨_, w⟩ | ⟨w, _⟩); exact e2 w; exact hab w.symm)]
  · rw [qu_ne _ _ e1]
    by_cases e3 : p = a
    · rw [e3, qu_eq, qb_fl_bit]
      by_cases e2 : z = b
      · rw [if_pos e2, if_pos (Or.inr ⟨rfl, e2⟩)]
      · rw [if_neg e2, if_neg (by rintro (⟨w, _⟩ | ⟨_, w⟩); exact hab w; exact e2 w)]
    · rw [qu_ne _ _ e3, if_neg (by rintro (⟨w, _⟩ | ⟨w, _⟩); exact e1 w; exact e3 w)]
section QK
variable {n r q : Nat} {f mt : Nat → Nat}
theorem qal_e (hr : r ≤ 2) (a b : Nat) : qe (qal r q f) a b = ((f a).testBit b && qp_ra r q a b) := by
  unfold qe qal
  rw [qp_al_bit hr]
/-- the friends of one allow more, by one friendship -/
theorem be_tog (hp : qp_ok n r q f mt) {a b : Nat} (ha : a < n) (hb : b < n) (hab : a ≠ b) (hra : qp_ra r q a b = true) {f1 f2 : Nat → Nat} (hp1 : qp_ok n r q f1 mt) (hp2 : qp_ok n r q f2 mt) (e1 : (f1 a).testBit b = true) (e2 : (f2 a).testBit b = false)
    (hs : ∀ u v, u < 14 → v < 14 → ¬ (u = a ∧ v = b) → ¬ (u = b ∧ v = a) → (f1 u).testBit v = (f2 u).testBit v) :
    mF (qal r q f1) (2 ^ n - 1) = (if mF (qal r q f2) (qd (qd (2 ^ n - 1) a) b) + 1 < mF (qal r q f2) (2 ^ n - 1) then mF (qal r q f2) (2 ^ n - 1) else mF (qal r q f2) (qd (qd (2 ^ n - 1) a) b) + 1) ∧
    mW (qal r q f1) (2 ^ n - 1) = (if mF (qal r q f2) (2 ^ n - 1) = mF (qal r q f2) (qd (qd (2 ^ n - 1) a) b) + 1 then mW (qal r q f2) (2 ^ n - 1) + mW (qal r q f2) (qd (qd (2 ^ n - 1) a) b) else if mF (qal r q f2) (qd (qd (2 ^ n - 1) a) b) + 1 < mF (qal r q f2) (2 ^ n - 1) then mW (qal r q f2) (2 ^ n - 1) else mW (qal r q f2) (qd (qd (2 ^ n - 1) a) b)) ∧
    mF (qal r q f1) (qd (qd (2 ^ n - 1) a) b) = mF (qal r q f2) (qd (qd (2 ^ n - 1) a) b) ∧ mW (qal r q f1) (qd (qd (2 ^ n - 1) a) b) = mW (qal r q f2) (qd (qd (2 ^ n - 1) a) b) := by
  have h16 := n14 hp.1
  have hpos := Nat.two_pow_pos n
  refine tog_F (qal_ok hp1 hp1.2.1).1 (qal_ok hp2 hp2.2.1).1 (by omega) (by rw [Nat.testBit_two_pow_sub_one, decide_eq_true ha]) (by rw [Nat.testBit_two_pow_sub_one, decide_eq_true hb]) hab (by rw [qal_e hp.2.1, e1, hra]; rfl) (by rw [qal_e hp.2.1, e2]; rfl) (fun u v hu hv h1 h2 => ?_)
  rw [qal_e hp.2.1, qal_e hp.2.1, hs u v hu hv h1 h2]
/-- a friendship that RULE doesn't allow -/
theorem be_no (hp : qp_ok n r q f mt) {a b : Nat} (hab : a ≠ b) (hra : qp_ra r q a b = false) (on : Bool) (s : Nat) (hs : s < 16384) : mF (qal r q (qp_be f a b on)) s = mF (qal r q f) s := by
  refine (mF_set (fun u v _ _ => ?_)).1
  rw [qal_e hp.2.1, qal_e hp.2.1, qp_be_bit hab]
  by_cases z : u = b ∧ v = a ∨ u = a ∧ v = b
  · have hz : qp_ra r q u v = false := by
      rcases z with ⟨z1, z2⟩ | ⟨z1, z2⟩
      · rw [z1, z2, qp_ra_comm, hra]
      · rw [z1, z2, hra]
    rw [hz, Bool.and_false, Bool.and_false]
  · rw [if_neg z]
theorem be_on (hp : qp_ok n r q f mt) {a b : Nat} (ha : a < n) (hb : b < n) (hab : a ≠ b) (hra : qp_ra r q a b = true) (hf : (f a).testBit b = false) : mF (qal r q (qp_be f a b true)) (2 ^ n - 1) = (if mF (qal r q f) (qd (qd (2 ^ n - 1) a) b) + 1 < mF (qal r q f) (2 ^ n - 1) then mF (qal r q f) (2 ^ n - 1) else mF (qal r q f) (qd (qd (2 ^ n - 1) a) b) + 1) :=
  (be_tog hp ha hb hab hra (qp_be_ok hp ha hb hab true) hp (by rw [qp_be_bit hab, if_pos (Or.inr ⟨rfl, rfl⟩)]) hf (fun u v _ _ h1 h2 => by rw [qp_be_bit hab, if_neg (fun w => w.elim h2 h1)])).1
theorem be_off (hp : qp_ok n r q f mt) {a b : Nat} (ha : a < n) (hb : b < n) (hab : a ≠ b) (hra : qp_ra r q a b = true) (hf : (f a).testBit b = true) : mF (qal r q (qp_be f a b false)) (2 ^ n - 1) = if qNd (qal r q f) (2 ^ n - 1) a b = true then mF (qal r q f) (2 ^ n - 1) - 1 else mF (qal r q f) (2 ^ n - 1) := by
  have hp2 := qp_be_ok hp ha hb hab false
  have h16 := n14 hp.1
  have hpos := Nat.two_pow_pos n
  have hall : 2 ^ n - 1 < 16384 := by omega
  obtain ⟨t1, t2, t3, t4⟩ := be_tog hp ha hb hab hra hp hp2 hf (by rw [qp_be_bit hab, if_pos (Or.inr ⟨rfl, rfl⟩)]) (fun u v _ _ h1 h2 => by rw [qp_be_bit hab, if_neg (fun w => w.elim h2 h1)])
  have hW2 := (qFW (al := qal r q (qp_be f a b false)) hall).1
  have hmono : mF (qal r q (qp_be f a b false)) (qd (qd (2 ^ n - 1) a) b) ≤ mF (qal r q (qp_be f a b false)) (2 ^ n - 1) := F_mono (qal_ok hp2 hp2.2.1).1 hall (fun j hj => (qd_in.mp (qd_in.mp hj).1).1)
  have hN : qNd (qal r q f) (2 ^ n - 1) a b = true ↔ (mF (qal r q f) (qd (qd (2 ^ n - 1) a) b) + 1 = mF (qal r q f) (2 ^ n - 1) ∧ mW (qal r q f) (qd (qd (2 ^ n - 1) a) b) = mW (qal r q f) (2 ^ n - 1)) := by
    unfold qNd qUs
    rw [qal_e hp.2.1, hf, hra, Bool.true_and, Bool.true_and, Bool.and_eq_true, decide_eq_true_eq, decide_eq_true_eq]
  generalize qNd (qal r q f) (2 ^ n - 1) a b = N at *
  generalize mF (qal r q f) (2 ^ n - 1) = F at *
  generalize mW (qal r q f) (2 ^ n - 1) = W at *
  generalize mF (qal r q f) (qd (qd (2 ^ n - 1) a) b) = Bq at *
  generalize mW (qal r q f) (qd (qd (2 ^ n - 1) a) b) = Wb at *
  generalize mF (qal r q (qp_be f a b false)) (2 ^ n - 1) = F2 at *
  generalize mW (qal r q (qp_be f a b false)) (2 ^ n - 1) = W2 at *
  generalize mF (qal r q (qp_be f a b false)) (qd (qd (2 ^ n - 1) a) b) = B2 at *
  generalize mW (qal r q (qp_be f a b false)) (qd (qd (2 ^ n - 1) a) b) = Wb2 at *
  by_cases z : B2 + 1 < F2
  · rw [if_pos z] at t1
    rw [if_neg (fun w => by have := hN.mp w; omega)]
    omega
  · rw [if_neg z] at t1
    by_cases y : F2 = B2 + 1
    · rw [if_pos y] at t2
      rw [if_neg (fun w => by have := hN.mp w; omega)]
      omega
    · rw [if_neg y, if_neg z] at t2
      rw [if_pos (hN.mpr ⟨by omega, by omega⟩)]
      omega
end QK
section QL
variable {L : Nat} {xs : Nat → Int32} {d x : Nat}
theorem g295 {n r q a b : Nat} {f mt : Nat → Nat} {M : qxM} (hp : qp_ok n r q f mt) (hu : nPu M n r q f mt) (ha : a < n) (hb : b < n) (hab : a ≠ b) :
    ∃ M', Rs L xs (d + 5) 295 0 [some (.ref (400)), some (.int (nI a)), some (.int (nI b)), none] [] (M) x = some (.inl (some (.int (nI (mF (qal r q (qp_be f a b (!(f a).testBit b))) (2 ^ n - 1))))), M', x) ∧ qf qTb M M' := by
  obtain ⟨k1, k2, k3⟩ := qx_m400
  have hn14 := hp.1
  have ha14 : a < 14 := by omega
  have hb14 : b < 14 := by omega
  have hne : (nI a = nI b) = False := by rw [qi_eq (by omega) (by omega)]; exact eq_false hab
  have hp1 := qp_be_ok hp ha hb hab (!(f a).testBit b)
  have h216 := m216 (L := L) (xs := xs) (d := d + 3) (x := 0) (M := M) ha14 hb14 (hu.2.2.2.1 a ha14) (qp_f14 hp ha14)
  obtain ⟨M1, g1, u1, f1⟩ := g217 (L := L) (xs := xs) (d := d + 4) (x := 0) (M := M) hu ha14 hb14 hab (!(f a).testBit b)
  obtain ⟨M2, g2, l2, f2⟩ := m271 (L := L) (xs := xs) (d := d) (x := 0) hp1 (al := qal r q (qp_be f a b (!(f a).testBit b))) (fun p _ => rfl) (qal_ok hp1 hp1.2.1) u1
  have e2 : M2.1 401 = M1.1 401 := f2.1 401 (by unfold qTb; omega)
  have u2 : nPu M2 n r q (qp_be f a b (!(f a).testBit b)) mt := by
    unfold nPu nMt
    rw [e2]
    exact u1
  have h216b := m216 (L := L) (xs := xs) (d := d + 3) (x := 0) (M := M2) ha14 hb14 (u2.2.2.2.1 a ha14) (qp_f14 hp1 ha14)
  rw [qp_be_bit hab, if_pos (Or.inr ⟨rfl, rfl⟩)] at h216b
  obtain ⟨M3, g3, u3, f3⟩ := g217 (L := L) (xs := xs) (d := d + 4) (x := 0) (M := M2) u2 ha14 hb14 hab (!!(f a).testBit b)
  have hback : ∀ p, p < 14 → qp_be (qp_be f a b (!(f a).testBit b)) a b (!!(f a).testBit b) p = f p := fun p h => by
    apply Nat.eq_of_testBit_eq
    intro z
    rw [qp_be_bit hab, Bool.not_not]
    by_cases w : p = b ∧ z = a ∨ p = a ∧ z = b
    · rw [if_pos w]
      rcases w with ⟨w1, w2⟩ | ⟨w1, w2⟩
      · rw [w1, w2, hp.2.2.2.2.1 b a hb14 ha14]
      · rw [w1, w2]
    · rw [if_neg w, qp_be_bit hab, if_neg w]
  have e401 : M3.1 401 = M.1 401 := by
    funext j
    by_cases w : 7 ≤ j ∧ j < 21
    · have h1 := u3.2.2.2.1 (j - 7) (by omega)
      rw [show 7 + (j - 7) = j by omega, hback _ (by omega)] at h1
      have h2 := hu.2.2.2.1 (j - 7) (by omega)
      rw [show 7 + (j - 7) = j by omega] at h2
      rw [h1, h2]
    · rw [f3.2 j w, e2, f1.2 j w]
  refine ⟨M3, ?_, ⟨fun c hc => ?_, ?_⟩⟩
  · cases on : (f a).testBit b
    · rw [on] at h216 g1 g2 h216b g3
      simp only [Bool.not_false, Bool.not_true] at g1 g2 h216b g3
      rw [← bI_t] at g1
      rw [← bI_f] at g3
      simp only [s295_0, s295_1, s295_2, s295_5, s295_6, s295_7, s295_8, s295_9, s295_10, s295_11, s295_14, s295_17, s295_18, s295_21, s295_22, s295_25, s295_26, s295_29i, s295_29r, s295_29n, s295_30, s295_31, s295_32, s295_35, s295_36, s295_37, s295_38, s295_39, s295_40, s295_41, s295_44, s295_47, s295_48, s295_51, s295_52, s295_55, s295_56, k1, hne, h216, qbf, g1, g2, h216b, qbt, g3, Bool.not_false, List.length_cons, List.length_nil, Nat.zero_le, Nat.reduceAdd, Nat.reduceLeDiff, Option.bind_some, qx_kn_v, qx_kn_n, Nat.add_zero, Bool.false_eq_true, ↓reduceIte]
    · rw [on] at h216 g1 g2 h216b g3
      simp only [Bool.not_false, Bool.not_true] at g1 g2 h216b g3
      rw [← bI_f] at g1
      rw [← bI_t] at g3
      simp only [s295_0, s295_1, s295_2, s295_5, s295_6, s295_7, s295_8, s295_9, s295_10, s295_11, s295_14, s295_17, s295_18, s295_21, s295_22, s295_25, s295_26, s295_29i, s295_29r, s295_29n, s295_30, s295_31, s295_32, s295_35, s295_36, s295_37, s295_38, s295_39, s295_40, s295_41, s295_44, s295_47, s295_48, s295_51, s295_52, s295_55, s295_56, k1, hne, h216, qbt, g1, g2, h216b, qbf, g3, Bool.not_true, List.length_cons, List.length_nil, Nat.zero_le, Nat.reduceAdd, Nat.reduceLeDiff, Option.bind_some, qx_kn_v, qx_kn_n, Nat.add_zero, Bool.false_eq_true, ↓reduceIte]
  · by_cases w : c = 401
    · rw [w, e401]
    · rw [f3.1.1 c w, f2.1 c hc, f1.1.1 c w]
  · rw [f3.1.2, f2.2, f1.1.2]
theorem g295s {n r q a : Nat} {f mt : Nat → Nat} {M : qxM} (hp : qp_ok n r q f mt) (hu : nPu M n r q f mt) (ha : a < n) :
    ∃ M', Rs L xs (d + 5) 295 0 [some (.ref (400)), some (.int (nI a)), some (.int (nI a)), none] [] (M) x = some (.inl (some (.int (nI (mF (qal r q f) (2 ^ n - 1))))), M', x) ∧ qf qTb M M' := by
  obtain ⟨k1, k2, k3⟩ := qx_m400
  obtain ⟨M2, g2, l2, f2⟩ := m271 (L := L) (xs := xs) (d := d) (x := 0) hp (al := qal r q f) (fun p _ => rfl) (qal_ok hp hp.2.1) hu
  refine ⟨M2, ?_, f2⟩
  simp only [s295_0, s295_1, s295_2, s295_5, s295_6, s295_7, s295_8, s295_9, s295_10, s295_11, s295_14, s295_17, s295_18, s295_21, s295_22, s295_25, s295_26, s295_29i, s295_29r, s295_29n, s295_30, s295_31, s295_32, s295_35, s295_36, s295_37, s295_38, s295_39, s295_40, s295_41, s295_44, s295_47, s295_48, s295_51, s295_52, s295_55, s295_56, k1, g2, List.length_cons, List.length_nil, Nat.zero_le, Nat.reduceAdd, Nat.reduceLeDiff, Option.bind_some, qx_kn_v, qx_kn_n, Nat.add_zero, Bool.false_eq_true, ↓reduceIte]
theorem g293 {n r q a b : Nat} {f mt : Nat → Nat} {M : qxM} (hp : qp_ok n r q f mt) (hu : nPu M n r q f mt) (ha : a < n) (hb : b < n) (hl : qLay (qal r q f) n M) : Rs L xs (d + 3) 293 0 [some (.ref (400)), some (.int (nI a)), some (.int (nI b))] [] (M) x = some (.inl (some (.int (bI (qUs (qal r q f) (2 ^ n - 1) a b)))), M, x) := by
  obtain ⟨k1, k2, k3⟩ := qx_m400
  obtain ⟨y1, y2, y3, y4, y5, y6⟩ := qx_m407
  have hn14 := hp.1
  have ha14 : a < 14 := by omega
  have hb14 : b < 14 := by omega
  have hpos := Nat.two_pow_pos n
  have h16 := n14 hn14
  unfold qUs qe
  by_cases hab : a = b
  · have e : (qal r q f a).testBit b = false := by
      have := qal_e (q := q) (f := f) hp.2.1 a b
      unfold qe at this
      rw [this, ← hab, (hp.2.2.2.1 a ha14).2]
      rfl
    have hne : (nI a = nI b) = True := by rw [hab]; exact eq_self _
    rw [e, Bool.false_and]
    simp only [s293_0, s293_1, s293_2, s293_5, s293_6, s293_7, s293_8, s293_11, s293_14, s293_15, s293_18, s293_19, s293_22, s293_23, s293_24, s293_25, s293_26, s293_27, s293_28, s293_29, s293_30, s293_31, s293_32, s293_33, s293_34, s293_34z, s293_35, s293_36, s293_37, s293_38, s293_41, s293_42, s293_45, s293_45z, s293_46, s293_49, s293_50, s293_53, s293_54, hne, qx_z0, List.length_cons, List.length_nil, Nat.zero_le, Nat.reduceAdd, Nat.reduceLeDiff, Option.bind_some, qx_kn_v, qx_kn_n, Nat.add_zero, Bool.false_eq_true, ↓reduceIte]
    rfl
  · have hne : (nI a = nI b) = False := by rw [qi_eq (by omega) (by omega)]; exact eq_false hab
    obtain ⟨u0, u1, u2, u3, u4⟩ := hu
    have h219 := m219 (L := L) (xs := xs) (d := d) (x := 0) (M := M) ha14 hb14 (u3 a ha14) (qp_f14 hp ha14) u1 hp.2.1 u2 hp.2.2.1
    have h212 := fun d => m212 (L := L) (xs := xs) (d := d) (x := 0) u0 hn14
    cases z : (qp_al r q (f a) a).testBit b
    · rw [z] at h219
      rw [show (qal r q f a).testBit b = false from z, Bool.false_and]
      simp only [s293_0, s293_1, s293_2, s293_5, s293_6, s293_7, s293_8, s293_11, s293_14, s293_15, s293_18, s293_19, s293_22, s293_23, s293_24, s293_25, s293_26, s293_27, s293_28, s293_29, s293_30, s293_31, s293_32, s293_33, s293_34, s293_34z, s293_35, s293_36, s293_37, s293_38, s293_41, s293_42, s293_45, s293_45z, s293_46, s293_49, s293_50, s293_53, s293_54, k1, hne, h219, qbf, qx_z0, List.length_cons, List.length_nil, Nat.zero_le, Nat.reduceAdd, Nat.reduceLeDiff, Option.bind_some, qx_kn_v, qx_kn_n, Nat.add_zero, Bool.false_eq_true, ↓reduceIte]
      rfl
    · rw [z] at h219
      rw [show (qal r q f a).testBit b = true from z, Bool.true_and]
      have hle : qb_dif (qb_dif (2 ^ n - 1) (2 ^ a)) (2 ^ b) ≤ 2 ^ n - 1 := pc_le_of (fun j hj => (qm_in.mp (qm_in.mp hj).1).1)
      obtain ⟨c1, c2⟩ := qc_i (show qb_dif (qb_dif (2 ^ n - 1) (2 ^ a)) (2 ^ b) < 16384 by omega)
      obtain ⟨c3, c4⟩ := qc_i (show 2 ^ n - 1 < 16384 by omega)
      have r1 := (hl.2 (qb_dif (qb_dif (2 ^ n - 1) (2 ^ a)) (2 ^ b)) (by omega)).1
      have r2 := (hl.2 (2 ^ n - 1) (by omega)).1
      have e : (nI (mF (qal r q f) (qb_dif (qb_dif (2 ^ n - 1) (2 ^ a)) (2 ^ b)) + 1) = nI (mF (qal r q f) (2 ^ n - 1))) = (mF (qal r q f) (qd (qd (2 ^ n - 1) a) b) + 1 = mF (qal r q f) (2 ^ n - 1)) := qi_eq (by have := F_7 (al := qal r q f) (show qb_dif (qb_dif (2 ^ n - 1) (2 ^ a)) (2 ^ b) < 16384 by omega); omega) (by have := F_7 (al := qal r q f) (show 2 ^ n - 1 < 16384 by omega); omega)
      by_cases y : mF (qal r q f) (qd (qd (2 ^ n - 1) a) b) + 1 = mF (qal r q f) (2 ^ n - 1)
      · rw [decide_eq_true y]
        simp only [s293_0, s293_1, s293_2, s293_5, s293_6, s293_7, s293_8, s293_11, s293_14, s293_15, s293_18, s293_19, s293_22, s293_23, s293_24, s293_25, s293_26, s293_27, s293_28, s293_29, s293_30, s293_31, s293_32, s293_33, s293_34, s293_34z, s293_35, s293_36, s293_37, s293_38, s293_41, s293_42, s293_45, s293_45z, s293_46, s293_49, s293_50, s293_53, s293_54, k1, hne, h219, qbt, y1, y2, h212, qb_shl (show a < 32 by omega), qb_shl (show b < 32 by omega), qb_andn, c1, c2, c3, c4, r1, r2, nI_add, e, y, qx_z1, List.length_cons, List.length_nil, Nat.zero_le, Nat.reduceAdd, Nat.reduceLeDiff, Option.bind_some, qx_kn_v, qx_kn_n, Nat.add_zero, Bool.false_eq_true, ↓reduceIte]
        rfl
      · rw [decide_eq_false y]
        simp only [s293_0, s293_1, s293_2, s293_5, s293_6, s293_7, s293_8, s293_11, s293_14, s293_15, s293_18, s293_19, s293_22, s293_23, s293_24, s293_25, s293_26, s293_27, s293_28, s293_29, s293_30, s293_31, s293_32, s293_33, s293_34, s293_34z, s293_35, s293_36, s293_37, s293_38, s293_41, s293_42, s293_45, s293_45z, s293_46, s293_49, s293_50, s293_53, s293_54, k1, hne, h219, qbt, y1, y2, h212, qb_shl (show a < 32 by omega), qb_shl (show b < 32 by omega), qb_andn, c1, c2, c3, c4, r1, r2, nI_add, e, y, qx_z0, List.length_cons, List.length_nil, Nat.zero_le, Nat.reduceAdd, Nat.reduceLeDiff, Option.bind_some, qx_kn_v, qx_kn_n, Nat.add_zero, Bool.false_eq_true, ↓reduceIte]
        rfl
theorem j128 {M : qxM} {B : Nat} (hR : qREL M) (hT0 : qTab B M) (hB : B < 90000) (z : Int32) (y : Int32) : qPairG Value.int B L xs (d + 40) 128 [some (.ref 10), some (.int z), some (.int y)] 294 [some (.ref 400), some (.int z), some (.int y), none] ke02 M := by
  obtain ⟨k1, k2, k3⟩ := qx_m400
  rcases qREL_cmp hR with ⟨b1, b2, b3, b4⟩ | ⟨b1, b2, n, r, q, f, mt, s1, s2, s3, s4, st, rt, sp, bm, ou, inn, qb, e, as, qa, bs, lk, nr, fr, wy, hp, hn1, hT, hou, hinn, he14, hst4, hu, ⟨a1, a2, a3, a4⟩, hS, hm, ⟨v1, v2, v3, v4⟩, h35, hN⟩
  · refine qPairG_of hT0 hR 1 0 (by decide) ?_ ?_
    · rw [if_neg (by decide)]
      simp only [s128_0, s128_1, s128_2, s128_3, qx_m10, a161t b1, List.length_cons, List.length_nil, Nat.zero_le, Nat.reduceAdd, Nat.reduceLeDiff, Option.bind_some, qx_kn_v, qx_kn_n, Nat.add_zero, Bool.false_eq_true, ↓reduceIte]
      exact qx_kn_t rfl rfl rfl
    · intro o
      refine ⟨nI 0, ?_, fun h => absurd h (by decide)⟩
      have h1 := fun (d : Nat) => b227a (L := L) (xs := xs) (d := d) (x := 0) (M := (M.1, o)) b2 b3 (by decide) z y
      simp only [s294_0, s294_1, s294_2, s294_3, s294_6, s294_9, s294_10, k1, h1, qbt, qbf, qi_z0, true_or, List.length_cons, List.length_nil, Nat.zero_le, Nat.reduceAdd, Nat.reduceLeDiff, Option.bind_some, qx_kn_v, qx_kn_n, Nat.add_zero, Bool.false_eq_true, ↓reduceIte]
  · have hn14 : n ≤ 14 := hp.1
    have hn0 : M.1 101 0 = nI n := hu.1
    by_cases hz : qOut n z ∨ qOut n y
    · refine qPairG_of hT0 hR 2 0 (by decide) ?_ ?_
      · rw [if_neg (by decide)]
        simp only [s128_0, s128_1, s128_2, s128_3, qx_m10, a161o b1 hn0 hn14 hz, List.length_cons, List.length_nil, Nat.zero_le, Nat.reduceAdd, Nat.reduceLeDiff, Option.bind_some, qx_kn_v, qx_kn_n, Nat.add_zero, Bool.false_eq_true, ↓reduceIte]
        exact qx_kn_t rfl rfl rfl
      · intro o
        refine ⟨nI 0, ?_, fun h => absurd h (by decide)⟩
        have h1 := fun (d : Nat) => b227b (L := L) (xs := xs) (d := d) (x := 0) (M := (M.1, o)) b2 hm.1 hn14 hz
        simp only [s294_0, s294_1, s294_2, s294_3, s294_6, s294_9, s294_10, k1, h1, qbt, qbf, qi_z0, true_or, List.length_cons, List.length_nil, Nat.zero_le, Nat.reduceAdd, Nat.reduceLeDiff, Option.bind_some, qx_kn_v, qx_kn_n, Nat.add_zero, Bool.false_eq_true, ↓reduceIte]
    obtain ⟨p, p1, p2⟩ := qOut_not (by omega) (fun w => hz (Or.inl w))
    obtain ⟨p0, p3, p4⟩ := qOut_not (by omega) (fun w => hz (Or.inr w))
    subst p2 p4
    have hp14 : p < 14 := by omega
    have hq14 : p0 < 14 := by omega
    have hneed := fun (d x : Nat) => a161 (L := L) (xs := xs) (d := d) (x := x) b1 hn0 hn14 p1 p3
    have hmay := fun (o : (Nat → Int64) × (Nat → UInt64)) (d : Nat) => b227c (L := L) (xs := xs) (d := d) (x := 0) (M := (M.1, o)) b2 hm.1 hn14 p1 p3
    have hZ : qx_Z 104 := qx_T100.2.2
    have hP : qx_P 101 := qx_T100.2.1
    have hst0 : M.1 104 0 = nI st := hS.1.1
    have hst9 : ∀ {st : Nat}, st ≤ B + 1 → st < 100000 := fun h => by omega
    have hall : 2 ^ n - 1 < 16384 := by have := n14 hn14; have := Nat.two_pow_pos n; omega
    have ha := qal_ok hp hp.2.1
    obtain ⟨M1, st1, g1, s1, t1, f1⟩ := a168 (L := L) (xs := xs) (d := d + 36) (x := 0) hp hu hT0 hB
    obtain ⟨M2, g2, t2, f2⟩ := m12 (L := L) (xs := xs) (d := d + 20) (x := 0) ha (hst9 s1) hall hp14 hq14 t1
    have F := qf_trans f1 (qF_m f2)
    refine qPairG_mem hR (bI (qUs (qal r q f) (2 ^ n - 1) p p0)) ?_ F (qTab_s ha s1 t2) (fun o => ?_)
    · simp only [s128_0, s128_1, s128_2, s128_3, s128_6, s128_7, s128_10, s128_11, s128_12, s128_15, qx_m10, hneed, g1, g2, bI_z, List.length_cons, List.length_nil, Nat.zero_le, Nat.reduceAdd, Nat.reduceLeDiff, Option.bind_some, qx_kn_v, qx_kn_n, Nat.add_zero, Bool.false_eq_true, ↓reduceIte]
    · have hu2 := nPu_F hm F o (nI 0)
      obtain ⟨M3, g3, l3, f3⟩ := m271 (L := L) (xs := xs) (d := d + 35) (x := 0) hp (al := qal r q f) (fun p _ => rfl) ha hu2
      have u3 : nPu M3 n r q f mt := by
        unfold nPu nMt
        rw [f3.1 401 (by unfold qTb; omega)]
        exact hu2
      have h293 := g293 (L := L) (xs := xs) (d := d + 36) (x := 0) hp u3 p1 p3 l3
      have h227 := fun d => mo227 (L := L) (xs := xs) b2 hm.1 hn14 p1 p3 F o d
      refine ⟨M3, ?_, f3⟩
      simp only [s294_0, s294_1, s294_2, s294_3, s294_6, s294_9, s294_10, s294_11, s294_12, s294_15i, s294_15r, s294_15n, s294_16, s294_17, s294_18, s294_19, s294_22, k1, h227, qbt, g3, h293, bI_z, List.length_cons, List.length_nil, Nat.zero_le, Nat.reduceAdd, Nat.reduceLeDiff, Option.bind_some, qx_kn_v, qx_kn_n, Nat.add_zero, Bool.false_eq_true, ↓reduceIte]
theorem j129 {M : qxM} {B : Nat} (hR : qREL M) (hT0 : qTab B M) (hB : B < 90000) (z : Int32) (y : Int32) : qPairG Value.int B L xs (d + 40) 129 [some (.ref 10), some (.int z), some (.int y)] 296 [some (.ref 400), some (.int z), some (.int y)] ke02 M := by
  obtain ⟨k1, k2, k3⟩ := qx_m400
  rcases qREL_cmp hR with ⟨b1, b2, b3, b4⟩ | ⟨b1, b2, n, r, q, f, mt, s1, s2, s3, s4, st, rt, sp, bm, ou, inn, qb, e, as, qa, bs, lk, nr, fr, wy, hp, hn1, hT, hou, hinn, he14, hst4, hu, ⟨a1, a2, a3, a4⟩, hS, hm, ⟨v1, v2, v3, v4⟩, h35, hN⟩
  · refine qPairG_of hT0 hR 1 0 (by decide) ?_ ?_
    · rw [if_neg (by decide)]
      simp only [s129_0, s129_1, s129_2, s129_3, qx_m10, a161t b1, List.length_cons, List.length_nil, Nat.zero_le, Nat.reduceAdd, Nat.reduceLeDiff, Option.bind_some, qx_kn_v, qx_kn_n, Nat.add_zero, Bool.false_eq_true, ↓reduceIte]
      exact qx_kn_t rfl rfl rfl
    · intro o
      refine ⟨nI 0, ?_, fun h => absurd h (by decide)⟩
      have h1 := fun (d : Nat) => b227a (L := L) (xs := xs) (d := d) (x := 0) (M := (M.1, o)) b2 b3 (by decide) z y
      simp only [s296_0, s296_1, s296_2, s296_3, s296_6, s296_9, s296_10, s296_11, s296_14, s296_15, s296_16, s296_17, s296_20, s296_23, s296_24, k1, h1, qbt, qbf, qi_z0, true_or, List.length_cons, List.length_nil, Nat.zero_le, Nat.reduceAdd, Nat.reduceLeDiff, Option.bind_some, qx_kn_v, qx_kn_n, Nat.add_zero, Bool.false_eq_true, ↓reduceIte]
  · have hn14 : n ≤ 14 := hp.1
    have hn0 : M.1 101 0 = nI n := hu.1
    by_cases hz : qOut n z ∨ qOut n y
    · refine qPairG_of hT0 hR 2 0 (by decide) ?_ ?_
      · rw [if_neg (by decide)]
        simp only [s129_0, s129_1, s129_2, s129_3, qx_m10, a161o b1 hn0 hn14 hz, List.length_cons, List.length_nil, Nat.zero_le, Nat.reduceAdd, Nat.reduceLeDiff, Option.bind_some, qx_kn_v, qx_kn_n, Nat.add_zero, Bool.false_eq_true, ↓reduceIte]
        exact qx_kn_t rfl rfl rfl
      · intro o
        refine ⟨nI 0, ?_, fun h => absurd h (by decide)⟩
        have h1 := fun (d : Nat) => b227b (L := L) (xs := xs) (d := d) (x := 0) (M := (M.1, o)) b2 hm.1 hn14 hz
        simp only [s296_0, s296_1, s296_2, s296_3, s296_6, s296_9, s296_10, s296_11, s296_14, s296_15, s296_16, s296_17, s296_20, s296_23, s296_24, k1, h1, qbt, qbf, qi_z0, true_or, List.length_cons, List.length_nil, Nat.zero_le, Nat.reduceAdd, Nat.reduceLeDiff, Option.bind_some, qx_kn_v, qx_kn_n, Nat.add_zero, Bool.false_eq_true, ↓reduceIte]
    obtain ⟨p, p1, p2⟩ := qOut_not (by omega) (fun w => hz (Or.inl w))
    obtain ⟨p0, p3, p4⟩ := qOut_not (by omega) (fun w => hz (Or.inr w))
    subst p2 p4
    have hp14 : p < 14 := by omega
    have hq14 : p0 < 14 := by omega
    have hneed := fun (d x : Nat) => a161 (L := L) (xs := xs) (d := d) (x := x) b1 hn0 hn14 p1 p3
    have hmay := fun (o : (Nat → Int64) × (Nat → UInt64)) (d : Nat) => b227c (L := L) (xs := xs) (d := d) (x := 0) (M := (M.1, o)) b2 hm.1 hn14 p1 p3
    have hZ : qx_Z 104 := qx_T100.2.2
    have hP : qx_P 101 := qx_T100.2.1
    have hst0 : M.1 104 0 = nI st := hS.1.1
    have hst9 : ∀ {st : Nat}, st ≤ B + 1 → st < 100000 := fun h => by omega
    have hall : 2 ^ n - 1 < 16384 := by have := n14 hn14; have := Nat.two_pow_pos n; omega
    have ha := qal_ok hp hp.2.1
    obtain ⟨M1, st1, g1, s1, t1, f1⟩ := a168 (L := L) (xs := xs) (d := d + 36) (x := 0) hp hu hT0 hB
    obtain ⟨M2, g2, t2, f2⟩ := m13 (L := L) (xs := xs) (d := d + 19) (x := 0) ha (hst9 s1) hall hp14 hq14 t1
    have F := qf_trans f1 (qF_m f2)
    refine qPairG_mem hR (bI (qNd (qal r q f) (2 ^ n - 1) p p0)) ?_ F (qTab_s ha s1 t2) (fun o => ?_)
    · simp only [s129_0, s129_1, s129_2, s129_3, s129_6, s129_7, s129_10, s129_11, s129_12, s129_15, qx_m10, hneed, g1, g2, bI_z, List.length_cons, List.length_nil, Nat.zero_le, Nat.reduceAdd, Nat.reduceLeDiff, Option.bind_some, qx_kn_v, qx_kn_n, Nat.add_zero, Bool.false_eq_true, ↓reduceIte]
    · have hu2 := nPu_F hm F o (nI 0)
      have h227 := fun d => mo227 (L := L) (xs := xs) b2 hm.1 hn14 p1 p3 F o d
      have hE := qal_e (q := q) (f := f) hp.2.1 p p0
      by_cases hab : p = p0
      · have e : qNd (qal r q f) (2 ^ n - 1) p p0 = false := by
          unfold qNd qUs
          rw [hE, ← hab, (hp.2.2.2.1 p hp14).2]
          rfl
        have hne : (nI p = nI p0) = True := by rw [hab]; exact eq_self _
        rw [e]
        refine ⟨_, ?_, qf_refl _ _⟩
        simp only [s296_0, s296_1, s296_2, s296_3, s296_6, s296_9, s296_10, s296_11, s296_14, s296_15, s296_16, s296_17, s296_20, s296_23, s296_24, k1, h227, qbt, hne, qx_z0, List.length_cons, List.length_nil, Nat.zero_le, Nat.reduceAdd, Nat.reduceLeDiff, Option.bind_some, qx_kn_v, qx_kn_n, Nat.add_zero, Bool.false_eq_true, ↓reduceIte]
        rfl
      · have hne : (nI p = nI p0) = False := by rw [qi_eq (by omega) (by omega)]; exact eq_false hab
        have h219 := m219 (L := L) (xs := xs) (d := d + 37) (x := 0) (M := qx_up (M2.1, o) 400 0 (nI 0)) hp14 hq14 (hu2.2.2.2.1 p hp14) (qp_f14 hp hp14) hu2.2.1 hp.2.1 hu2.2.2.1 hp.2.2.1
        cases z : (qp_al r q (f p) p).testBit p0
        · rw [z] at h219
          have e : qNd (qal r q f) (2 ^ n - 1) p p0 = false := by
            unfold qNd qUs
            rw [show qe (qal r q f) p p0 = false from z]
            rfl
          rw [e]
          refine ⟨_, ?_, qf_refl _ _⟩
          simp only [s296_0, s296_1, s296_2, s296_3, s296_6, s296_9, s296_10, s296_11, s296_14, s296_15, s296_16, s296_17, s296_20, s296_23, s296_24, k1, h227, qbt, hne, h219, qbf, qx_z0, List.length_cons, List.length_nil, Nat.zero_le, Nat.reduceAdd, Nat.reduceLeDiff, Option.bind_some, qx_kn_v, qx_kn_n, Nat.add_zero, Bool.false_eq_true, ↓reduceIte]
          rfl
        · rw [z] at h219
          have hz : qe (qal r q f) p p0 = true := z
          rw [hE, Bool.and_eq_true] at hz
          obtain ⟨M3, g3, f3⟩ := g295 (L := L) (xs := xs) (d := d + 34) (x := 0) hp hu2 p1 p3 hab
          rw [hz.1, Bool.not_true, be_off hp p1 p3 hab hz.2 hz.1] at g3
          have u3 : nPu M3 n r q f mt := by
            unfold nPu nMt
            rw [f3.1 401 (by unfold qTb; omega)]
            exact hu2
          obtain ⟨M4, g4, l4, f4⟩ := m271 (L := L) (xs := xs) (d := d + 35) (x := 0) hp (al := qal r q f) (fun p _ => rfl) ha u3
          have hF7 := F_7 (al := qal r q f) hall
          refine ⟨M4, ?_, qf_trans f3 f4⟩
          cases y : qNd (qal r q f) (2 ^ n - 1) p p0
          · rw [y, if_neg (by decide)] at g3
            have e : (nI (mF (qal r q f) (2 ^ n - 1)) ≤ nI (mF (qal r q f) (2 ^ n - 1))) = True := eq_true (Int32.le_refl _)
            simp only [s296_0, s296_1, s296_2, s296_3, s296_6, s296_9, s296_10, s296_11, s296_14, s296_15, s296_16, s296_17, s296_20, s296_23, s296_24, s296_25, s296_26, s296_27, s296_28, s296_31, s296_32, s296_35, s296_38, s296_39, s296_42, s296_43, k1, h227, qbt, hne, h219, g3, g4, e, qx_z0, List.length_cons, List.length_nil, Nat.zero_le, Nat.reduceAdd, Nat.reduceLeDiff, Option.bind_some, qx_kn_v, qx_kn_n, Nat.add_zero, Bool.false_eq_true, ↓reduceIte]
            rfl
          · rw [y, if_pos rfl] at g3
            have hpos : 0 < mF (qal r q f) (2 ^ n - 1) := by
              unfold qNd qUs at y
              rw [Bool.and_eq_true, Bool.and_eq_true, decide_eq_true_eq] at y
              omega
            have e : (nI (mF (qal r q f) (2 ^ n - 1)) ≤ nI (mF (qal r q f) (2 ^ n - 1) - 1)) = False := by
              rw [qi_le (by omega) (by omega)]
              exact eq_false (by omega)
            simp only [s296_0, s296_1, s296_2, s296_3, s296_6, s296_9, s296_10, s296_11, s296_14, s296_15, s296_16, s296_17, s296_20, s296_23, s296_24, s296_25, s296_26, s296_27, s296_28, s296_31, s296_32, s296_35, s296_38, s296_39, s296_42, s296_43, k1, h227, qbt, hne, h219, g3, g4, e, qx_z1, List.length_cons, List.length_nil, Nat.zero_le, Nat.reduceAdd, Nat.reduceLeDiff, Option.bind_some, qx_kn_v, qx_kn_n, Nat.add_zero, Bool.false_eq_true, ↓reduceIte]
            rfl
end QL
