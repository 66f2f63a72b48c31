/-! The helpers of the law: a call of the one, its answer laid aside; then the other. -/
def qoI (v : Int32) (M : qxM) : Prop := M.2.1 0 = v.toInt64
def qoB (v : Int32) (M : qxM) : Prop := M.2.1 0 = if v = 0 then Int64.ofNat 0 else Int64.ofNat 1
def qoL (v : Int64) (M : qxM) : Prop := M.2.1 0 = v
def qoD (v : qYd) (M : qxM) : Prop := M.2.2 0 = v.1
def qoF (v : qYf) (M : qxM) : Prop := M.2.2 0 = FP.f2d v.1
def qHelp {α : Type} (c : α → Value) (ok : α → qxM → Prop) (B L : Nat) (xs : Nat → Int32) (d H : Nat) (hs : qxL) (Z : Nat) (zs : qxL) (M : qxM) : Prop :=
  ∃ (k x1 : Nat) (M1 M2 : qxM) (v : α), k < 4 ∧ x1 ≤ 1 ∧ Rs L xs (d + 41) H 0 hs [] M 0 = some (.inl (some (.int (nI k))), M1, x1) ∧ Rs L xs (d + 41) Z 0 zs [] M1 0 = some (.inl (some (c v)), M2, 0) ∧ M2.1 400 0 = nI k ∧ (k = 0 → ok v M2) ∧ qREL M2 ∧ qTab (B + 1) M2
theorem qx_m2 : qx_kd 2 = 4 ∧ qx_kd 3 = 5 ∧ qx_ib (nI 0) (qx_ln 2) = true ∧ qx_ib (nI 0) (qx_ln 3) = true ∧ (nI 0).toNatClampNeg = 0 := by decide +kernel
theorem qx_exne {a : Nat} (h : "" = qx_ex a) : False := by
  unfold qx_ex at h
  split at h
  · exact absurd h (by decide)
  · exact absurd h (by decide)
  · exact absurd h (by decide)
theorem qk_bd {α : Type} {c : α → Value} {L : Nat} {xs : Nat → Int32} {d Y : Nat} {as : qxL} {M M1 : qxM} {v : α} {ke : Nat → String} (H : Nat) {k : Nat} (h1 : Rs L xs d Y 0 as [] M 0 = (if k = 0 then some (.inl (some (c v)), M1, 0) else some (.inr (ke k), M1, 1))) (hk : k < 4) (hke : ∀ j, H < j → j < 4 → ke j = "") : k ≤ H := by
  rcases Nat.lt_or_ge H k with h | h
  · exfalso
    rw [if_neg (by omega), hke k h hk] at h1
    obtain ⟨a, -, a2⟩ := Rs_exc _ _ _ _ _ _ _ _ h1 _ rfl
    exact qx_exne a2
  · exact h
theorem ke0_b : ∀ j, 1 < j → j < 4 → ke0 j = "" := fun j h1 h2 => by
  rcases (by omega : j = 2 ∨ j = 3) with rfl | rfl <;> rfl
theorem ke2_b : ∀ j, 1 < j → j < 4 → ke2 j = "" := fun j h1 h2 => by
  rcases (by omega : j = 2 ∨ j = 3) with rfl | rfl <;> rfl
theorem ke02_b : ∀ j, 2 < j → j < 4 → ke02 j = "" := fun j h1 h2 => by
  obtain rfl : j = 3 := by omega
  rfl
theorem ke01_b : ∀ j, 2 < j → j < 4 → ke01 j = "" := fun j h1 h2 => by
  obtain rfl : j = 3 := by omega
  rfl
theorem ke20_b : ∀ j, 2 < j → j < 4 → ke20 j = "" := fun j h1 h2 => by
  obtain rfl : j = 3 := by omega
  rfl
theorem ke21_b : ∀ j, 2 < j → j < 4 → ke21 j = "" := fun j h1 h2 => by
  obtain rfl : j = 3 := by omega
  rfl
theorem ke021_b : ∀ j, 3 < j → j < 4 → ke021 j = "" := fun j h1 h2 => by omega
section QH
variable {L : Nat} {xs : Nat → Int32} {d : Nat} {M : qxM} {B Z : Nat} {zs : qxL}
theorem h335 {w1 : Int32} (h : qPairG Value.int B L xs (d + 40) 93 [some (.ref 10), some (.int w1)] Z zs ke21 M) : qHelp Value.int qoI B L xs d 335 [some (.ref 10), some (.int w1), some (.ref 2), none] Z zs M := by
  obtain ⟨k, v, M1, h1, hk, h2⟩ := h
  have hb := qk_bd (c := Value.int) 2 h1 hk ke21_b
  rcases (by omega : k = 0 ∨ k = 1 ∨ k = 2) with rfl | rfl | rfl
  · rw [if_pos rfl] at h1
    obtain ⟨v1, M2, e1, e2, e3, e4, e5, e6⟩ := h2 (vp_updL M1.2.1 0 v.toInt64, M1.2.2)
    refine ⟨0, 0, (M1.1, vp_updL M1.2.1 0 v.toInt64, M1.2.2), M2, v1, by decide, by decide, ?_, Rs_mono _ _ _ _ _ _ _ _ e1, e4, fun _ => ?_, e5, e6⟩
    · simp only [s335_0, s335_1, s335_2, s335_3, s335_4, s335_7, s335_8, s335_9, s335_18, s335_19, qx_m10, qx_m2, h1, List.length_cons, List.length_nil, Nat.zero_le, Nat.reduceAdd, Nat.reduceLeDiff, Option.bind_some, qx_kn_v, qx_kn_n, Nat.add_zero, Bool.false_eq_true, ↓reduceIte]
    · rw [e3 rfl]
      unfold qoI
      rw [e2]
      rfl
  · rw [if_neg (by decide)] at h1
    obtain ⟨v1, M2, e1, e2, e3, e4, e5, e6⟩ := h2 M1.2
    refine ⟨1, 1, M1, M2, v1, by decide, by decide, ?_, Rs_mono _ _ _ _ _ _ _ _ e1, e4, fun hz => absurd hz (by decide), e5, e6⟩
    have hr : Rs L xs (d + 41) 335 0 [some (.ref 10), some (.int w1), some (.ref 2), none] [] M 0 = Rs L xs (d + 41) 335 13 [some (.ref 10), some (.int w1), some (.ref 2), none] [] M1 1 := by
      simp only [s335_0, s335_1, s335_2, s335_3, s335_4, qx_m10, qx_m2, h1, List.length_cons, List.length_nil, Nat.zero_le, Nat.reduceAdd, Nat.reduceLeDiff, Option.bind_some, qx_kn_v, qx_kn_n, Nat.add_zero, Bool.false_eq_true, ↓reduceIte]
      exact qx_kn_c (h := (13, 3)) rfl (by decide +kernel) ⟨rfl, Nat.le_of_ble_eq_true rfl⟩
    rw [hr]
    simp only [s335_13, s335_14, s335_15i, s335_15r, s335_15n, s335_16]
  · rw [if_neg (by decide)] at h1
    obtain ⟨v1, M2, e1, e2, e3, e4, e5, e6⟩ := h2 M1.2
    refine ⟨2, 1, M1, M2, v1, by decide, by decide, ?_, Rs_mono _ _ _ _ _ _ _ _ e1, e4, fun hz => absurd hz (by decide), e5, e6⟩
    have hr : Rs L xs (d + 41) 335 0 [some (.ref 10), some (.int w1), some (.ref 2), none] [] M 0 = Rs L xs (d + 41) 335 16 [some (.ref 10), some (.int w1), some (.ref 2), none] [] M1 1 := by
      simp only [s335_0, s335_1, s335_2, s335_3, s335_4, qx_m10, qx_m2, h1, List.length_cons, List.length_nil, Nat.zero_le, Nat.reduceAdd, Nat.reduceLeDiff, Option.bind_some, qx_kn_v, qx_kn_n, Nat.add_zero, Bool.false_eq_true, ↓reduceIte]
      exact qx_kn_c (h := (16, 3)) rfl (by decide +kernel) ⟨rfl, Nat.le_of_ble_eq_true rfl⟩
    rw [hr]
    simp only [s335_16, s335_17, s335_18, s335_19]
theorem h336 {w1 : Int32} (h : qPairG Value.int B L xs (d + 40) 97 [some (.ref 10), some (.int w1), none] Z zs ke01 M) : qHelp Value.int qoI B L xs d 336 [some (.ref 10), some (.int w1), some (.ref 2), none] Z zs M := by
  obtain ⟨k, v, M1, h1, hk, h2⟩ := h
  have hb := qk_bd (c := Value.int) 2 h1 hk ke01_b
  rcases (by omega : k = 0 ∨ k = 1 ∨ k = 2) with rfl | rfl | rfl
  · rw [if_pos rfl] at h1
    obtain ⟨v1, M2, e1, e2, e3, e4, e5, e6⟩ := h2 (vp_updL M1.2.1 0 v.toInt64, M1.2.2)
    refine ⟨0, 0, (M1.1, vp_updL M1.2.1 0 v.toInt64, M1.2.2), M2, v1, by decide, by decide, ?_, Rs_mono _ _ _ _ _ _ _ _ e1, e4, fun _ => ?_, e5, e6⟩
    · simp only [s336_0, s336_1, s336_2, s336_3, s336_4, s336_7, s336_8, s336_9, s336_18, s336_19, qx_m10, qx_m2, h1, List.length_cons, List.length_nil, Nat.zero_le, Nat.reduceAdd, Nat.reduceLeDiff, Option.bind_some, qx_kn_v, qx_kn_n, Nat.add_zero, Bool.false_eq_true, ↓reduceIte]
    · rw [e3 rfl]
      unfold qoI
      rw [e2]
      rfl
  · rw [if_neg (by decide)] at h1
    obtain ⟨v1, M2, e1, e2, e3, e4, e5, e6⟩ := h2 M1.2
    refine ⟨1, 1, M1, M2, v1, by decide, by decide, ?_, Rs_mono _ _ _ _ _ _ _ _ e1, e4, fun hz => absurd hz (by decide), e5, e6⟩
    have hr : Rs L xs (d + 41) 336 0 [some (.ref 10), some (.int w1), some (.ref 2), none] [] M 0 = Rs L xs (d + 41) 336 13 [some (.ref 10), some (.int w1), some (.ref 2), none] [] M1 1 := by
      simp only [s336_0, s336_1, s336_2, s336_3, s336_4, qx_m10, qx_m2, h1, List.length_cons, List.length_nil, Nat.zero_le, Nat.reduceAdd, Nat.reduceLeDiff, Option.bind_some, qx_kn_v, qx_kn_n, Nat.add_zero, Bool.false_eq_true, ↓reduceIte]
      exact qx_kn_c (h := (13, 3)) rfl (by decide +kernel) ⟨rfl, Nat.le_of_ble_eq_true rfl⟩
    rw [hr]
    simp only [s336_13, s336_14, s336_15i, s336_15r, s336_15n, s336_16]
  · rw [if_neg (by decide)] at h1
    obtain ⟨v1, M2, e1, e2, e3, e4, e5, e6⟩ := h2 M1.2
    refine ⟨2, 1, M1, M2, v1, by decide, by decide, ?_, Rs_mono _ _ _ _ _ _ _ _ e1, e4, fun hz => absurd hz (by decide), e5, e6⟩
    have hr : Rs L xs (d + 41) 336 0 [some (.ref 10), some (.int w1), some (.ref 2), none] [] M 0 = Rs L xs (d + 41) 336 16 [some (.ref 10), some (.int w1), some (.ref 2), none] [] M1 1 := by
      simp only [s336_0, s336_1, s336_2, s336_3, s336_4, qx_m10, qx_m2, h1, List.length_cons, List.length_nil, Nat.zero_le, Nat.reduceAdd, Nat.reduceLeDiff, Option.bind_some, qx_kn_v, qx_kn_n, Nat.add_zero, Bool.false_eq_true, ↓reduceIte]
      exact qx_kn_c (h := (16, 3)) rfl (by decide +kernel) ⟨rfl, Nat.le_of_ble_eq_true rfl⟩
    rw [hr]
    simp only [s336_16, s336_17, s336_18, s336_19]
theorem h337 {w1 w2 : Int32} (h : qPairG Value.int B L xs (d + 40) 98 [some (.ref 10), some (.int w1), some (.int w2), none] Z zs ke021 M) : qHelp Value.int qoI B L xs d 337 [some (.ref 10), some (.int w1), some (.int w2), some (.ref 2), none] Z zs M := by
  obtain ⟨k, v, M1, h1, hk, h2⟩ := h
  have hb := qk_bd (c := Value.int) 3 h1 hk ke021_b
  rcases (by omega : k = 0 ∨ k = 1 ∨ k = 2 ∨ k = 3) with rfl | rfl | rfl | rfl
  · rw [if_pos rfl] at h1
    obtain ⟨v1, M2, e1, e2, e3, e4, e5, e6⟩ := h2 (vp_updL M1.2.1 0 v.toInt64, M1.2.2)
    refine ⟨0, 0, (M1.1, vp_updL M1.2.1 0 v.toInt64, M1.2.2), M2, v1, by decide, by decide, ?_, Rs_mono _ _ _ _ _ _ _ _ e1, e4, fun _ => ?_, e5, e6⟩
    · simp only [s337_0, s337_1, s337_2, s337_3, s337_4, s337_5, s337_8, s337_9, s337_10, s337_25, s337_26, qx_m10, qx_m2, h1, List.length_cons, List.length_nil, Nat.zero_le, Nat.reduceAdd, Nat.reduceLeDiff, Option.bind_some, qx_kn_v, qx_kn_n, Nat.add_zero, Bool.false_eq_true, ↓reduceIte]
    · rw [e3 rfl]
      unfold qoI
      rw [e2]
      rfl
  · rw [if_neg (by decide)] at h1
    obtain ⟨v1, M2, e1, e2, e3, e4, e5, e6⟩ := h2 M1.2
    refine ⟨1, 1, M1, M2, v1, by decide, by decide, ?_, Rs_mono _ _ _ _ _ _ _ _ e1, e4, fun hz => absurd hz (by decide), e5, e6⟩
    have hr : Rs L xs (d + 41) 337 0 [some (.ref 10), some (.int w1), some (.int w2), some (.ref 2), none] [] M 0 = Rs L xs (d + 41) 337 15 [some (.ref 10), some (.int w1), some (.int w2), some (.ref 2), none] [] M1 1 := by
      simp only [s337_0, s337_1, s337_2, s337_3, s337_4, s337_5, qx_m10, qx_m2, h1, List.length_cons, List.length_nil, Nat.zero_le, Nat.reduceAdd, Nat.reduceLeDiff, Option.bind_some, qx_kn_v, qx_kn_n, Nat.add_zero, Bool.false_eq_true, ↓reduceIte]
      exact qx_kn_c (h := (15, 4)) rfl (by decide +kernel) ⟨rfl, Nat.le_of_ble_eq_true rfl⟩
    rw [hr]
    simp only [s337_15, s337_16, s337_17i, s337_17r, s337_17n]
  · rw [if_neg (by decide)] at h1
    obtain ⟨v1, M2, e1, e2, e3, e4, e5, e6⟩ := h2 M1.2
    refine ⟨2, 1, M1, M2, v1, by decide, by decide, ?_, Rs_mono _ _ _ _ _ _ _ _ e1, e4, fun hz => absurd hz (by decide), e5, e6⟩
    have hr : Rs L xs (d + 41) 337 0 [some (.ref 10), some (.int w1), some (.int w2), some (.ref 2), none] [] M 0 = Rs L xs (d + 41) 337 19 [some (.ref 10), some (.int w1), some (.int w2), some (.ref 2), none] [] M1 1 := by
      simp only [s337_0, s337_1, s337_2, s337_3, s337_4, s337_5, qx_m10, qx_m2, h1, List.length_cons, List.length_nil, Nat.zero_le, Nat.reduceAdd, Nat.reduceLeDiff, Option.bind_some, qx_kn_v, qx_kn_n, Nat.add_zero, Bool.false_eq_true, ↓reduceIte]
      exact qx_kn_c (h := (19, 4)) rfl (by decide +kernel) ⟨rfl, Nat.le_of_ble_eq_true rfl⟩
    rw [hr]
    simp only [s337_19, s337_20, s337_21i, s337_21r, s337_21n]
  · rw [if_neg (by decide)] at h1
    obtain ⟨v1, M2, e1, e2, e3, e4, e5, e6⟩ := h2 M1.2
    refine ⟨3, 1, M1, M2, v1, by decide, by decide, ?_, Rs_mono _ _ _ _ _ _ _ _ e1, e4, fun hz => absurd hz (by decide), e5, e6⟩
    have hr : Rs L xs (d + 41) 337 0 [some (.ref 10), some (.int w1), some (.int w2), some (.ref 2), none] [] M 0 = Rs L xs (d + 41) 337 23 [some (.ref 10), some (.int w1), some (.int w2), some (.ref 2), none] [] M1 1 := by
      simp only [s337_0, s337_1, s337_2, s337_3, s337_4, s337_5, qx_m10, qx_m2, h1, List.length_cons, List.length_nil, Nat.zero_le, Nat.reduceAdd, Nat.reduceLeDiff, Option.bind_some, qx_kn_v, qx_kn_n, Nat.add_zero, Bool.false_eq_true, ↓reduceIte]
      exact qx_kn_c (h := (23, 4)) rfl (by decide +kernel) ⟨rfl, Nat.le_of_ble_eq_true rfl⟩
    rw [hr]
    simp only [s337_23, s337_24, s337_25, s337_26]
theorem h338 {w1 w2 : Int32} (h : qPairG Value.int B L xs (d + 40) 99 [some (.ref 10), some (.int w1), some (.int w2)] Z zs ke02 M) : qHelp Value.int qoB B L xs d 338 [some (.ref 10), some (.int w1), some (.int w2), some (.ref 2), none] Z zs M := by
  obtain ⟨k, v, M1, h1, hk, h2⟩ := h
  have hb := qk_bd (c := Value.int) 2 h1 hk ke02_b
  rcases (by omega : k = 0 ∨ k = 1 ∨ k = 2) with rfl | rfl | rfl
  · rw [if_pos rfl] at h1
    obtain ⟨v1, M2, e1, e2, e3, e4, e5, e6⟩ := h2 (vp_updL M1.2.1 0 (if v = 0 then Int64.ofNat 0 else Int64.ofNat 1), M1.2.2)
    refine ⟨0, 0, (M1.1, vp_updL M1.2.1 0 (if v = 0 then Int64.ofNat 0 else Int64.ofNat 1), M1.2.2), M2, v1, by decide, by decide, ?_, Rs_mono _ _ _ _ _ _ _ _ e1, e4, fun _ => ?_, e5, e6⟩
    · by_cases hv : v = 0
      · have hz : (v = 0) = True := eq_true hv
        simp only [s338_0, s338_1, s338_2, s338_3, s338_4, s338_5, s338_8, s338_11, s338_12, s338_15, s338_16, s338_17, s338_28, s338_29, qx_m10, qx_m2, h1, hz, List.length_cons, List.length_nil, Nat.zero_le, Nat.reduceAdd, Nat.reduceLeDiff, Option.bind_some, qx_kn_v, qx_kn_n, Nat.add_zero, Bool.false_eq_true, ↓reduceIte]
      · have hz : (v = 0) = False := eq_false hv
        simp only [s338_0, s338_1, s338_2, s338_3, s338_4, s338_5, s338_8, s338_11, s338_12, s338_15, s338_16, s338_17, s338_28, s338_29, qx_m10, qx_m2, h1, hz, List.length_cons, List.length_nil, Nat.zero_le, Nat.reduceAdd, Nat.reduceLeDiff, Option.bind_some, qx_kn_v, qx_kn_n, Nat.add_zero, Bool.false_eq_true, ↓reduceIte]
    · rw [e3 rfl]
      unfold qoB
      rw [e2]
      rfl
  · rw [if_neg (by decide)] at h1
    obtain ⟨v1, M2, e1, e2, e3, e4, e5, e6⟩ := h2 M1.2
    refine ⟨1, 1, M1, M2, v1, by decide, by decide, ?_, Rs_mono _ _ _ _ _ _ _ _ e1, e4, fun hz => absurd hz (by decide), e5, e6⟩
    have hr : Rs L xs (d + 41) 338 0 [some (.ref 10), some (.int w1), some (.int w2), some (.ref 2), none] [] M 0 = Rs L xs (d + 41) 338 22 [some (.ref 10), some (.int w1), some (.int w2), some (.ref 2), none] [] M1 1 := by
      simp only [s338_0, s338_1, s338_2, s338_3, s338_4, s338_5, qx_m10, qx_m2, h1, List.length_cons, List.length_nil, Nat.zero_le, Nat.reduceAdd, Nat.reduceLeDiff, Option.bind_some, qx_kn_v, qx_kn_n, Nat.add_zero, Bool.false_eq_true, ↓reduceIte]
      exact qx_kn_c (h := (22, 4)) rfl (by decide +kernel) ⟨rfl, Nat.le_of_ble_eq_true rfl⟩
    rw [hr]
    simp only [s338_22, s338_23, s338_24i, s338_24r, s338_24n]
  · rw [if_neg (by decide)] at h1
    obtain ⟨v1, M2, e1, e2, e3, e4, e5, e6⟩ := h2 M1.2
    refine ⟨2, 1, M1, M2, v1, by decide, by decide, ?_, Rs_mono _ _ _ _ _ _ _ _ e1, e4, fun hz => absurd hz (by decide), e5, e6⟩
    have hr : Rs L xs (d + 41) 338 0 [some (.ref 10), some (.int w1), some (.int w2), some (.ref 2), none] [] M 0 = Rs L xs (d + 41) 338 26 [some (.ref 10), some (.int w1), some (.int w2), some (.ref 2), none] [] M1 1 := by
      simp only [s338_0, s338_1, s338_2, s338_3, s338_4, s338_5, qx_m10, qx_m2, h1, List.length_cons, List.length_nil, Nat.zero_le, Nat.reduceAdd, Nat.reduceLeDiff, Option.bind_some, qx_kn_v, qx_kn_n, Nat.add_zero, Bool.false_eq_true, ↓reduceIte]
      exact qx_kn_c (h := (26, 4)) rfl (by decide +kernel) ⟨rfl, Nat.le_of_ble_eq_true rfl⟩
    rw [hr]
    simp only [s338_26, s338_27, s338_28, s338_29]
theorem h339 {w1 w2 : Int32} (h : qPairG Value.int B L xs (d + 40) 100 [some (.ref 10), some (.int w1), some (.int w2), none, none, none] Z zs ke02 M) : qHelp Value.int qoI B L xs d 339 [some (.ref 10), some (.int w1), some (.int w2), some (.ref 2), none] Z zs M := by
  obtain ⟨k, v, M1, h1, hk, h2⟩ := h
  have hb := qk_bd (c := Value.int) 2 h1 hk ke02_b
  rcases (by omega : k = 0 ∨ k = 1 ∨ k = 2) with rfl | rfl | rfl
  · rw [if_pos rfl] at h1
    obtain ⟨v1, M2, e1, e2, e3, e4, e5, e6⟩ := h2 (vp_updL M1.2.1 0 v.toInt64, M1.2.2)
    refine ⟨0, 0, (M1.1, vp_updL M1.2.1 0 v.toInt64, M1.2.2), M2, v1, by decide, by decide, ?_, Rs_mono _ _ _ _ _ _ _ _ e1, e4, fun _ => ?_, e5, e6⟩
    · simp only [s339_0, s339_1, s339_2, s339_3, s339_4, s339_5, s339_8, s339_9, s339_10, s339_21, s339_22, qx_m10, qx_m2, h1, List.length_cons, List.length_nil, Nat.zero_le, Nat.reduceAdd, Nat.reduceLeDiff, Option.bind_some, qx_kn_v, qx_kn_n, Nat.add_zero, Bool.false_eq_true, ↓reduceIte]
    · rw [e3 rfl]
      unfold qoI
      rw [e2]
      rfl
  · rw [if_neg (by decide)] at h1
    obtain ⟨v1, M2, e1, e2, e3, e4, e5, e6⟩ := h2 M1.2
    refine ⟨1, 1, M1, M2, v1, by decide, by decide, ?_, Rs_mono _ _ _ _ _ _ _ _ e1, e4, fun hz => absurd hz (by decide), e5, e6⟩
    have hr : Rs L xs (d + 41) 339 0 [some (.ref 10), some (.int w1), some (.int w2), some (.ref 2), none] [] M 0 = Rs L xs (d + 41) 339 15 [some (.ref 10), some (.int w1), some (.int w2), some (.ref 2), none] [] M1 1 := by
      simp only [s339_0, s339_1, s339_2, s339_3, s339_4, s339_5, qx_m10, qx_m2, h1, List.length_cons, List.length_nil, Nat.zero_le, Nat.reduceAdd, Nat.reduceLeDiff, Option.bind_some, qx_kn_v, qx_kn_n, Nat.add_zero, Bool.false_eq_true, ↓reduceIte]
      exact qx_kn_c (h := (15, 4)) rfl (by decide +kernel) ⟨rfl, Nat.le_of_ble_eq_true rfl⟩
    rw [hr]
    simp only [s339_15, s339_16, s339_17i, s339_17r, s339_17n]
  · rw [if_neg (by decide)] at h1
    obtain ⟨v1, M2, e1, e2, e3, e4, e5, e6⟩ := h2 M1.2
    refine ⟨2, 1, M1, M2, v1, by decide, by decide, ?_, Rs_mono _ _ _ _ _ _ _ _ e1, e4, fun hz => absurd hz (by decide), e5, e6⟩
    have hr : Rs L xs (d + 41) 339 0 [some (.ref 10), some (.int w1), some (.int w2), some (.ref 2), none] [] M 0 = Rs L xs (d + 41) 339 19 [some (.ref 10), some (.int w1), some (.int w2), some (.ref 2), none] [] M1 1 := by
      simp only [s339_0, s339_1, s339_2, s339_3, s339_4, s339_5, qx_m10, qx_m2, h1, List.length_cons, List.length_nil, Nat.zero_le, Nat.reduceAdd, Nat.reduceLeDiff, Option.bind_some, qx_kn_v, qx_kn_n, Nat.add_zero, Bool.false_eq_true, ↓reduceIte]
      exact qx_kn_c (h := (19, 4)) rfl (by decide +kernel) ⟨rfl, Nat.le_of_ble_eq_true rfl⟩
    rw [hr]
    simp only [s339_19, s339_20, s339_21, s339_22]
theorem h340 {w1 w2 : Int32} (h : qPairG Value.int B L xs (d + 40) 101 [some (.ref 10), some (.int w1), some (.int w2)] Z zs ke02 M) : qHelp Value.int qoI B L xs d 340 [some (.ref 10), some (.int w1), some (.int w2), some (.ref 2), none] Z zs M := by
  obtain ⟨k, v, M1, h1, hk, h2⟩ := h
  have hb := qk_bd (c := Value.int) 2 h1 hk ke02_b
  rcases (by omega : k = 0 ∨ k = 1 ∨ k = 2) with rfl | rfl | rfl
  · rw [if_pos rfl] at h1
    obtain ⟨v1, M2, e1, e2, e3, e4, e5, e6⟩ := h2 (vp_updL M1.2.1 0 v.toInt64, M1.2.2)
    refine ⟨0, 0, (M1.1, vp_updL M1.2.1 0 v.toInt64, M1.2.2), M2, v1, by decide, by decide, ?_, Rs_mono _ _ _ _ _ _ _ _ e1, e4, fun _ => ?_, e5, e6⟩
    · simp only [s340_0, s340_1, s340_2, s340_3, s340_4, s340_5, s340_8, s340_9, s340_10, s340_21, s340_22, qx_m10, qx_m2, h1, List.length_cons, List.length_nil, Nat.zero_le, Nat.reduceAdd, Nat.reduceLeDiff, Option.bind_some, qx_kn_v, qx_kn_n, Nat.add_zero, Bool.false_eq_true, ↓reduceIte]
    · rw [e3 rfl]
      unfold qoI
      rw [e2]
      rfl
  · rw [if_neg (by decide)] at h1
    obtain ⟨v1, M2, e1, e2, e3, e4, e5, e6⟩ := h2 M1.2
    refine ⟨1, 1, M1, M2, v1, by decide, by decide, ?_, Rs_mono _ _ _ _ _ _ _ _ e1, e4, fun hz => absurd hz (by decide), e5, e6⟩
    have hr : Rs L xs (d + 41) 340 0 [some (.ref 10), some (.int w1), some (.int w2), some (.ref 2), none] [] M 0 = Rs L xs (d + 41) 340 15 [some (.ref 10), some (.int w1), some (.int w2), some (.ref 2), none] [] M1 1 := by
      simp only [s340_0, s340_1, s340_2, s340_3, s340_4, s340_5, qx_m10, qx_m2, h1, List.length_cons, List.length_nil, Nat.zero_le, Nat.reduceAdd, Nat.reduceLeDiff, Option.bind_some, qx_kn_v, qx_kn_n, Nat.add_zero, Bool.false_eq_true, ↓reduceIte]
      exact qx_kn_c (h := (15, 4)) rfl (by decide +kernel) ⟨rfl, Nat.le_of_ble_eq_true rfl⟩
    rw [hr]
    simp only [s340_15, s340_16, s340_17i, s340_17r, s340_17n]
  · rw [if_neg (by decide)] at h1
    obtain ⟨v1, M2, e1, e2, e3, e4, e5, e6⟩ := h2 M1.2
    refine ⟨2, 1, M1, M2, v1, by decide, by decide, ?_, Rs_mono _ _ _ _ _ _ _ _ e1, e4, fun hz => absurd hz (by decide), e5, e6⟩
    have hr : Rs L xs (d + 41) 340 0 [some (.ref 10), some (.int w1), some (.int w2), some (.ref 2), none] [] M 0 = Rs L xs (d + 41) 340 19 [some (.ref 10), some (.int w1), some (.int w2), some (.ref 2), none] [] M1 1 := by
      simp only [s340_0, s340_1, s340_2, s340_3, s340_4, s340_5, qx_m10, qx_m2, h1, List.length_cons, List.length_nil, Nat.zero_le, Nat.reduceAdd, Nat.reduceLeDiff, Option.bind_some, qx_kn_v, qx_kn_n, Nat.add_zero, Bool.false_eq_true, ↓reduceIte]
      exact qx_kn_c (h := (19, 4)) rfl (by decide +kernel) ⟨rfl, Nat.le_of_ble_eq_true rfl⟩
    rw [hr]
    simp only [s340_19, s340_20, s340_21, s340_22]
theorem h341 {w1 : Int32} (h : qPairG Value.int B L xs (d + 40) 103 [some (.ref 10), some (.int w1), none] Z zs ke01 M) : qHelp Value.int qoI B L xs d 341 [some (.ref 10), some (.int w1), some (.ref 2), none] Z zs M := by
  obtain ⟨k, v, M1, h1, hk, h2⟩ := h
  have hb := qk_bd (c := Value.int) 2 h1 hk ke01_b
  rcases (by omega : k = 0 ∨ k = 1 ∨ k = 2) with rfl | rfl | rfl
  · rw [if_pos rfl] at h1
    obtain ⟨v1, M2, e1, e2, e3, e4, e5, e6⟩ := h2 (vp_updL M1.2.1 0 v.toInt64, M1.2.2)
    refine ⟨0, 0, (M1.1, vp_updL M1.2.1 0 v.toInt64, M1.2.2), M2, v1, by decide, by decide, ?_, Rs_mono _ _ _ _ _ _ _ _ e1, e4, fun _ => ?_, e5, e6⟩
    · simp only [s341_0, s341_1, s341_2, s341_3, s341_4, s341_7, s341_8, s341_9, s341_18, s341_19, qx_m10, qx_m2, h1, List.length_cons, List.length_nil, Nat.zero_le, Nat.reduceAdd, Nat.reduceLeDiff, Option.bind_some, qx_kn_v, qx_kn_n, Nat.add_zero, Bool.false_eq_true, ↓reduceIte]
    · rw [e3 rfl]
      unfold qoI
      rw [e2]
      rfl
  · rw [if_neg (by decide)] at h1
    obtain ⟨v1, M2, e1, e2, e3, e4, e5, e6⟩ := h2 M1.2
    refine ⟨1, 1, M1, M2, v1, by decide, by decide, ?_, Rs_mono _ _ _ _ _ _ _ _ e1, e4, fun hz => absurd hz (by decide), e5, e6⟩
    have hr : Rs L xs (d + 41) 341 0 [some (.ref 10), some (.int w1), some (.ref 2), none] [] M 0 = Rs L xs (d + 41) 341 13 [some (.ref 10), some (.int w1), some (.ref 2), none] [] M1 1 := by
      simp only [s341_0, s341_1, s341_2, s341_3, s341_4, qx_m10, qx_m2, h1, List.length_cons, List.length_nil, Nat.zero_le, Nat.reduceAdd, Nat.reduceLeDiff, Option.bind_some, qx_kn_v, qx_kn_n, Nat.add_zero, Bool.false_eq_true, ↓reduceIte]
      exact qx_kn_c (h := (13, 3)) rfl (by decide +kernel) ⟨rfl, Nat.le_of_ble_eq_true rfl⟩
    rw [hr]
    simp only [s341_13, s341_14, s341_15i, s341_15r, s341_15n, s341_16]
  · rw [if_neg (by decide)] at h1
    obtain ⟨v1, M2, e1, e2, e3, e4, e5, e6⟩ := h2 M1.2
    refine ⟨2, 1, M1, M2, v1, by decide, by decide, ?_, Rs_mono _ _ _ _ _ _ _ _ e1, e4, fun hz => absurd hz (by decide), e5, e6⟩
    have hr : Rs L xs (d + 41) 341 0 [some (.ref 10), some (.int w1), some (.ref 2), none] [] M 0 = Rs L xs (d + 41) 341 16 [some (.ref 10), some (.int w1), some (.ref 2), none] [] M1 1 := by
      simp only [s341_0, s341_1, s341_2, s341_3, s341_4, qx_m10, qx_m2, h1, List.length_cons, List.length_nil, Nat.zero_le, Nat.reduceAdd, Nat.reduceLeDiff, Option.bind_some, qx_kn_v, qx_kn_n, Nat.add_zero, Bool.false_eq_true, ↓reduceIte]
      exact qx_kn_c (h := (16, 3)) rfl (by decide +kernel) ⟨rfl, Nat.le_of_ble_eq_true rfl⟩
    rw [hr]
    simp only [s341_16, s341_17, s341_18, s341_19]
theorem h342 {w1 : Int32} (h : qPairG Value.int B L xs (d + 40) 104 [some (.ref 10), some (.int w1)] Z zs ke02 M) : qHelp Value.int qoI B L xs d 342 [some (.ref 10), some (.int w1), some (.ref 2), none] Z zs M := by
  obtain ⟨k, v, M1, h1, hk, h2⟩ := h
  have hb := qk_bd (c := Value.int) 2 h1 hk ke02_b
  rcases (by omega : k = 0 ∨ k = 1 ∨ k = 2) with rfl | rfl | rfl
  · rw [if_pos rfl] at h1
    obtain ⟨v1, M2, e1, e2, e3, e4, e5, e6⟩ := h2 (vp_updL M1.2.1 0 v.toInt64, M1.2.2)
    refine ⟨0, 0, (M1.1, vp_updL M1.2.1 0 v.toInt64, M1.2.2), M2, v1, by decide, by decide, ?_, Rs_mono _ _ _ _ _ _ _ _ e1, e4, fun _ => ?_, e5, e6⟩
    · simp only [s342_0, s342_1, s342_2, s342_3, s342_4, s342_7, s342_8, s342_9, s342_18, s342_19, qx_m10, qx_m2, h1, List.length_cons, List.length_nil, Nat.zero_le, Nat.reduceAdd, Nat.reduceLeDiff, Option.bind_some, qx_kn_v, qx_kn_n, Nat.add_zero, Bool.false_eq_true, ↓reduceIte]
    · rw [e3 rfl]
      unfold qoI
      rw [e2]
      rfl
  · rw [if_neg (by decide)] at h1
    obtain ⟨v1, M2, e1, e2, e3, e4, e5, e6⟩ := h2 M1.2
    refine ⟨1, 1, M1, M2, v1, by decide, by decide, ?_, Rs_mono _ _ _ _ _ _ _ _ e1, e4, fun hz => absurd hz (by decide), e5, e6⟩
    have hr : Rs L xs (d + 41) 342 0 [some (.ref 10), some (.int w1), some (.ref 2), none] [] M 0 = Rs L xs (d + 41) 342 13 [some (.ref 10), some (.int w1), some (.ref 2), none] [] M1 1 := by
      simp only [s342_0, s342_1, s342_2, s342_3, s342_4, qx_m10, qx_m2, h1, List.length_cons, List.length_nil, Nat.zero_le, Nat.reduceAdd, Nat.reduceLeDiff, Option.bind_some, qx_kn_v, qx_kn_n, Nat.add_zero, Bool.false_eq_true, ↓reduceIte]
      exact qx_kn_c (h := (13, 3)) rfl (by decide +kernel) ⟨rfl, Nat.le_of_ble_eq_true rfl⟩
    rw [hr]
    simp only [s342_13, s342_14, s342_15i, s342_15r, s342_15n, s342_16]
  · rw [if_neg (by decide)] at h1
    obtain ⟨v1, M2, e1, e2, e3, e4, e5, e6⟩ := h2 M1.2
    refine ⟨2, 1, M1, M2, v1, by decide, by decide, ?_, Rs_mono _ _ _ _ _ _ _ _ e1, e4, fun hz => absurd hz (by decide), e5, e6⟩
    have hr : Rs L xs (d + 41) 342 0 [some (.ref 10), some (.int w1), some (.ref 2), none] [] M 0 = Rs L xs (d + 41) 342 16 [some (.ref 10), some (.int w1), some (.ref 2), none] [] M1 1 := by
      simp only [s342_0, s342_1, s342_2, s342_3, s342_4, qx_m10, qx_m2, h1, List.length_cons, List.length_nil, Nat.zero_le, Nat.reduceAdd, Nat.reduceLeDiff, Option.bind_some, qx_kn_v, qx_kn_n, Nat.add_zero, Bool.false_eq_true, ↓reduceIte]
      exact qx_kn_c (h := (16, 3)) rfl (by decide +kernel) ⟨rfl, Nat.le_of_ble_eq_true rfl⟩
    rw [hr]
    simp only [s342_16, s342_17, s342_18, s342_19]
theorem h343 {w1 : Int32} (h : qPairG Value.int B L xs (d + 40) 105 [some (.ref 10), some (.int w1)] Z zs ke02 M) : qHelp Value.int qoI B L xs d 343 [some (.ref 10), some (.int w1), some (.ref 2), none] Z zs M := by
  obtain ⟨k, v, M1, h1, hk, h2⟩ := h
  have hb := qk_bd (c := Value.int) 2 h1 hk ke02_b
  rcases (by omega : k = 0 ∨ k = 1 ∨ k = 2) with rfl | rfl | rfl
  · rw [if_pos rfl] at h1
    obtain ⟨v1, M2, e1, e2, e3, e4, e5, e6⟩ := h2 (vp_updL M1.2.1 0 v.toInt64, M1.2.2)
    refine ⟨0, 0, (M1.1, vp_updL M1.2.1 0 v.toInt64, M1.2.2), M2, v1, by decide, by decide, ?_, Rs_mono _ _ _ _ _ _ _ _ e1, e4, fun _ => ?_, e5, e6⟩
    · simp only [s343_0, s343_1, s343_2, s343_3, s343_4, s343_7, s343_8, s343_9, s343_18, s343_19, qx_m10, qx_m2, h1, List.length_cons, List.length_nil, Nat.zero_le, Nat.reduceAdd, Nat.reduceLeDiff, Option.bind_some, qx_kn_v, qx_kn_n, Nat.add_zero, Bool.false_eq_true, ↓reduceIte]
    · rw [e3 rfl]
      unfold qoI
      rw [e2]
      rfl
  · rw [if_neg (by decide)] at h1
    obtain ⟨v1, M2, e1, e2, e3, e4, e5, e6⟩ := h2 M1.2
    refine ⟨1, 1, M1, M2, v1, by decide, by decide, ?_, Rs_mono _ _ _ _ _ _ _ _ e1, e4, fun hz => absurd hz (by decide), e5, e6⟩
    have hr : Rs L xs (d + 41) 343 0 [some (.ref 10), some (.int w1), some (.ref 2), none] [] M 0 = Rs L xs (d + 41) 343 13 [some (.ref 10), some (.int w1), some (.ref 2), none] [] M1 1 := by
      simp only [s343_0, s343_1, s343_2, s343_3, s343_4, qx_m10, qx_m2, h1, List.length_cons, List.length_nil, Nat.zero_le, Nat.reduceAdd, Nat.reduceLeDiff, Option.bind_some, qx_kn_v, qx_kn_n, Nat.add_zero, Bool.false_eq_true, ↓reduceIte]
      exact qx_kn_c (h := (13, 3)) rfl (by decide +kernel) ⟨rfl, Nat.le_of_ble_eq_true rfl⟩
    rw [hr]
    simp only [s343_13, s343_14, s343_15i, s343_15r, s343_15n, s343_16]
  · rw [if_neg (by decide)] at h1
    obtain ⟨v1, M2, e1, e2, e3, e4, e5, e6⟩ := h2 M1.2
    refine ⟨2, 1, M1, M2, v1, by decide, by decide, ?_, Rs_mono _ _ _ _ _ _ _ _ e1, e4, fun hz => absurd hz (by decide), e5, e6⟩
    have hr : Rs L xs (d + 41) 343 0 [some (.ref 10), some (.int w1), some (.ref 2), none] [] M 0 = Rs L xs (d + 41) 343 16 [some (.ref 10), some (.int w1), some (.ref 2), none] [] M1 1 := by
      simp only [s343_0, s343_1, s343_2, s343_3, s343_4, qx_m10, qx_m2, h1, List.length_cons, List.length_nil, Nat.zero_le, Nat.reduceAdd, Nat.reduceLeDiff, Option.bind_some, qx_kn_v, qx_kn_n, Nat.add_zero, Bool.false_eq_true, ↓reduceIte]
      exact qx_kn_c (h := (16, 3)) rfl (by decide +kernel) ⟨rfl, Nat.le_of_ble_eq_true rfl⟩
    rw [hr]
    simp only [s343_16, s343_17, s343_18, s343_19]
theorem h344 {w1 : Int32} (h : qPairG Value.int B L xs (d + 40) 107 [some (.ref 10), some (.int w1)] Z zs ke02 M) : qHelp Value.int qoI B L xs d 344 [some (.ref 10), some (.int w1), some (.ref 2), none] Z zs M := by
  obtain ⟨k, v, M1, h1, hk, h2⟩ := h
  have hb := qk_bd (c := Value.int) 2 h1 hk ke02_b
  rcases (by omega : k = 0 ∨ k = 1 ∨ k = 2) with rfl | rfl | rfl
  · rw [if_pos rfl] at h1
    obtain ⟨v1, M2, e1, e2, e3, e4, e5, e6⟩ := h2 (vp_updL M1.2.1 0 v.toInt64, M1.2.2)
    refine ⟨0, 0, (M1.1, vp_updL M1.2.1 0 v.toInt64, M1.2.2), M2, v1, by decide, by decide, ?_, Rs_mono _ _ _ _ _ _ _ _ e1, e4, fun _ => ?_, e5, e6⟩
    · simp only [s344_0, s344_1, s344_2, s344_3, s344_4, s344_7, s344_8, s344_9, s344_18, s344_19, qx_m10, qx_m2, h1, List.length_cons, List.length_nil, Nat.zero_le, Nat.reduceAdd, Nat.reduceLeDiff, Option.bind_some, qx_kn_v, qx_kn_n, Nat.add_zero, Bool.false_eq_true, ↓reduceIte]
    · rw [e3 rfl]
      unfold qoI
      rw [e2]
      rfl
  · rw [if_neg (by decide)] at h1
    obtain ⟨v1, M2, e1, e2, e3, e4, e5, e6⟩ := h2 M1.2
    refine ⟨1, 1, M1, M2, v1, by decide, by decide, ?_, Rs_mono _ _ _ _ _ _ _ _ e1, e4, fun hz => absurd hz (by decide), e5, e6⟩
    have hr : Rs L xs (d + 41) 344 0 [some (.ref 10), some (.int w1), some (.ref 2), none] [] M 0 = Rs L xs (d + 41) 344 13 [some (.ref 10), some (.int w1), some (.ref 2), none] [] M1 1 := by
      simp only [s344_0, s344_1, s344_2, s344_3, s344_4, qx_m10, qx_m2, h1, List.length_cons, List.length_nil, Nat.zero_le, Nat.reduceAdd, Nat.reduceLeDiff, Option.bind_some, qx_kn_v, qx_kn_n, Nat.add_zero, Bool.false_eq_true, ↓reduceIte]
      exact qx_kn_c (h := (13, 3)) rfl (by decide +kernel) ⟨rfl, Nat.le_of_ble_eq_true rfl⟩
    rw [hr]
    simp only [s344_13, s344_14, s344_15i, s344_15r, s344_15n, s344_16]
  · rw [if_neg (by decide)] at h1
    obtain ⟨v1, M2, e1, e2, e3, e4, e5, e6⟩ := h2 M1.2
    refine ⟨2, 1, M1, M2, v1, by decide, by decide, ?_, Rs_mono _ _ _ _ _ _ _ _ e1, e4, fun hz => absurd hz (by decide), e5, e6⟩
    have hr : Rs L xs (d + 41) 344 0 [some (.ref 10), some (.int w1), some (.ref 2), none] [] M 0 = Rs L xs (d + 41) 344 16 [some (.ref 10), some (.int w1), some (.ref 2), none] [] M1 1 := by
      simp only [s344_0, s344_1, s344_2, s344_3, s344_4, qx_m10, qx_m2, h1, List.length_cons, List.length_nil, Nat.zero_le, Nat.reduceAdd, Nat.reduceLeDiff, Option.bind_some, qx_kn_v, qx_kn_n, Nat.add_zero, Bool.false_eq_true, ↓reduceIte]
      exact qx_kn_c (h := (16, 3)) rfl (by decide +kernel) ⟨rfl, Nat.le_of_ble_eq_true rfl⟩
    rw [hr]
    simp only [s344_16, s344_17, s344_18, s344_19]
theorem h345 {w1 : Int32} (h : qPairG Value.int B L xs (d + 40) 108 [some (.ref 10), some (.int w1)] Z zs ke02 M) : qHelp Value.int qoI B L xs d 345 [some (.ref 10), some (.int w1), some (.ref 2), none] Z zs M := by
  obtain ⟨k, v, M1, h1, hk, h2⟩ := h
  have hb := qk_bd (c := Value.int) 2 h1 hk ke02_b
  rcases (by omega : k = 0 ∨ k = 1 ∨ k = 2) with rfl | rfl | rfl
  · rw [if_pos rfl] at h1
    obtain ⟨v1, M2, e1, e2, e3, e4, e5, e6⟩ := h2 (vp_updL M1.2.1 0 v.toInt64, M1.2.2)
    refine ⟨0, 0, (M1.1, vp_updL M1.2.1 0 v.toInt64, M1.2.2), M2, v1, by decide, by decide, ?_, Rs_mono _ _ _ _ _ _ _ _ e1, e4, fun _ => ?_, e5, e6⟩
    · simp only [s345_0, s345_1, s345_2, s345_3, s345_4, s345_7, s345_8, s345_9, s345_18, s345_19, qx_m10, qx_m2, h1, List.length_cons, List.length_nil, Nat.zero_le, Nat.reduceAdd, Nat.reduceLeDiff, Option.bind_some, qx_kn_v, qx_kn_n, Nat.add_zero, Bool.false_eq_true, ↓reduceIte]
    · rw [e3 rfl]
      unfold qoI
      rw [e2]
      rfl
  · rw [if_neg (by decide)] at h1
    obtain ⟨v1, M2, e1, e2, e3, e4, e5, e6⟩ := h2 M1.2
    refine ⟨1, 1, M1, M2, v1, by decide, by decide, ?_, Rs_mono _ _ _ _ _ _ _ _ e1, e4, fun hz => absurd hz (by decide), e5, e6⟩
    have hr : Rs L xs (d + 41) 345 0 [some (.ref 10), some (.int w1), some (.ref 2), none] [] M 0 = Rs L xs (d + 41) 345 13 [some (.ref 10), some (.int w1), some (.ref 2), none] [] M1 1 := by
      simp only [s345_0, s345_1, s345_2, s345_3, s345_4, qx_m10, qx_m2, h1, List.length_cons, List.length_nil, Nat.zero_le, Nat.reduceAdd, Nat.reduceLeDiff, Option.bind_some, qx_kn_v, qx_kn_n, Nat.add_zero, Bool.false_eq_true, ↓reduceIte]
      exact qx_kn_c (h := (13, 3)) rfl (by decide +kernel) ⟨rfl, Nat.le_of_ble_eq_true rfl⟩
    rw [hr]
    simp only [s345_13, s345_14, s345_15i, s345_15r, s345_15n, s345_16]
  · rw [if_neg (by decide)] at h1
    obtain ⟨v1, M2, e1, e2, e3, e4, e5, e6⟩ := h2 M1.2
    refine ⟨2, 1, M1, M2, v1, by decide, by decide, ?_, Rs_mono _ _ _ _ _ _ _ _ e1, e4, fun hz => absurd hz (by decide), e5, e6⟩
    have hr : Rs L xs (d + 41) 345 0 [some (.ref 10), some (.int w1), some (.ref 2), none] [] M 0 = Rs L xs (d + 41) 345 16 [some (.ref 10), some (.int w1), some (.ref 2), none] [] M1 1 := by
      simp only [s345_0, s345_1, s345_2, s345_3, s345_4, qx_m10, qx_m2, h1, List.length_cons, List.length_nil, Nat.zero_le, Nat.reduceAdd, Nat.reduceLeDiff, Option.bind_some, qx_kn_v, qx_kn_n, Nat.add_zero, Bool.false_eq_true, ↓reduceIte]
      exact qx_kn_c (h := (16, 3)) rfl (by decide +kernel) ⟨rfl, Nat.le_of_ble_eq_true rfl⟩
    rw [hr]
    simp only [s345_16, s345_17, s345_18, s345_19]
theorem h346 {w1 w2 : Int32} (h : qPairG Value.int B L xs (d + 40) 109 [some (.ref 10), some (.int w1), some (.int w2)] Z zs ke02 M) : qHelp Value.int qoI B L xs d 346 [some (.ref 10), some (.int w1), some (.int w2), some (.ref 2), none] Z zs M := by
  obtain ⟨k, v, M1, h1, hk, h2⟩ := h
  have hb := qk_bd (c := Value.int) 2 h1 hk ke02_b
  rcases (by omega : k = 0 ∨ k = 1 ∨ k = 2) with rfl | rfl | rfl
  · rw [if_pos rfl] at h1
    obtain ⟨v1, M2, e1, e2, e3, e4, e5, e6⟩ := h2 (vp_updL M1.2.1 0 v.toInt64, M1.2.2)
    refine ⟨0, 0, (M1.1, vp_updL M1.2.1 0 v.toInt64, M1.2.2), M2, v1, by decide, by decide, ?_, Rs_mono _ _ _ _ _ _ _ _ e1, e4, fun _ => ?_, e5, e6⟩
    · simp only [s346_0, s346_1, s346_2, s346_3, s346_4, s346_5, s346_8, s346_9, s346_10, s346_21, s346_22, qx_m10, qx_m2, h1, List.length_cons, List.length_nil, Nat.zero_le, Nat.reduceAdd, Nat.reduceLeDiff, Option.bind_some, qx_kn_v, qx_kn_n, Nat.add_zero, Bool.false_eq_true, ↓reduceIte]
    · rw [e3 rfl]
      unfold qoI
      rw [e2]
      rfl
  · rw [if_neg (by decide)] at h1
    obtain ⟨v1, M2, e1, e2, e3, e4, e5, e6⟩ := h2 M1.2
    refine ⟨1, 1, M1, M2, v1, by decide, by decide, ?_, Rs_mono _ _ _ _ _ _ _ _ e1, e4, fun hz => absurd hz (by decide), e5, e6⟩
    have hr : Rs L xs (d + 41) 346 0 [some (.ref 10), some (.int w1), some (.int w2), some (.ref 2), none] [] M 0 = Rs L xs (d + 41) 346 15 [some (.ref 10), some (.int w1), some (.int w2), some (.ref 2), none] [] M1 1 := by
      simp only [s346_0, s346_1, s346_2, s346_3, s346_4, s346_5, qx_m10, qx_m2, h1, List.length_cons, List.length_nil, Nat.zero_le, Nat.reduceAdd, Nat.reduceLeDiff, Option.bind_some, qx_kn_v, qx_kn_n, Nat.add_zero, Bool.false_eq_true, ↓reduceIte]
      exact qx_kn_c (h := (15, 4)) rfl (by decide +kernel) ⟨rfl, Nat.le_of_ble_eq_true rfl⟩
    rw [hr]
    simp only [s346_15, s346_16, s346_17i, s346_17r, s346_17n]
  · rw [if_neg (by decide)] at h1
    obtain ⟨v1, M2, e1, e2, e3, e4, e5, e6⟩ := h2 M1.2
    refine ⟨2, 1, M1, M2, v1, by decide, by decide, ?_, Rs_mono _ _ _ _ _ _ _ _ e1, e4, fun hz => absurd hz (by decide), e5, e6⟩
    have hr : Rs L xs (d + 41) 346 0 [some (.ref 10), some (.int w1), some (.int w2), some (.ref 2), none] [] M 0 = Rs L xs (d + 41) 346 19 [some (.ref 10), some (.int w1), some (.int w2), some (.ref 2), none] [] M1 1 := by
      simp only [s346_0, s346_1, s346_2, s346_3, s346_4, s346_5, qx_m10, qx_m2, h1, List.length_cons, List.length_nil, Nat.zero_le, Nat.reduceAdd, Nat.reduceLeDiff, Option.bind_some, qx_kn_v, qx_kn_n, Nat.add_zero, Bool.false_eq_true, ↓reduceIte]
      exact qx_kn_c (h := (19, 4)) rfl (by decide +kernel) ⟨rfl, Nat.le_of_ble_eq_true rfl⟩
    rw [hr]
    simp only [s346_19, s346_20, s346_21, s346_22]
theorem h347 {w1 : Int32} (h : qPairG Value.int B L xs (d + 40) 110 [some (.ref 10), some (.int w1)] Z zs ke0 M) : qHelp Value.int qoI B L xs d 347 [some (.ref 10), some (.int w1), some (.ref 2), none] Z zs M := by
  obtain ⟨k, v, M1, h1, hk, h2⟩ := h
  have hb := qk_bd (c := Value.int) 1 h1 hk ke0_b
  rcases (by omega : k = 0 ∨ k = 1) with rfl | rfl
  · rw [if_pos rfl] at h1
    obtain ⟨v1, M2, e1, e2, e3, e4, e5, e6⟩ := h2 (vp_updL M1.2.1 0 v.toInt64, M1.2.2)
    refine ⟨0, 0, (M1.1, vp_updL M1.2.1 0 v.toInt64, M1.2.2), M2, v1, by decide, by decide, ?_, Rs_mono _ _ _ _ _ _ _ _ e1, e4, fun _ => ?_, e5, e6⟩
    · simp only [s347_0, s347_1, s347_2, s347_3, s347_4, s347_7, s347_8, s347_9, s347_15, s347_16, qx_m10, qx_m2, h1, List.length_cons, List.length_nil, Nat.zero_le, Nat.reduceAdd, Nat.reduceLeDiff, Option.bind_some, qx_kn_v, qx_kn_n, Nat.add_zero, Bool.false_eq_true, ↓reduceIte]
    · rw [e3 rfl]
      unfold qoI
      rw [e2]
      rfl
  · rw [if_neg (by decide)] at h1
    obtain ⟨v1, M2, e1, e2, e3, e4, e5, e6⟩ := h2 M1.2
    refine ⟨1, 1, M1, M2, v1, by decide, by decide, ?_, Rs_mono _ _ _ _ _ _ _ _ e1, e4, fun hz => absurd hz (by decide), e5, e6⟩
    have hr : Rs L xs (d + 41) 347 0 [some (.ref 10), some (.int w1), some (.ref 2), none] [] M 0 = Rs L xs (d + 41) 347 13 [some (.ref 10), some (.int w1), some (.ref 2), none] [] M1 1 := by
      simp only [s347_0, s347_1, s347_2, s347_3, s347_4, qx_m10, qx_m2, h1, List.length_cons, List.length_nil, Nat.zero_le, Nat.reduceAdd, Nat.reduceLeDiff, Option.bind_some, qx_kn_v, qx_kn_n, Nat.add_zero, Bool.false_eq_true, ↓reduceIte]
      exact qx_kn_c (h := (13, 3)) rfl (by decide +kernel) ⟨rfl, Nat.le_of_ble_eq_true rfl⟩
    rw [hr]
    simp only [s347_13, s347_14, s347_15, s347_16]
theorem h348 (h : qPairG Value.int B L xs (d + 40) 111 [some (.ref 10), none] Z zs ke0 M) : qHelp Value.int qoI B L xs d 348 [some (.ref 10), some (.ref 2), none] Z zs M := by
  obtain ⟨k, v, M1, h1, hk, h2⟩ := h
  have hb := qk_bd (c := Value.int) 1 h1 hk ke0_b
  rcases (by omega : k = 0 ∨ k = 1) with rfl | rfl
  · rw [if_pos rfl] at h1
    obtain ⟨v1, M2, e1, e2, e3, e4, e5, e6⟩ := h2 (vp_updL M1.2.1 0 v.toInt64, M1.2.2)
    refine ⟨0, 0, (M1.1, vp_updL M1.2.1 0 v.toInt64, M1.2.2), M2, v1, by decide, by decide, ?_, Rs_mono _ _ _ _ _ _ _ _ e1, e4, fun _ => ?_, e5, e6⟩
    · simp only [s348_0, s348_1, s348_2, s348_3, s348_6, s348_7, s348_8, s348_14, s348_15, qx_m10, qx_m2, h1, List.length_cons, List.length_nil, Nat.zero_le, Nat.reduceAdd, Nat.reduceLeDiff, Option.bind_some, qx_kn_v, qx_kn_n, Nat.add_zero, Bool.false_eq_true, ↓reduceIte]
    · rw [e3 rfl]
      unfold qoI
      rw [e2]
      rfl
  · rw [if_neg (by decide)] at h1
    obtain ⟨v1, M2, e1, e2, e3, e4, e5, e6⟩ := h2 M1.2
    refine ⟨1, 1, M1, M2, v1, by decide, by decide, ?_, Rs_mono _ _ _ _ _ _ _ _ e1, e4, fun hz => absurd hz (by decide), e5, e6⟩
    have hr : Rs L xs (d + 41) 348 0 [some (.ref 10), some (.ref 2), none] [] M 0 = Rs L xs (d + 41) 348 12 [some (.ref 10), some (.ref 2), none] [] M1 1 := by
      simp only [s348_0, s348_1, s348_2, s348_3, qx_m10, qx_m2, h1, List.length_cons, List.length_nil, Nat.zero_le, Nat.reduceAdd, Nat.reduceLeDiff, Option.bind_some, qx_kn_v, qx_kn_n, Nat.add_zero, Bool.false_eq_true, ↓reduceIte]
      exact qx_kn_c (h := (12, 2)) rfl (by decide +kernel) ⟨rfl, Nat.le_of_ble_eq_true rfl⟩
    rw [hr]
    simp only [s348_12, s348_13, s348_14, s348_15]
theorem h349 {w1 : Int32} (h : qPairG Value.int B L xs (d + 40) 112 [some (.ref 10), some (.int w1)] Z zs ke02 M) : qHelp Value.int qoI B L xs d 349 [some (.ref 10), some (.int w1), some (.ref 2), none] Z zs M := by
  obtain ⟨k, v, M1, h1, hk, h2⟩ := h
  have hb := qk_bd (c := Value.int) 2 h1 hk ke02_b
  rcases (by omega : k = 0 ∨ k = 1 ∨ k = 2) with rfl | rfl | rfl
  · rw [if_pos rfl] at h1
    obtain ⟨v1, M2, e1, e2, e3, e4, e5, e6⟩ := h2 (vp_updL M1.2.1 0 v.toInt64, M1.2.2)
    refine ⟨0, 0, (M1.1, vp_updL M1.2.1 0 v.toInt64, M1.2.2), M2, v1, by decide, by decide, ?_, Rs_mono _ _ _ _ _ _ _ _ e1, e4, fun _ => ?_, e5, e6⟩
    · simp only [s349_0, s349_1, s349_2, s349_3, s349_4, s349_7, s349_8, s349_9, s349_18, s349_19, qx_m10, qx_m2, h1, List.length_cons, List.length_nil, Nat.zero_le, Nat.reduceAdd, Nat.reduceLeDiff, Option.bind_some, qx_kn_v, qx_kn_n, Nat.add_zero, Bool.false_eq_true, ↓reduceIte]
    · rw [e3 rfl]
      unfold qoI
      rw [e2]
      rfl
  · rw [if_neg (by decide)] at h1
    obtain ⟨v1, M2, e1, e2, e3, e4, e5, e6⟩ := h2 M1.2
    refine ⟨1, 1, M1, M2, v1, by decide, by decide, ?_, Rs_mono _ _ _ _ _ _ _ _ e1, e4, fun hz => absurd hz (by decide), e5, e6⟩
    have hr : Rs L xs (d + 41) 349 0 [some (.ref 10), some (.int w1), some (.ref 2), none] [] M 0 = Rs L xs (d + 41) 349 13 [some (.ref 10), some (.int w1), some (.ref 2), none] [] M1 1 := by
      simp only [s349_0, s349_1, s349_2, s349_3, s349_4, qx_m10, qx_m2, h1, List.length_cons, List.length_nil, Nat.zero_le, Nat.reduceAdd, Nat.reduceLeDiff, Option.bind_some, qx_kn_v, qx_kn_n, Nat.add_zero, Bool.false_eq_true, ↓reduceIte]
      exact qx_kn_c (h := (13, 3)) rfl (by decide +kernel) ⟨rfl, Nat.le_of_ble_eq_true rfl⟩
    rw [hr]
    simp only [s349_13, s349_14, s349_15i, s349_15r, s349_15n, s349_16]
  · rw [if_neg (by decide)] at h1
    obtain ⟨v1, M2, e1, e2, e3, e4, e5, e6⟩ := h2 M1.2
    refine ⟨2, 1, M1, M2, v1, by decide, by decide, ?_, Rs_mono _ _ _ _ _ _ _ _ e1, e4, fun hz => absurd hz (by decide), e5, e6⟩
    have hr : Rs L xs (d + 41) 349 0 [some (.ref 10), some (.int w1), some (.ref 2), none] [] M 0 = Rs L xs (d + 41) 349 16 [some (.ref 10), some (.int w1), some (.ref 2), none] [] M1 1 := by
      simp only [s349_0, s349_1, s349_2, s349_3, s349_4, qx_m10, qx_m2, h1, List.length_cons, List.length_nil, Nat.zero_le, Nat.reduceAdd, Nat.reduceLeDiff, Option.bind_some, qx_kn_v, qx_kn_n, Nat.add_zero, Bool.false_eq_true, ↓reduceIte]
      exact qx_kn_c (h := (16, 3)) rfl (by decide +kernel) ⟨rfl, Nat.le_of_ble_eq_true rfl⟩
    rw [hr]
    simp only [s349_16, s349_17, s349_18, s349_19]
theorem h350 {w1 w2 : Int32} (h : qPairG Value.int B L xs (d + 40) 113 [some (.ref 10), some (.int w1), some (.int w2)] Z zs ke02 M) : qHelp Value.int qoI B L xs d 350 [some (.ref 10), some (.int w1), some (.int w2), some (.ref 2), none] Z zs M := by
  obtain ⟨k, v, M1, h1, hk, h2⟩ := h
  have hb := qk_bd (c := Value.int) 2 h1 hk ke02_b
  rcases (by omega : k = 0 ∨ k = 1 ∨ k = 2) with rfl | rfl | rfl
  · rw [if_pos rfl] at h1
    obtain ⟨v1, M2, e1, e2, e3, e4, e5, e6⟩ := h2 (vp_updL M1.2.1 0 v.toInt64, M1.2.2)
    refine ⟨0, 0, (M1.1, vp_updL M1.2.1 0 v.toInt64, M1.2.2), M2, v1, by decide, by decide, ?_, Rs_mono _ _ _ _ _ _ _ _ e1, e4, fun _ => ?_, e5, e6⟩
    · simp only [s350_0, s350_1, s350_2, s350_3, s350_4, s350_5, s350_8, s350_9, s350_10, s350_21, s350_22, qx_m10, qx_m2, h1, List.length_cons, List.length_nil, Nat.zero_le, Nat.reduceAdd, Nat.reduceLeDiff, Option.bind_some, qx_kn_v, qx_kn_n, Nat.add_zero, Bool.false_eq_true, ↓reduceIte]
    · rw [e3 rfl]
      unfold qoI
      rw [e2]
      rfl
  · rw [if_neg (by decide)] at h1
    obtain ⟨v1, M2, e1, e2, e3, e4, e5, e6⟩ := h2 M1.2
    refine ⟨1, 1, M1, M2, v1, by decide, by decide, ?_, Rs_mono _ _ _ _ _ _ _ _ e1, e4, fun hz => absurd hz (by decide), e5, e6⟩
    have hr : Rs L xs (d + 41) 350 0 [some (.ref 10), some (.int w1), some (.int w2), some (.ref 2), none] [] M 0 = Rs L xs (d + 41) 350 15 [some (.ref 10), some (.int w1), some (.int w2), some (.ref 2), none] [] M1 1 := by
      simp only [s350_0, s350_1, s350_2, s350_3, s350_4, s350_5, qx_m10, qx_m2, h1, List.length_cons, List.length_nil, Nat.zero_le, Nat.reduceAdd, Nat.reduceLeDiff, Option.bind_some, qx_kn_v, qx_kn_n, Nat.add_zero, Bool.false_eq_true, ↓reduceIte]
      exact qx_kn_c (h := (15, 4)) rfl (by decide +kernel) ⟨rfl, Nat.le_of_ble_eq_true rfl⟩
    rw [hr]
    simp only [s350_15, s350_16, s350_17i, s350_17r, s350_17n]
  · rw [if_neg (by decide)] at h1
    obtain ⟨v1, M2, e1, e2, e3, e4, e5, e6⟩ := h2 M1.2
    refine ⟨2, 1, M1, M2, v1, by decide, by decide, ?_, Rs_mono _ _ _ _ _ _ _ _ e1, e4, fun hz => absurd hz (by decide), e5, e6⟩
    have hr : Rs L xs (d + 41) 350 0 [some (.ref 10), some (.int w1), some (.int w2), some (.ref 2), none] [] M 0 = Rs L xs (d + 41) 350 19 [some (.ref 10), some (.int w1), some (.int w2), some (.ref 2), none] [] M1 1 := by
      simp only [s350_0, s350_1, s350_2, s350_3, s350_4, s350_5, qx_m10, qx_m2, h1, List.length_cons, List.length_nil, Nat.zero_le, Nat.reduceAdd, Nat.reduceLeDiff, Option.bind_some, qx_kn_v, qx_kn_n, Nat.add_zero, Bool.false_eq_true, ↓reduceIte]
      exact qx_kn_c (h := (19, 4)) rfl (by decide +kernel) ⟨rfl, Nat.le_of_ble_eq_true rfl⟩
    rw [hr]
    simp only [s350_19, s350_20, s350_21, s350_22]
theorem h351 (h : qPairG Value.int B L xs (d + 40) 114 [some (.ref 10)] Z zs ke0 M) : qHelp Value.int qoI B L xs d 351 [some (.ref 10), some (.ref 2), none] Z zs M := by
  obtain ⟨k, v, M1, h1, hk, h2⟩ := h
  have hb := qk_bd (c := Value.int) 1 h1 hk ke0_b
  rcases (by omega : k = 0 ∨ k = 1) with rfl | rfl
  · rw [if_pos rfl] at h1
    obtain ⟨v1, M2, e1, e2, e3, e4, e5, e6⟩ := h2 (vp_updL M1.2.1 0 v.toInt64, M1.2.2)
    refine ⟨0, 0, (M1.1, vp_updL M1.2.1 0 v.toInt64, M1.2.2), M2, v1, by decide, by decide, ?_, Rs_mono _ _ _ _ _ _ _ _ e1, e4, fun _ => ?_, e5, e6⟩
    · simp only [s351_0, s351_1, s351_2, s351_3, s351_6, s351_7, s351_8, s351_14, s351_15, qx_m10, qx_m2, h1, List.length_cons, List.length_nil, Nat.zero_le, Nat.reduceAdd, Nat.reduceLeDiff, Option.bind_some, qx_kn_v, qx_kn_n, Nat.add_zero, Bool.false_eq_true, ↓reduceIte]
    · rw [e3 rfl]
      unfold qoI
      rw [e2]
      rfl
  · rw [if_neg (by decide)] at h1
    obtain ⟨v1, M2, e1, e2, e3, e4, e5, e6⟩ := h2 M1.2
    refine ⟨1, 1, M1, M2, v1, by decide, by decide, ?_, Rs_mono _ _ _ _ _ _ _ _ e1, e4, fun hz => absurd hz (by decide), e5, e6⟩
    have hr : Rs L xs (d + 41) 351 0 [some (.ref 10), some (.ref 2), none] [] M 0 = Rs L xs (d + 41) 351 12 [some (.ref 10), some (.ref 2), none] [] M1 1 := by
      simp only [s351_0, s351_1, s351_2, s351_3, qx_m10, qx_m2, h1, List.length_cons, List.length_nil, Nat.zero_le, Nat.reduceAdd, Nat.reduceLeDiff, Option.bind_some, qx_kn_v, qx_kn_n, Nat.add_zero, Bool.false_eq_true, ↓reduceIte]
      exact qx_kn_c (h := (12, 2)) rfl (by decide +kernel) ⟨rfl, Nat.le_of_ble_eq_true rfl⟩
    rw [hr]
    simp only [s351_12, s351_13, s351_14, s351_15]
theorem h352 (h : qPairG Value.int B L xs (d + 40) 116 [some (.ref 10)] Z zs ke0 M) : qHelp Value.int qoI B L xs d 352 [some (.ref 10), some (.ref 2), none] Z zs M := by
  obtain ⟨k, v, M1, h1, hk, h2⟩ := h
  have hb := qk_bd (c := Value.int) 1 h1 hk ke0_b
  rcases (by omega : k = 0 ∨ k = 1) with rfl | rfl
  · rw [if_pos rfl] at h1
    obtain ⟨v1, M2, e1, e2, e3, e4, e5, e6⟩ := h2 (vp_updL M1.2.1 0 v.toInt64, M1.2.2)
    refine ⟨0, 0, (M1.1, vp_updL M1.2.1 0 v.toInt64, M1.2.2), M2, v1, by decide, by decide, ?_, Rs_mono _ _ _ _ _ _ _ _ e1, e4, fun _ => ?_, e5, e6⟩
    · simp only [s352_0, s352_1, s352_2, s352_3, s352_6, s352_7, s352_8, s352_14, s352_15, qx_m10, qx_m2, h1, List.length_cons, List.length_nil, Nat.zero_le, Nat.reduceAdd, Nat.reduceLeDiff, Option.bind_some, qx_kn_v, qx_kn_n, Nat.add_zero, Bool.false_eq_true, ↓reduceIte]
    · rw [e3 rfl]
      unfold qoI
      rw [e2]
      rfl
  · rw [if_neg (by decide)] at h1
    obtain ⟨v1, M2, e1, e2, e3, e4, e5, e6⟩ := h2 M1.2
    refine ⟨1, 1, M1, M2, v1, by decide, by decide, ?_, Rs_mono _ _ _ _ _ _ _ _ e1, e4, fun hz => absurd hz (by decide), e5, e6⟩
    have hr : Rs L xs (d + 41) 352 0 [some (.ref 10), some (.ref 2), none] [] M 0 = Rs L xs (d + 41) 352 12 [some (.ref 10), some (.ref 2), none] [] M1 1 := by
      simp only [s352_0, s352_1, s352_2, s352_3, qx_m10, qx_m2, h1, List.length_cons, List.length_nil, Nat.zero_le, Nat.reduceAdd, Nat.reduceLeDiff, Option.bind_some, qx_kn_v, qx_kn_n, Nat.add_zero, Bool.false_eq_true, ↓reduceIte]
      exact qx_kn_c (h := (12, 2)) rfl (by decide +kernel) ⟨rfl, Nat.le_of_ble_eq_true rfl⟩
    rw [hr]
    simp only [s352_12, s352_13, s352_14, s352_15]
theorem h353 (h : qPairG Value.int B L xs (d + 40) 117 [some (.ref 10)] Z zs ke0 M) : qHelp Value.int qoB B L xs d 353 [some (.ref 10), some (.ref 2), none] Z zs M := by
  obtain ⟨k, v, M1, h1, hk, h2⟩ := h
  have hb := qk_bd (c := Value.int) 1 h1 hk ke0_b
  rcases (by omega : k = 0 ∨ k = 1) with rfl | rfl
  · rw [if_pos rfl] at h1
    obtain ⟨v1, M2, e1, e2, e3, e4, e5, e6⟩ := h2 (vp_updL M1.2.1 0 (if v = 0 then Int64.ofNat 0 else Int64.ofNat 1), M1.2.2)
    refine ⟨0, 0, (M1.1, vp_updL M1.2.1 0 (if v = 0 then Int64.ofNat 0 else Int64.ofNat 1), M1.2.2), M2, v1, by decide, by decide, ?_, Rs_mono _ _ _ _ _ _ _ _ e1, e4, fun _ => ?_, e5, e6⟩
    · by_cases hv : v = 0
      · have hz : (v = 0) = True := eq_true hv
        simp only [s353_0, s353_1, s353_2, s353_3, s353_6, s353_9, s353_10, s353_13, s353_14, s353_15, s353_21, s353_22, qx_m10, qx_m2, h1, hz, List.length_cons, List.length_nil, Nat.zero_le, Nat.reduceAdd, Nat.reduceLeDiff, Option.bind_some, qx_kn_v, qx_kn_n, Nat.add_zero, Bool.false_eq_true, ↓reduceIte]
      · have hz : (v = 0) = False := eq_false hv
        simp only [s353_0, s353_1, s353_2, s353_3, s353_6, s353_9, s353_10, s353_13, s353_14, s353_15, s353_21, s353_22, qx_m10, qx_m2, h1, hz, List.length_cons, List.length_nil, Nat.zero_le, Nat.reduceAdd, Nat.reduceLeDiff, Option.bind_some, qx_kn_v, qx_kn_n, Nat.add_zero, Bool.false_eq_true, ↓reduceIte]
    · rw [e3 rfl]
      unfold qoB
      rw [e2]
      rfl
  · rw [if_neg (by decide)] at h1
    obtain ⟨v1, M2, e1, e2, e3, e4, e5, e6⟩ := h2 M1.2
    refine ⟨1, 1, M1, M2, v1, by decide, by decide, ?_, Rs_mono _ _ _ _ _ _ _ _ e1, e4, fun hz => absurd hz (by decide), e5, e6⟩
    have hr : Rs L xs (d + 41) 353 0 [some (.ref 10), some (.ref 2), none] [] M 0 = Rs L xs (d + 41) 353 19 [some (.ref 10), some (.ref 2), none] [] M1 1 := by
      simp only [s353_0, s353_1, s353_2, s353_3, qx_m10, qx_m2, h1, List.length_cons, List.length_nil, Nat.zero_le, Nat.reduceAdd, Nat.reduceLeDiff, Option.bind_some, qx_kn_v, qx_kn_n, Nat.add_zero, Bool.false_eq_true, ↓reduceIte]
      exact qx_kn_c (h := (19, 2)) rfl (by decide +kernel) ⟨rfl, Nat.le_of_ble_eq_true rfl⟩
    rw [hr]
    simp only [s353_19, s353_20, s353_21, s353_22]
theorem h354 (h : qPairG Value.int B L xs (d + 40) 118 [some (.ref 10)] Z zs ke0 M) : qHelp Value.int qoI B L xs d 354 [some (.ref 10), some (.ref 2), none] Z zs M := by
  obtain ⟨k, v, M1, h1, hk, h2⟩ := h
  have hb := qk_bd (c := Value.int) 1 h1 hk ke0_b
  rcases (by omega : k = 0 ∨ k = 1) with rfl | rfl
  · rw [if_pos rfl] at h1
    obtain ⟨v1, M2, e1, e2, e3, e4, e5, e6⟩ := h2 (vp_updL M1.2.1 0 v.toInt64, M1.2.2)
    refine ⟨0, 0, (M1.1, vp_updL M1.2.1 0 v.toInt64, M1.2.2), M2, v1, by decide, by decide, ?_, Rs_mono _ _ _ _ _ _ _ _ e1, e4, fun _ => ?_, e5, e6⟩
    · simp only [s354_0, s354_1, s354_2, s354_3, s354_6, s354_7, s354_8, s354_14, s354_15, qx_m10, qx_m2, h1, List.length_cons, List.length_nil, Nat.zero_le, Nat.reduceAdd, Nat.reduceLeDiff, Option.bind_some, qx_kn_v, qx_kn_n, Nat.add_zero, Bool.false_eq_true, ↓reduceIte]
    · rw [e3 rfl]
      unfold qoI
      rw [e2]
      rfl
  · rw [if_neg (by decide)] at h1
    obtain ⟨v1, M2, e1, e2, e3, e4, e5, e6⟩ := h2 M1.2
    refine ⟨1, 1, M1, M2, v1, by decide, by decide, ?_, Rs_mono _ _ _ _ _ _ _ _ e1, e4, fun hz => absurd hz (by decide), e5, e6⟩
    have hr : Rs L xs (d + 41) 354 0 [some (.ref 10), some (.ref 2), none] [] M 0 = Rs L xs (d + 41) 354 12 [some (.ref 10), some (.ref 2), none] [] M1 1 := by
      simp only [s354_0, s354_1, s354_2, s354_3, qx_m10, qx_m2, h1, List.length_cons, List.length_nil, Nat.zero_le, Nat.reduceAdd, Nat.reduceLeDiff, Option.bind_some, qx_kn_v, qx_kn_n, Nat.add_zero, Bool.false_eq_true, ↓reduceIte]
      exact qx_kn_c (h := (12, 2)) rfl (by decide +kernel) ⟨rfl, Nat.le_of_ble_eq_true rfl⟩
    rw [hr]
    simp only [s354_12, s354_13, s354_14, s354_15]
theorem h355 (h : qPairG Value.int B L xs (d + 40) 119 [some (.ref 10)] Z zs ke0 M) : qHelp Value.int qoI B L xs d 355 [some (.ref 10), some (.ref 2), none] Z zs M := by
  obtain ⟨k, v, M1, h1, hk, h2⟩ := h
  have hb := qk_bd (c := Value.int) 1 h1 hk ke0_b
  rcases (by omega : k = 0 ∨ k = 1) with rfl | rfl
  · rw [if_pos rfl] at h1
    obtain ⟨v1, M2, e1, e2, e3, e4, e5, e6⟩ := h2 (vp_updL M1.2.1 0 v.toInt64, M1.2.2)
    refine ⟨0, 0, (M1.1, vp_updL M1.2.1 0 v.toInt64, M1.2.2), M2, v1, by decide, by decide, ?_, Rs_mono _ _ _ _ _ _ _ _ e1, e4, fun _ => ?_, e5, e6⟩
    · simp only [s355_0, s355_1, s355_2, s355_3, s355_6, s355_7, s355_8, s355_14, s355_15, qx_m10, qx_m2, h1, List.length_cons, List.length_nil, Nat.zero_le, Nat.reduceAdd, Nat.reduceLeDiff, Option.bind_some, qx_kn_v, qx_kn_n, Nat.add_zero, Bool.false_eq_true, ↓reduceIte]
    · rw [e3 rfl]
      unfold qoI
      rw [e2]
      rfl
  · rw [if_neg (by decide)] at h1
    obtain ⟨v1, M2, e1, e2, e3, e4, e5, e6⟩ := h2 M1.2
    refine ⟨1, 1, M1, M2, v1, by decide, by decide, ?_, Rs_mono _ _ _ _ _ _ _ _ e1, e4, fun hz => absurd hz (by decide), e5, e6⟩
    have hr : Rs L xs (d + 41) 355 0 [some (.ref 10), some (.ref 2), none] [] M 0 = Rs L xs (d + 41) 355 12 [some (.ref 10), some (.ref 2), none] [] M1 1 := by
      simp only [s355_0, s355_1, s355_2, s355_3, qx_m10, qx_m2, h1, List.length_cons, List.length_nil, Nat.zero_le, Nat.reduceAdd, Nat.reduceLeDiff, Option.bind_some, qx_kn_v, qx_kn_n, Nat.add_zero, Bool.false_eq_true, ↓reduceIte]
      exact qx_kn_c (h := (12, 2)) rfl (by decide +kernel) ⟨rfl, Nat.le_of_ble_eq_true rfl⟩
    rw [hr]
    simp only [s355_12, s355_13, s355_14, s355_15]
theorem h356 (h : qPairG Value.int B L xs (d + 40) 120 [some (.ref 10), none] Z zs ke0 M) : qHelp Value.int qoI B L xs d 356 [some (.ref 10), some (.ref 2), none] Z zs M := by
  obtain ⟨k, v, M1, h1, hk, h2⟩ := h
  have hb := qk_bd (c := Value.int) 1 h1 hk ke0_b
  rcases (by omega : k = 0 ∨ k = 1) with rfl | rfl
  · rw [if_pos rfl] at h1
    obtain ⟨v1, M2, e1, e2, e3, e4, e5, e6⟩ := h2 (vp_updL M1.2.1 0 v.toInt64, M1.2.2)
    refine ⟨0, 0, (M1.1, vp_updL M1.2.1 0 v.toInt64, M1.2.2), M2, v1, by decide, by decide, ?_, Rs_mono _ _ _ _ _ _ _ _ e1, e4, fun _ => ?_, e5, e6⟩
    · simp only [s356_0, s356_1, s356_2, s356_3, s356_6, s356_7, s356_8, s356_14, s356_15, qx_m10, qx_m2, h1, List.length_cons, List.length_nil, Nat.zero_le, Nat.reduceAdd, Nat.reduceLeDiff, Option.bind_some, qx_kn_v, qx_kn_n, Nat.add_zero, Bool.false_eq_true, ↓reduceIte]
    · rw [e3 rfl]
      unfold qoI
      rw [e2]
      rfl
  · rw [if_neg (by decide)] at h1
    obtain ⟨v1, M2, e1, e2, e3, e4, e5, e6⟩ := h2 M1.2
    refine ⟨1, 1, M1, M2, v1, by decide, by decide, ?_, Rs_mono _ _ _ _ _ _ _ _ e1, e4, fun hz => absurd hz (by decide), e5, e6⟩
    have hr : Rs L xs (d + 41) 356 0 [some (.ref 10), some (.ref 2), none] [] M 0 = Rs L xs (d + 41) 356 12 [some (.ref 10), some (.ref 2), none] [] M1 1 := by
      simp only [s356_0, s356_1, s356_2, s356_3, qx_m10, qx_m2, h1, List.length_cons, List.length_nil, Nat.zero_le, Nat.reduceAdd, Nat.reduceLeDiff, Option.bind_some, qx_kn_v, qx_kn_n, Nat.add_zero, Bool.false_eq_true, ↓reduceIte]
      exact qx_kn_c (h := (12, 2)) rfl (by decide +kernel) ⟨rfl, Nat.le_of_ble_eq_true rfl⟩
    rw [hr]
    simp only [s356_12, s356_13, s356_14, s356_15]
theorem h357 (h : qPairG Value.int B L xs (d + 40) 121 [some (.ref 10), none, none] Z zs ke0 M) : qHelp Value.int qoI B L xs d 357 [some (.ref 10), some (.ref 2), none] Z zs M := by
  obtain ⟨k, v, M1, h1, hk, h2⟩ := h
  have hb := qk_bd (c := Value.int) 1 h1 hk ke0_b
  rcases (by omega : k = 0 ∨ k = 1) with rfl | rfl
  · rw [if_pos rfl] at h1
    obtain ⟨v1, M2, e1, e2, e3, e4, e5, e6⟩ := h2 (vp_updL M1.2.1 0 v.toInt64, M1.2.2)
    refine ⟨0, 0, (M1.1, vp_updL M1.2.1 0 v.toInt64, M1.2.2), M2, v1, by decide, by decide, ?_, Rs_mono _ _ _ _ _ _ _ _ e1, e4, fun _ => ?_, e5, e6⟩
    · simp only [s357_0, s357_1, s357_2, s357_3, s357_6, s357_7, s357_8, s357_14, s357_15, qx_m10, qx_m2, h1, List.length_cons, List.length_nil, Nat.zero_le, Nat.reduceAdd, Nat.reduceLeDiff, Option.bind_some, qx_kn_v, qx_kn_n, Nat.add_zero, Bool.false_eq_true, ↓reduceIte]
    · rw [e3 rfl]
      unfold qoI
      rw [e2]
      rfl
  · rw [if_neg (by decide)] at h1
    obtain ⟨v1, M2, e1, e2, e3, e4, e5, e6⟩ := h2 M1.2
    refine ⟨1, 1, M1, M2, v1, by decide, by decide, ?_, Rs_mono _ _ _ _ _ _ _ _ e1, e4, fun hz => absurd hz (by decide), e5, e6⟩
    have hr : Rs L xs (d + 41) 357 0 [some (.ref 10), some (.ref 2), none] [] M 0 = Rs L xs (d + 41) 357 12 [some (.ref 10), some (.ref 2), none] [] M1 1 := by
      simp only [s357_0, s357_1, s357_2, s357_3, qx_m10, qx_m2, h1, List.length_cons, List.length_nil, Nat.zero_le, Nat.reduceAdd, Nat.reduceLeDiff, Option.bind_some, qx_kn_v, qx_kn_n, Nat.add_zero, Bool.false_eq_true, ↓reduceIte]
      exact qx_kn_c (h := (12, 2)) rfl (by decide +kernel) ⟨rfl, Nat.le_of_ble_eq_true rfl⟩
    rw [hr]
    simp only [s357_12, s357_13, s357_14, s357_15]
theorem h358 (h : qPairG Value.int B L xs (d + 40) 122 [some (.ref 10), none] Z zs ke0 M) : qHelp Value.int qoI B L xs d 358 [some (.ref 10), some (.ref 2), none] Z zs M := by
  obtain ⟨k, v, M1, h1, hk, h2⟩ := h
  have hb := qk_bd (c := Value.int) 1 h1 hk ke0_b
  rcases (by omega : k = 0 ∨ k = 1) with rfl | rfl
  · rw [if_pos rfl] at h1
    obtain ⟨v1, M2, e1, e2, e3, e4, e5, e6⟩ := h2 (vp_updL M1.2.1 0 v.toInt64, M1.2.2)
    refine ⟨0, 0, (M1.1, vp_updL M1.2.1 0 v.toInt64, M1.2.2), M2, v1, by decide, by decide, ?_, Rs_mono _ _ _ _ _ _ _ _ e1, e4, fun _ => ?_, e5, e6⟩
    · simp only [s358_0, s358_1, s358_2, s358_3, s358_6, s358_7, s358_8, s358_14, s358_15, qx_m10, qx_m2, h1, List.length_cons, List.length_nil, Nat.zero_le, Nat.reduceAdd, Nat.reduceLeDiff, Option.bind_some, qx_kn_v, qx_kn_n, Nat.add_zero, Bool.false_eq_true, ↓reduceIte]
    · rw [e3 rfl]
      unfold qoI
      rw [e2]
      rfl
  · rw [if_neg (by decide)] at h1
    obtain ⟨v1, M2, e1, e2, e3, e4, e5, e6⟩ := h2 M1.2
    refine ⟨1, 1, M1, M2, v1, by decide, by decide, ?_, Rs_mono _ _ _ _ _ _ _ _ e1, e4, fun hz => absurd hz (by decide), e5, e6⟩
    have hr : Rs L xs (d + 41) 358 0 [some (.ref 10), some (.ref 2), none] [] M 0 = Rs L xs (d + 41) 358 12 [some (.ref 10), some (.ref 2), none] [] M1 1 := by
      simp only [s358_0, s358_1, s358_2, s358_3, qx_m10, qx_m2, h1, List.length_cons, List.length_nil, Nat.zero_le, Nat.reduceAdd, Nat.reduceLeDiff, Option.bind_some, qx_kn_v, qx_kn_n, Nat.add_zero, Bool.false_eq_true, ↓reduceIte]
      exact qx_kn_c (h := (12, 2)) rfl (by decide +kernel) ⟨rfl, Nat.le_of_ble_eq_true rfl⟩
    rw [hr]
    simp only [s358_12, s358_13, s358_14, s358_15]
theorem h359 {w1 : Int32} (h : qPairG Value.int B L xs (d + 40) 123 [some (.ref 10), some (.int w1), none, none, none, none] Z zs ke0 M) : qHelp Value.int qoI B L xs d 359 [some (.ref 10), some (.int w1), some (.ref 2), none] Z zs M := by
  obtain ⟨k, v, M1, h1, hk, h2⟩ := h
  have hb := qk_bd (c := Value.int) 1 h1 hk ke0_b
  rcases (by omega : k = 0 ∨ k = 1) with rfl | rfl
  · rw [if_pos rfl] at h1
    obtain ⟨v1, M2, e1, e2, e3, e4, e5, e6⟩ := h2 (vp_updL M1.2.1 0 v.toInt64, M1.2.2)
    refine ⟨0, 0, (M1.1, vp_updL M1.2.1 0 v.toInt64, M1.2.2), M2, v1, by decide, by decide, ?_, Rs_mono _ _ _ _ _ _ _ _ e1, e4, fun _ => ?_, e5, e6⟩
    · simp only [s359_0, s359_1, s359_2, s359_3, s359_4, s359_7, s359_8, s359_9, s359_15, s359_16, qx_m10, qx_m2, h1, List.length_cons, List.length_nil, Nat.zero_le, Nat.reduceAdd, Nat.reduceLeDiff, Option.bind_some, qx_kn_v, qx_kn_n, Nat.add_zero, Bool.false_eq_true, ↓reduceIte]
    · rw [e3 rfl]
      unfold qoI
      rw [e2]
      rfl
  · rw [if_neg (by decide)] at h1
    obtain ⟨v1, M2, e1, e2, e3, e4, e5, e6⟩ := h2 M1.2
    refine ⟨1, 1, M1, M2, v1, by decide, by decide, ?_, Rs_mono _ _ _ _ _ _ _ _ e1, e4, fun hz => absurd hz (by decide), e5, e6⟩
    have hr : Rs L xs (d + 41) 359 0 [some (.ref 10), some (.int w1), some (.ref 2), none] [] M 0 = Rs L xs (d + 41) 359 13 [some (.ref 10), some (.int w1), some (.ref 2), none] [] M1 1 := by
      simp only [s359_0, s359_1, s359_2, s359_3, s359_4, qx_m10, qx_m2, h1, List.length_cons, List.length_nil, Nat.zero_le, Nat.reduceAdd, Nat.reduceLeDiff, Option.bind_some, qx_kn_v, qx_kn_n, Nat.add_zero, Bool.false_eq_true, ↓reduceIte]
      exact qx_kn_c (h := (13, 3)) rfl (by decide +kernel) ⟨rfl, Nat.le_of_ble_eq_true rfl⟩
    rw [hr]
    simp only [s359_13, s359_14, s359_15, s359_16]
theorem h360 (h : qPairG Value.int B L xs (d + 40) 124 [some (.ref 10), none, none, none] Z zs ke0 M) : qHelp Value.int qoI B L xs d 360 [some (.ref 10), some (.ref 2), none] Z zs M := by
  obtain ⟨k, v, M1, h1, hk, h2⟩ := h
  have hb := qk_bd (c := Value.int) 1 h1 hk ke0_b
  rcases (by omega : k = 0 ∨ k = 1) with rfl | rfl
  · rw [if_pos rfl] at h1
    obtain ⟨v1, M2, e1, e2, e3, e4, e5, e6⟩ := h2 (vp_updL M1.2.1 0 v.toInt64, M1.2.2)
    refine ⟨0, 0, (M1.1, vp_updL M1.2.1 0 v.toInt64, M1.2.2), M2, v1, by decide, by decide, ?_, Rs_mono _ _ _ _ _ _ _ _ e1, e4, fun _ => ?_, e5, e6⟩
    · simp only [s360_0, s360_1, s360_2, s360_3, s360_6, s360_7, s360_8, s360_14, s360_15, qx_m10, qx_m2, h1, List.length_cons, List.length_nil, Nat.zero_le, Nat.reduceAdd, Nat.reduceLeDiff, Option.bind_some, qx_kn_v, qx_kn_n, Nat.add_zero, Bool.false_eq_true, ↓reduceIte]
    · rw [e3 rfl]
      unfold qoI
      rw [e2]
      rfl
  · rw [if_neg (by decide)] at h1
    obtain ⟨v1, M2, e1, e2, e3, e4, e5, e6⟩ := h2 M1.2
    refine ⟨1, 1, M1, M2, v1, by decide, by decide, ?_, Rs_mono _ _ _ _ _ _ _ _ e1, e4, fun hz => absurd hz (by decide), e5, e6⟩
    have hr : Rs L xs (d + 41) 360 0 [some (.ref 10), some (.ref 2), none] [] M 0 = Rs L xs (d + 41) 360 12 [some (.ref 10), some (.ref 2), none] [] M1 1 := by
      simp only [s360_0, s360_1, s360_2, s360_3, qx_m10, qx_m2, h1, List.length_cons, List.length_nil, Nat.zero_le, Nat.reduceAdd, Nat.reduceLeDiff, Option.bind_some, qx_kn_v, qx_kn_n, Nat.add_zero, Bool.false_eq_true, ↓reduceIte]
      exact qx_kn_c (h := (12, 2)) rfl (by decide +kernel) ⟨rfl, Nat.le_of_ble_eq_true rfl⟩
    rw [hr]
    simp only [s360_12, s360_13, s360_14, s360_15]
theorem h361 {w1 : Int32} (h : qPairG Value.int B L xs (d + 40) 125 [some (.ref 10), some (.int w1)] Z zs ke01 M) : qHelp Value.int qoI B L xs d 361 [some (.ref 10), some (.int w1), some (.ref 2), none] Z zs M := by
  obtain ⟨k, v, M1, h1, hk, h2⟩ := h
  have hb := qk_bd (c := Value.int) 2 h1 hk ke01_b
  rcases (by omega : k = 0 ∨ k = 1 ∨ k = 2) with rfl | rfl | rfl
  · rw [if_pos rfl] at h1
    obtain ⟨v1, M2, e1, e2, e3, e4, e5, e6⟩ := h2 (vp_updL M1.2.1 0 v.toInt64, M1.2.2)
    refine ⟨0, 0, (M1.1, vp_updL M1.2.1 0 v.toInt64, M1.2.2), M2, v1, by decide, by decide, ?_, Rs_mono _ _ _ _ _ _ _ _ e1, e4, fun _ => ?_, e5, e6⟩
    · simp only [s361_0, s361_1, s361_2, s361_3, s361_4, s361_7, s361_8, s361_9, s361_18, s361_19, qx_m10, qx_m2, h1, List.length_cons, List.length_nil, Nat.zero_le, Nat.reduceAdd, Nat.reduceLeDiff, Option.bind_some, qx_kn_v, qx_kn_n, Nat.add_zero, Bool.false_eq_true, ↓reduceIte]
    · rw [e3 rfl]
      unfold qoI
      rw [e2]
      rfl
  · rw [if_neg (by decide)] at h1
    obtain ⟨v1, M2, e1, e2, e3, e4, e5, e6⟩ := h2 M1.2
    refine ⟨1, 1, M1, M2, v1, by decide, by decide, ?_, Rs_mono _ _ _ _ _ _ _ _ e1, e4, fun hz => absurd hz (by decide), e5, e6⟩
    have hr : Rs L xs (d + 41) 361 0 [some (.ref 10), some (.int w1), some (.ref 2), none] [] M 0 = Rs L xs (d + 41) 361 13 [some (.ref 10), some (.int w1), some (.ref 2), none] [] M1 1 := by
      simp only [s361_0, s361_1, s361_2, s361_3, s361_4, qx_m10, qx_m2, h1, List.length_cons, List.length_nil, Nat.zero_le, Nat.reduceAdd, Nat.reduceLeDiff, Option.bind_some, qx_kn_v, qx_kn_n, Nat.add_zero, Bool.false_eq_true, ↓reduceIte]
      exact qx_kn_c (h := (13, 3)) rfl (by decide +kernel) ⟨rfl, Nat.le_of_ble_eq_true rfl⟩
    rw [hr]
    simp only [s361_13, s361_14, s361_15i, s361_15r, s361_15n, s361_16]
  · rw [if_neg (by decide)] at h1
    obtain ⟨v1, M2, e1, e2, e3, e4, e5, e6⟩ := h2 M1.2
    refine ⟨2, 1, M1, M2, v1, by decide, by decide, ?_, Rs_mono _ _ _ _ _ _ _ _ e1, e4, fun hz => absurd hz (by decide), e5, e6⟩
    have hr : Rs L xs (d + 41) 361 0 [some (.ref 10), some (.int w1), some (.ref 2), none] [] M 0 = Rs L xs (d + 41) 361 16 [some (.ref 10), some (.int w1), some (.ref 2), none] [] M1 1 := by
      simp only [s361_0, s361_1, s361_2, s361_3, s361_4, qx_m10, qx_m2, h1, List.length_cons, List.length_nil, Nat.zero_le, Nat.reduceAdd, Nat.reduceLeDiff, Option.bind_some, qx_kn_v, qx_kn_n, Nat.add_zero, Bool.false_eq_true, ↓reduceIte]
      exact qx_kn_c (h := (16, 3)) rfl (by decide +kernel) ⟨rfl, Nat.le_of_ble_eq_true rfl⟩
    rw [hr]
    simp only [s361_16, s361_17, s361_18, s361_19]
theorem h362 {w1 : Int32} (h : qPairG Value.int B L xs (d + 40) 126 [some (.ref 10), some (.int w1), none] Z zs ke01 M) : qHelp Value.int qoB B L xs d 362 [some (.ref 10), some (.int w1), some (.ref 2), none] Z zs M := by
  obtain ⟨k, v, M1, h1, hk, h2⟩ := h
  have hb := qk_bd (c := Value.int) 2 h1 hk ke01_b
  rcases (by omega : k = 0 ∨ k = 1 ∨ k = 2) with rfl | rfl | rfl
  · rw [if_pos rfl] at h1
    obtain ⟨v1, M2, e1, e2, e3, e4, e5, e6⟩ := h2 (vp_updL M1.2.1 0 (if v = 0 then Int64.ofNat 0 else Int64.ofNat 1), M1.2.2)
    refine ⟨0, 0, (M1.1, vp_updL M1.2.1 0 (if v = 0 then Int64.ofNat 0 else Int64.ofNat 1), M1.2.2), M2, v1, by decide, by decide, ?_, Rs_mono _ _ _ _ _ _ _ _ e1, e4, fun _ => ?_, e5, e6⟩
    · by_cases hv : v = 0
      · have hz : (v = 0) = True := eq_true hv
        simp only [s362_0, s362_1, s362_2, s362_3, s362_4, s362_7, s362_10, s362_11, s362_14, s362_15, s362_16, s362_25, s362_26, qx_m10, qx_m2, h1, hz, List.length_cons, List.length_nil, Nat.zero_le, Nat.reduceAdd, Nat.reduceLeDiff, Option.bind_some, qx_kn_v, qx_kn_n, Nat.add_zero, Bool.false_eq_true, ↓reduceIte]
      · have hz : (v = 0) = False := eq_false hv
        simp only [s362_0, s362_1, s362_2, s362_3, s362_4, s362_7, s362_10, s362_11, s362_14, s362_15, s362_16, s362_25, s362_26, qx_m10, qx_m2, h1, hz, List.length_cons, List.length_nil, Nat.zero_le, Nat.reduceAdd, Nat.reduceLeDiff, Option.bind_some, qx_kn_v, qx_kn_n, Nat.add_zero, Bool.false_eq_true, ↓reduceIte]
    · rw [e3 rfl]
      unfold qoB
      rw [e2]
      rfl
  · rw [if_neg (by decide)] at h1
    obtain ⟨v1, M2, e1, e2, e3, e4, e5, e6⟩ := h2 M1.2
    refine ⟨1, 1, M1, M2, v1, by decide, by decide, ?_, Rs_mono _ _ _ _ _ _ _ _ e1, e4, fun hz => absurd hz (by decide), e5, e6⟩
    have hr : Rs L xs (d + 41) 362 0 [some (.ref 10), some (.int w1), some (.ref 2), none] [] M 0 = Rs L xs (d + 41) 362 20 [some (.ref 10), some (.int w1), some (.ref 2), none] [] M1 1 := by
      simp only [s362_0, s362_1, s362_2, s362_3, s362_4, qx_m10, qx_m2, h1, List.length_cons, List.length_nil, Nat.zero_le, Nat.reduceAdd, Nat.reduceLeDiff, Option.bind_some, qx_kn_v, qx_kn_n, Nat.add_zero, Bool.false_eq_true, ↓reduceIte]
      exact qx_kn_c (h := (20, 3)) rfl (by decide +kernel) ⟨rfl, Nat.le_of_ble_eq_true rfl⟩
    rw [hr]
    simp only [s362_20, s362_21, s362_22i, s362_22r, s362_22n, s362_23]
  · rw [if_neg (by decide)] at h1
    obtain ⟨v1, M2, e1, e2, e3, e4, e5, e6⟩ := h2 M1.2
    refine ⟨2, 1, M1, M2, v1, by decide, by decide, ?_, Rs_mono _ _ _ _ _ _ _ _ e1, e4, fun hz => absurd hz (by decide), e5, e6⟩
    have hr : Rs L xs (d + 41) 362 0 [some (.ref 10), some (.int w1), some (.ref 2), none] [] M 0 = Rs L xs (d + 41) 362 23 [some (.ref 10), some (.int w1), some (.ref 2), none] [] M1 1 := by
      simp only [s362_0, s362_1, s362_2, s362_3, s362_4, qx_m10, qx_m2, h1, List.length_cons, List.length_nil, Nat.zero_le, Nat.reduceAdd, Nat.reduceLeDiff, Option.bind_some, qx_kn_v, qx_kn_n, Nat.add_zero, Bool.false_eq_true, ↓reduceIte]
      exact qx_kn_c (h := (23, 3)) rfl (by decide +kernel) ⟨rfl, Nat.le_of_ble_eq_true rfl⟩
    rw [hr]
    simp only [s362_23, s362_24, s362_25, s362_26]
theorem h363 (h : qPairG Value.int B L xs (d + 40) 127 [some (.ref 10), none, none, none, none, none, none, none] Z zs ke0 M) : qHelp Value.int qoI B L xs d 363 [some (.ref 10), some (.ref 2), none] Z zs M := by
  obtain ⟨k, v, M1, h1, hk, h2⟩ := h
  have hb := qk_bd (c := Value.int) 1 h1 hk ke0_b
  rcases (by omega : k = 0 ∨ k = 1) with rfl | rfl
  · rw [if_pos rfl] at h1
    obtain ⟨v1, M2, e1, e2, e3, e4, e5, e6⟩ := h2 (vp_updL M1.2.1 0 v.toInt64, M1.2.2)
    refine ⟨0, 0, (M1.1, vp_updL M1.2.1 0 v.toInt64, M1.2.2), M2, v1, by decide, by decide, ?_, Rs_mono _ _ _ _ _ _ _ _ e1, e4, fun _ => ?_, e5, e6⟩
    · simp only [s363_0, s363_1, s363_2, s363_3, s363_6, s363_7, s363_8, s363_14, s363_15, qx_m10, qx_m2, h1, List.length_cons, List.length_nil, Nat.zero_le, Nat.reduceAdd, Nat.reduceLeDiff, Option.bind_some, qx_kn_v, qx_kn_n, Nat.add_zero, Bool.false_eq_true, ↓reduceIte]
    · rw [e3 rfl]
      unfold qoI
      rw [e2]
      rfl
  · rw [if_neg (by decide)] at h1
    obtain ⟨v1, M2, e1, e2, e3, e4, e5, e6⟩ := h2 M1.2
    refine ⟨1, 1, M1, M2, v1, by decide, by decide, ?_, Rs_mono _ _ _ _ _ _ _ _ e1, e4, fun hz => absurd hz (by decide), e5, e6⟩
    have hr : Rs L xs (d + 41) 363 0 [some (.ref 10), some (.ref 2), none] [] M 0 = Rs L xs (d + 41) 363 12 [some (.ref 10), some (.ref 2), none] [] M1 1 := by
      simp only [s363_0, s363_1, s363_2, s363_3, qx_m10, qx_m2, h1, List.length_cons, List.length_nil, Nat.zero_le, Nat.reduceAdd, Nat.reduceLeDiff, Option.bind_some, qx_kn_v, qx_kn_n, Nat.add_zero, Bool.false_eq_true, ↓reduceIte]
      exact qx_kn_c (h := (12, 2)) rfl (by decide +kernel) ⟨rfl, Nat.le_of_ble_eq_true rfl⟩
    rw [hr]
    simp only [s363_12, s363_13, s363_14, s363_15]
theorem h364 {w1 w2 : Int32} (h : qPairG Value.int B L xs (d + 40) 128 [some (.ref 10), some (.int w1), some (.int w2)] Z zs ke02 M) : qHelp Value.int qoB B L xs d 364 [some (.ref 10), some (.int w1), some (.int w2), some (.ref 2), none] Z zs M := by
  obtain ⟨k, v, M1, h1, hk, h2⟩ := h
  have hb := qk_bd (c := Value.int) 2 h1 hk ke02_b
  rcases (by omega : k = 0 ∨ k = 1 ∨ k = 2) with rfl | rfl | rfl
  · rw [if_pos rfl] at h1
    obtain ⟨v1, M2, e1, e2, e3, e4, e5, e6⟩ := h2 (vp_updL M1.2.1 0 (if v = 0 then Int64.ofNat 0 else Int64.ofNat 1), M1.2.2)
    refine ⟨0, 0, (M1.1, vp_updL M1.2.1 0 (if v = 0 then Int64.ofNat 0 else Int64.ofNat 1), M1.2.2), M2, v1, by decide, by decide, ?_, Rs_mono _ _ _ _ _ _ _ _ e1, e4, fun _ => ?_, e5, e6⟩
    · by_cases hv : v = 0
      · have hz : (v = 0) = True := eq_true hv
        simp only [s364_0, s364_1, s364_2, s364_3, s364_4, s364_5, s364_8, s364_11, s364_12, s364_15, s364_16, s364_17, s364_28, s364_29, qx_m10, qx_m2, h1, hz, List.length_cons, List.length_nil, Nat.zero_le, Nat.reduceAdd, Nat.reduceLeDiff, Option.bind_some, qx_kn_v, qx_kn_n, Nat.add_zero, Bool.false_eq_true, ↓reduceIte]
      · have hz : (v = 0) = False := eq_false hv
        simp only [s364_0, s364_1, s364_2, s364_3, s364_4, s364_5, s364_8, s364_11, s364_12, s364_15, s364_16, s364_17, s364_28, s364_29, qx_m10, qx_m2, h1, hz, List.length_cons, List.length_nil, Nat.zero_le, Nat.reduceAdd, Nat.reduceLeDiff, Option.bind_some, qx_kn_v, qx_kn_n, Nat.add_zero, Bool.false_eq_true, ↓reduceIte]
    · rw [e3 rfl]
      unfold qoB
      rw [e2]
      rfl
  · rw [if_neg (by decide)] at h1
    obtain ⟨v1, M2, e1, e2, e3, e4, e5, e6⟩ := h2 M1.2
    refine ⟨1, 1, M1, M2, v1, by decide, by decide, ?_, Rs_mono _ _ _ _ _ _ _ _ e1, e4, fun hz => absurd hz (by decide), e5, e6⟩
    have hr : Rs L xs (d + 41) 364 0 [some (.ref 10), some (.int w1), some (.int w2), some (.ref 2), none] [] M 0 = Rs L xs (d + 41) 364 22 [some (.ref 10), some (.int w1), some (.int w2), some (.ref 2), none] [] M1 1 := by
      simp only [s364_0, s364_1, s364_2, s364_3, s364_4, s364_5, qx_m10, qx_m2, h1, List.length_cons, List.length_nil, Nat.zero_le, Nat.reduceAdd, Nat.reduceLeDiff, Option.bind_some, qx_kn_v, qx_kn_n, Nat.add_zero, Bool.false_eq_true, ↓reduceIte]
      exact qx_kn_c (h := (22, 4)) rfl (by decide +kernel) ⟨rfl, Nat.le_of_ble_eq_true rfl⟩
    rw [hr]
    simp only [s364_22, s364_23, s364_24i, s364_24r, s364_24n]
  · rw [if_neg (by decide)] at h1
    obtain ⟨v1, M2, e1, e2, e3, e4, e5, e6⟩ := h2 M1.2
    refine ⟨2, 1, M1, M2, v1, by decide, by decide, ?_, Rs_mono _ _ _ _ _ _ _ _ e1, e4, fun hz => absurd hz (by decide), e5, e6⟩
    have hr : Rs L xs (d + 41) 364 0 [some (.ref 10), some (.int w1), some (.int w2), some (.ref 2), none] [] M 0 = Rs L xs (d + 41) 364 26 [some (.ref 10), some (.int w1), some (.int w2), some (.ref 2), none] [] M1 1 := by
      simp only [s364_0, s364_1, s364_2, s364_3, s364_4, s364_5, qx_m10, qx_m2, h1, List.length_cons, List.length_nil, Nat.zero_le, Nat.reduceAdd, Nat.reduceLeDiff, Option.bind_some, qx_kn_v, qx_kn_n, Nat.add_zero, Bool.false_eq_true, ↓reduceIte]
      exact qx_kn_c (h := (26, 4)) rfl (by decide +kernel) ⟨rfl, Nat.le_of_ble_eq_true rfl⟩
    rw [hr]
    simp only [s364_26, s364_27, s364_28, s364_29]
theorem h365 {w1 w2 : Int32} (h : qPairG Value.int B L xs (d + 40) 129 [some (.ref 10), some (.int w1), some (.int w2)] Z zs ke02 M) : qHelp Value.int qoB B L xs d 365 [some (.ref 10), some (.int w1), some (.int w2), some (.ref 2), none] Z zs M := by
  obtain ⟨k, v, M1, h1, hk, h2⟩ := h
  have hb := qk_bd (c := Value.int) 2 h1 hk ke02_b
  rcases (by omega : k = 0 ∨ k = 1 ∨ k = 2) with rfl | rfl | rfl
  · rw [if_pos rfl] at h1
    obtain ⟨v1, M2, e1, e2, e3, e4, e5, e6⟩ := h2 (vp_updL M1.2.1 0 (if v = 0 then Int64.ofNat 0 else Int64.ofNat 1), M1.2.2)
    refine ⟨0, 0, (M1.1, vp_updL M1.2.1 0 (if v = 0 then Int64.ofNat 0 else Int64.ofNat 1), M1.2.2), M2, v1, by decide, by decide, ?_, Rs_mono _ _ _ _ _ _ _ _ e1, e4, fun _ => ?_, e5, e6⟩
    · by_cases hv : v = 0
      · have hz : (v = 0) = True := eq_true hv
        simp only [s365_0, s365_1, s365_2, s365_3, s365_4, s365_5, s365_8, s365_11, s365_12, s365_15, s365_16, s365_17, s365_28, s365_29, qx_m10, qx_m2, h1, hz, List.length_cons, List.length_nil, Nat.zero_le, Nat.reduceAdd, Nat.reduceLeDiff, Option.bind_some, qx_kn_v, qx_kn_n, Nat.add_zero, Bool.false_eq_true, ↓reduceIte]
      · have hz : (v = 0) = False := eq_false hv
        simp only [s365_0, s365_1, s365_2, s365_3, s365_4, s365_5, s365_8, s365_11, s365_12, s365_15, s365_16, s365_17, s365_28, s365_29, qx_m10, qx_m2, h1, hz, List.length_cons, List.length_nil, Nat.zero_le, Nat.reduceAdd, Nat.reduceLeDiff, Option.bind_some, qx_kn_v, qx_kn_n, Nat.add_zero, Bool.false_eq_true, ↓reduceIte]
    · rw [e3 rfl]
      unfold qoB
      rw [e2]
      rfl
  · rw [if_neg (by decide)] at h1
    obtain ⟨v1, M2, e1, e2, e3, e4, e5, e6⟩ := h2 M1.2
    refine ⟨1, 1, M1, M2, v1, by decide, by decide, ?_, Rs_mono _ _ _ _ _ _ _ _ e1, e4, fun hz => absurd hz (by decide), e5, e6⟩
    have hr : Rs L xs (d + 41) 365 0 [some (.ref 10), some (.int w1), some (.int w2), some (.ref 2), none] [] M 0 = Rs L xs (d + 41) 365 22 [some (.ref 10), some (.int w1), some (.int w2), some (.ref 2), none] [] M1 1 := by
      simp only [s365_0, s365_1, s365_2, s365_3, s365_4, s365_5, qx_m10, qx_m2, h1, List.length_cons, List.length_nil, Nat.zero_le, Nat.reduceAdd, Nat.reduceLeDiff, Option.bind_some, qx_kn_v, qx_kn_n, Nat.add_zero, Bool.false_eq_true, ↓reduceIte]
      exact qx_kn_c (h := (22, 4)) rfl (by decide +kernel) ⟨rfl, Nat.le_of_ble_eq_true rfl⟩
    rw [hr]
    simp only [s365_22, s365_23, s365_24i, s365_24r, s365_24n]
  · rw [if_neg (by decide)] at h1
    obtain ⟨v1, M2, e1, e2, e3, e4, e5, e6⟩ := h2 M1.2
    refine ⟨2, 1, M1, M2, v1, by decide, by decide, ?_, Rs_mono _ _ _ _ _ _ _ _ e1, e4, fun hz => absurd hz (by decide), e5, e6⟩
    have hr : Rs L xs (d + 41) 365 0 [some (.ref 10), some (.int w1), some (.int w2), some (.ref 2), none] [] M 0 = Rs L xs (d + 41) 365 26 [some (.ref 10), some (.int w1), some (.int w2), some (.ref 2), none] [] M1 1 := by
      simp only [s365_0, s365_1, s365_2, s365_3, s365_4, s365_5, qx_m10, qx_m2, h1, List.length_cons, List.length_nil, Nat.zero_le, Nat.reduceAdd, Nat.reduceLeDiff, Option.bind_some, qx_kn_v, qx_kn_n, Nat.add_zero, Bool.false_eq_true, ↓reduceIte]
      exact qx_kn_c (h := (26, 4)) rfl (by decide +kernel) ⟨rfl, Nat.le_of_ble_eq_true rfl⟩
    rw [hr]
    simp only [s365_26, s365_27, s365_28, s365_29]
theorem h366 (h : qPairG Value.long B L xs (d + 40) 130 [some (.ref 10)] Z zs ke0 M) : qHelp Value.long qoL B L xs d 366 [some (.ref 10), some (.ref 2), none] Z zs M := by
  obtain ⟨k, v, M1, h1, hk, h2⟩ := h
  have hb := qk_bd (c := Value.long) 1 h1 hk ke0_b
  rcases (by omega : k = 0 ∨ k = 1) with rfl | rfl
  · rw [if_pos rfl] at h1
    obtain ⟨v1, M2, e1, e2, e3, e4, e5, e6⟩ := h2 (vp_updL M1.2.1 0 v, M1.2.2)
    refine ⟨0, 0, (M1.1, vp_updL M1.2.1 0 v, M1.2.2), M2, v1, by decide, by decide, ?_, Rs_mono _ _ _ _ _ _ _ _ e1, e4, fun _ => ?_, e5, e6⟩
    · simp only [s366_0, s366_1, s366_2, s366_3, s366_6, s366_7, s366_13, s366_14, qx_m10, qx_m2, h1, List.length_cons, List.length_nil, Nat.zero_le, Nat.reduceAdd, Nat.reduceLeDiff, Option.bind_some, qx_kn_v, qx_kn_n, Nat.add_zero, Bool.false_eq_true, ↓reduceIte]
    · rw [e3 rfl]
      unfold qoL
      rw [e2]
      rfl
  · rw [if_neg (by decide)] at h1
    obtain ⟨v1, M2, e1, e2, e3, e4, e5, e6⟩ := h2 M1.2
    refine ⟨1, 1, M1, M2, v1, by decide, by decide, ?_, Rs_mono _ _ _ _ _ _ _ _ e1, e4, fun hz => absurd hz (by decide), e5, e6⟩
    have hr : Rs L xs (d + 41) 366 0 [some (.ref 10), some (.ref 2), none] [] M 0 = Rs L xs (d + 41) 366 11 [some (.ref 10), some (.ref 2), none] [] M1 1 := by
      simp only [s366_0, s366_1, s366_2, s366_3, qx_m10, qx_m2, h1, List.length_cons, List.length_nil, Nat.zero_le, Nat.reduceAdd, Nat.reduceLeDiff, Option.bind_some, qx_kn_v, qx_kn_n, Nat.add_zero, Bool.false_eq_true, ↓reduceIte]
      exact qx_kn_c (h := (11, 2)) rfl (by decide +kernel) ⟨rfl, Nat.le_of_ble_eq_true rfl⟩
    rw [hr]
    simp only [s366_11, s366_12, s366_13, s366_14]
theorem h367 {w1 : Int32} (h : qPairG Value.int B L xs (d + 40) 131 [some (.ref 10), some (.int w1), none, none, none, none] Z zs ke02 M) : qHelp Value.int qoI B L xs d 367 [some (.ref 10), some (.int w1), some (.ref 2), none] Z zs M := by
  obtain ⟨k, v, M1, h1, hk, h2⟩ := h
  have hb := qk_bd (c := Value.int) 2 h1 hk ke02_b
  rcases (by omega : k = 0 ∨ k = 1 ∨ k = 2) with rfl | rfl | rfl
  · rw [if_pos rfl] at h1
    obtain ⟨v1, M2, e1, e2, e3, e4, e5, e6⟩ := h2 (vp_updL M1.2.1 0 v.toInt64, M1.2.2)
    refine ⟨0, 0, (M1.1, vp_updL M1.2.1 0 v.toInt64, M1.2.2), M2, v1, by decide, by decide, ?_, Rs_mono _ _ _ _ _ _ _ _ e1, e4, fun _ => ?_, e5, e6⟩
    · simp only [s367_0, s367_1, s367_2, s367_3, s367_4, s367_7, s367_8, s367_9, s367_18, s367_19, qx_m10, qx_m2, h1, List.length_cons, List.length_nil, Nat.zero_le, Nat.reduceAdd, Nat.reduceLeDiff, Option.bind_some, qx_kn_v, qx_kn_n, Nat.add_zero, Bool.false_eq_true, ↓reduceIte]
    · rw [e3 rfl]
      unfold qoI
      rw [e2]
      rfl
  · rw [if_neg (by decide)] at h1
    obtain ⟨v1, M2, e1, e2, e3, e4, e5, e6⟩ := h2 M1.2
    refine ⟨1, 1, M1, M2, v1, by decide, by decide, ?_, Rs_mono _ _ _ _ _ _ _ _ e1, e4, fun hz => absurd hz (by decide), e5, e6⟩
    have hr : Rs L xs (d + 41) 367 0 [some (.ref 10), some (.int w1), some (.ref 2), none] [] M 0 = Rs L xs (d + 41) 367 13 [some (.ref 10), some (.int w1), some (.ref 2), none] [] M1 1 := by
      simp only [s367_0, s367_1, s367_2, s367_3, s367_4, qx_m10, qx_m2, h1, List.length_cons, List.length_nil, Nat.zero_le, Nat.reduceAdd, Nat.reduceLeDiff, Option.bind_some, qx_kn_v, qx_kn_n, Nat.add_zero, Bool.false_eq_true, ↓reduceIte]
      exact qx_kn_c (h := (13, 3)) rfl (by decide +kernel) ⟨rfl, Nat.le_of_ble_eq_true rfl⟩
    rw [hr]
    simp only [s367_13, s367_14, s367_15i, s367_15r, s367_15n, s367_16]
  · rw [if_neg (by decide)] at h1
    obtain ⟨v1, M2, e1, e2, e3, e4, e5, e6⟩ := h2 M1.2
    refine ⟨2, 1, M1, M2, v1, by decide, by decide, ?_, Rs_mono _ _ _ _ _ _ _ _ e1, e4, fun hz => absurd hz (by decide), e5, e6⟩
    have hr : Rs L xs (d + 41) 367 0 [some (.ref 10), some (.int w1), some (.ref 2), none] [] M 0 = Rs L xs (d + 41) 367 16 [some (.ref 10), some (.int w1), some (.ref 2), none] [] M1 1 := by
      simp only [s367_0, s367_1, s367_2, s367_3, s367_4, qx_m10, qx_m2, h1, List.length_cons, List.length_nil, Nat.zero_le, Nat.reduceAdd, Nat.reduceLeDiff, Option.bind_some, qx_kn_v, qx_kn_n, Nat.add_zero, Bool.false_eq_true, ↓reduceIte]
      exact qx_kn_c (h := (16, 3)) rfl (by decide +kernel) ⟨rfl, Nat.le_of_ble_eq_true rfl⟩
    rw [hr]
    simp only [s367_16, s367_17, s367_18, s367_19]
theorem h368 {w1 : Int32} (h : qPairG Value.int B L xs (d + 40) 132 [some (.ref 10), some (.int w1)] Z zs ke02 M) : qHelp Value.int qoI B L xs d 368 [some (.ref 10), some (.int w1), some (.ref 2), none] Z zs M := by
  obtain ⟨k, v, M1, h1, hk, h2⟩ := h
  have hb := qk_bd (c := Value.int) 2 h1 hk ke02_b
  rcases (by omega : k = 0 ∨ k = 1 ∨ k = 2) with rfl | rfl | rfl
  · rw [if_pos rfl] at h1
    obtain ⟨v1, M2, e1, e2, e3, e4, e5, e6⟩ := h2 (vp_updL M1.2.1 0 v.toInt64, M1.2.2)
    refine ⟨0, 0, (M1.1, vp_updL M1.2.1 0 v.toInt64, M1.2.2), M2, v1, by decide, by decide, ?_, Rs_mono _ _ _ _ _ _ _ _ e1, e4, fun _ => ?_, e5, e6⟩
    · simp only [s368_0, s368_1, s368_2, s368_3, s368_4, s368_7, s368_8, s368_9, s368_18, s368_19, qx_m10, qx_m2, h1, List.length_cons, List.length_nil, Nat.zero_le, Nat.reduceAdd, Nat.reduceLeDiff, Option.bind_some, qx_kn_v, qx_kn_n, Nat.add_zero, Bool.false_eq_true, ↓reduceIte]
    · rw [e3 rfl]
      unfold qoI
      rw [e2]
      rfl
  · rw [if_neg (by decide)] at h1
    obtain ⟨v1, M2, e1, e2, e3, e4, e5, e6⟩ := h2 M1.2
    refine ⟨1, 1, M1, M2, v1, by decide, by decide, ?_, Rs_mono _ _ _ _ _ _ _ _ e1, e4, fun hz => absurd hz (by decide), e5, e6⟩
    have hr : Rs L xs (d + 41) 368 0 [some (.ref 10), some (.int w1), some (.ref 2), none] [] M 0 = Rs L xs (d + 41) 368 13 [some (.ref 10), some (.int w1), some (.ref 2), none] [] M1 1 := by
      simp only [s368_0, s368_1, s368_2, s368_3, s368_4, qx_m10, qx_m2, h1, List.length_cons, List.length_nil, Nat.zero_le, Nat.reduceAdd, Nat.reduceLeDiff, Option.bind_some, qx_kn_v, qx_kn_n, Nat.add_zero, Bool.false_eq_true, ↓reduceIte]
      exact qx_kn_c (h := (13, 3)) rfl (by decide +kernel) ⟨rfl, Nat.le_of_ble_eq_true rfl⟩
    rw [hr]
    simp only [s368_13, s368_14, s368_15i, s368_15r, s368_15n, s368_16]
  · rw [if_neg (by decide)] at h1
    obtain ⟨v1, M2, e1, e2, e3, e4, e5, e6⟩ := h2 M1.2
    refine ⟨2, 1, M1, M2, v1, by decide, by decide, ?_, Rs_mono _ _ _ _ _ _ _ _ e1, e4, fun hz => absurd hz (by decide), e5, e6⟩
    have hr : Rs L xs (d + 41) 368 0 [some (.ref 10), some (.int w1), some (.ref 2), none] [] M 0 = Rs L xs (d + 41) 368 16 [some (.ref 10), some (.int w1), some (.ref 2), none] [] M1 1 := by
      simp only [s368_0, s368_1, s368_2, s368_3, s368_4, qx_m10, qx_m2, h1, List.length_cons, List.length_nil, Nat.zero_le, Nat.reduceAdd, Nat.reduceLeDiff, Option.bind_some, qx_kn_v, qx_kn_n, Nat.add_zero, Bool.false_eq_true, ↓reduceIte]
      exact qx_kn_c (h := (16, 3)) rfl (by decide +kernel) ⟨rfl, Nat.le_of_ble_eq_true rfl⟩
    rw [hr]
    simp only [s368_16, s368_17, s368_18, s368_19]
theorem h369 {w1 w2 : Int32} (h : qPairG Value.int B L xs (d + 40) 133 [some (.ref 10), some (.int w1), some (.int w2), none, none] Z zs ke02 M) : qHelp Value.int qoI B L xs d 369 [some (.ref 10), some (.int w1), some (.int w2), some (.ref 2), none] Z zs M := by
  obtain ⟨k, v, M1, h1, hk, h2⟩ := h
  have hb := qk_bd (c := Value.int) 2 h1 hk ke02_b
  rcases (by omega : k = 0 ∨ k = 1 ∨ k = 2) with rfl | rfl | rfl
  · rw [if_pos rfl] at h1
    obtain ⟨v1, M2, e1, e2, e3, e4, e5, e6⟩ := h2 (vp_updL M1.2.1 0 v.toInt64, M1.2.2)
    refine ⟨0, 0, (M1.1, vp_updL M1.2.1 0 v.toInt64, M1.2.2), M2, v1, by decide, by decide, ?_, Rs_mono _ _ _ _ _ _ _ _ e1, e4, fun _ => ?_, e5, e6⟩
    · simp only [s369_0, s369_1, s369_2, s369_3, s369_4, s369_5, s369_8, s369_9, s369_10, s369_21, s369_22, qx_m10, qx_m2, h1, List.length_cons, List.length_nil, Nat.zero_le, Nat.reduceAdd, Nat.reduceLeDiff, Option.bind_some, qx_kn_v, qx_kn_n, Nat.add_zero, Bool.false_eq_true, ↓reduceIte]
    · rw [e3 rfl]
      unfold qoI
      rw [e2]
      rfl
  · rw [if_neg (by decide)] at h1
    obtain ⟨v1, M2, e1, e2, e3, e4, e5, e6⟩ := h2 M1.2
    refine ⟨1, 1, M1, M2, v1, by decide, by decide, ?_, Rs_mono _ _ _ _ _ _ _ _ e1, e4, fun hz => absurd hz (by decide), e5, e6⟩
    have hr : Rs L xs (d + 41) 369 0 [some (.ref 10), some (.int w1), some (.int w2), some (.ref 2), none] [] M 0 = Rs L xs (d + 41) 369 15 [some (.ref 10), some (.int w1), some (.int w2), some (.ref 2), none] [] M1 1 := by
      simp only [s369_0, s369_1, s369_2, s369_3, s369_4, s369_5, qx_m10, qx_m2, h1, List.length_cons, List.length_nil, Nat.zero_le, Nat.reduceAdd, Nat.reduceLeDiff, Option.bind_some, qx_kn_v, qx_kn_n, Nat.add_zero, Bool.false_eq_true, ↓reduceIte]
      exact qx_kn_c (h := (15, 4)) rfl (by decide +kernel) ⟨rfl, Nat.le_of_ble_eq_true rfl⟩
    rw [hr]
    simp only [s369_15, s369_16, s369_17i, s369_17r, s369_17n]
  · rw [if_neg (by decide)] at h1
    obtain ⟨v1, M2, e1, e2, e3, e4, e5, e6⟩ := h2 M1.2
    refine ⟨2, 1, M1, M2, v1, by decide, by decide, ?_, Rs_mono _ _ _ _ _ _ _ _ e1, e4, fun hz => absurd hz (by decide), e5, e6⟩
    have hr : Rs L xs (d + 41) 369 0 [some (.ref 10), some (.int w1), some (.int w2), some (.ref 2), none] [] M 0 = Rs L xs (d + 41) 369 19 [some (.ref 10), some (.int w1), some (.int w2), some (.ref 2), none] [] M1 1 := by
      simp only [s369_0, s369_1, s369_2, s369_3, s369_4, s369_5, qx_m10, qx_m2, h1, List.length_cons, List.length_nil, Nat.zero_le, Nat.reduceAdd, Nat.reduceLeDiff, Option.bind_some, qx_kn_v, qx_kn_n, Nat.add_zero, Bool.false_eq_true, ↓reduceIte]
      exact qx_kn_c (h := (19, 4)) rfl (by decide +kernel) ⟨rfl, Nat.le_of_ble_eq_true rfl⟩
    rw [hr]
    simp only [s369_19, s369_20, s369_21, s369_22]
theorem h370 {w1 : Int32} (h : qPairG Value.int B L xs (d + 40) 134 [some (.ref 10), some (.int w1)] Z zs ke01 M) : qHelp Value.int qoI B L xs d 370 [some (.ref 10), some (.int w1), some (.ref 2), none] Z zs M := by
  obtain ⟨k, v, M1, h1, hk, h2⟩ := h
  have hb := qk_bd (c := Value.int) 2 h1 hk ke01_b
  rcases (by omega : k = 0 ∨ k = 1 ∨ k = 2) with rfl | rfl | rfl
  · rw [if_pos rfl] at h1
    obtain ⟨v1, M2, e1, e2, e3, e4, e5, e6⟩ := h2 (vp_updL M1.2.1 0 v.toInt64, M1.2.2)
    refine ⟨0, 0, (M1.1, vp_updL M1.2.1 0 v.toInt64, M1.2.2), M2, v1, by decide, by decide, ?_, Rs_mono _ _ _ _ _ _ _ _ e1, e4, fun _ => ?_, e5, e6⟩
    · simp only [s370_0, s370_1, s370_2, s370_3, s370_4, s370_7, s370_8, s370_9, s370_18, s370_19, qx_m10, qx_m2, h1, List.length_cons, List.length_nil, Nat.zero_le, Nat.reduceAdd, Nat.reduceLeDiff, Option.bind_some, qx_kn_v, qx_kn_n, Nat.add_zero, Bool.false_eq_true, ↓reduceIte]
    · rw [e3 rfl]
      unfold qoI
      rw [e2]
      rfl
  · rw [if_neg (by decide)] at h1
    obtain ⟨v1, M2, e1, e2, e3, e4, e5, e6⟩ := h2 M1.2
    refine ⟨1, 1, M1, M2, v1, by decide, by decide, ?_, Rs_mono _ _ _ _ _ _ _ _ e1, e4, fun hz => absurd hz (by decide), e5, e6⟩
    have hr : Rs L xs (d + 41) 370 0 [some (.ref 10), some (.int w1), some (.ref 2), none] [] M 0 = Rs L xs (d + 41) 370 13 [some (.ref 10), some (.int w1), some (.ref 2), none] [] M1 1 := by
      simp only [s370_0, s370_1, s370_2, s370_3, s370_4, qx_m10, qx_m2, h1, List.length_cons, List.length_nil, Nat.zero_le, Nat.reduceAdd, Nat.reduceLeDiff, Option.bind_some, qx_kn_v, qx_kn_n, Nat.add_zero, Bool.false_eq_true, ↓reduceIte]
      exact qx_kn_c (h := (13, 3)) rfl (by decide +kernel) ⟨rfl, Nat.le_of_ble_eq_true rfl⟩
    rw [hr]
    simp only [s370_13, s370_14, s370_15i, s370_15r, s370_15n, s370_16]
  · rw [if_neg (by decide)] at h1
    obtain ⟨v1, M2, e1, e2, e3, e4, e5, e6⟩ := h2 M1.2
    refine ⟨2, 1, M1, M2, v1, by decide, by decide, ?_, Rs_mono _ _ _ _ _ _ _ _ e1, e4, fun hz => absurd hz (by decide), e5, e6⟩
    have hr : Rs L xs (d + 41) 370 0 [some (.ref 10), some (.int w1), some (.ref 2), none] [] M 0 = Rs L xs (d + 41) 370 16 [some (.ref 10), some (.int w1), some (.ref 2), none] [] M1 1 := by
      simp only [s370_0, s370_1, s370_2, s370_3, s370_4, qx_m10, qx_m2, h1, List.length_cons, List.length_nil, Nat.zero_le, Nat.reduceAdd, Nat.reduceLeDiff, Option.bind_some, qx_kn_v, qx_kn_n, Nat.add_zero, Bool.false_eq_true, ↓reduceIte]
      exact qx_kn_c (h := (16, 3)) rfl (by decide +kernel) ⟨rfl, Nat.le_of_ble_eq_true rfl⟩
    rw [hr]
    simp only [s370_16, s370_17, s370_18, s370_19]
theorem h371 (h : qPairG Value.int B L xs (d + 40) 135 [some (.ref 10)] Z zs ke0 M) : qHelp Value.int qoI B L xs d 371 [some (.ref 10), some (.ref 2), none] Z zs M := by
  obtain ⟨k, v, M1, h1, hk, h2⟩ := h
  have hb := qk_bd (c := Value.int) 1 h1 hk ke0_b
  rcases (by omega : k = 0 ∨ k = 1) with rfl | rfl
  · rw [if_pos rfl] at h1
    obtain ⟨v1, M2, e1, e2, e3, e4, e5, e6⟩ := h2 (vp_updL M1.2.1 0 v.toInt64, M1.2.2)
    refine ⟨0, 0, (M1.1, vp_updL M1.2.1 0 v.toInt64, M1.2.2), M2, v1, by decide, by decide, ?_, Rs_mono _ _ _ _ _ _ _ _ e1, e4, fun _ => ?_, e5, e6⟩
    · simp only [s371_0, s371_1, s371_2, s371_3, s371_6, s371_7, s371_8, s371_14, s371_15, qx_m10, qx_m2, h1, List.length_cons, List.length_nil, Nat.zero_le, Nat.reduceAdd, Nat.reduceLeDiff, Option.bind_some, qx_kn_v, qx_kn_n, Nat.add_zero, Bool.false_eq_true, ↓reduceIte]
    · rw [e3 rfl]
      unfold qoI
      rw [e2]
      rfl
  · rw [if_neg (by decide)] at h1
    obtain ⟨v1, M2, e1, e2, e3, e4, e5, e6⟩ := h2 M1.2
    refine ⟨1, 1, M1, M2, v1, by decide, by decide, ?_, Rs_mono _ _ _ _ _ _ _ _ e1, e4, fun hz => absurd hz (by decide), e5, e6⟩
    have hr : Rs L xs (d + 41) 371 0 [some (.ref 10), some (.ref 2), none] [] M 0 = Rs L xs (d + 41) 371 12 [some (.ref 10), some (.ref 2), none] [] M1 1 := by
      simp only [s371_0, s371_1, s371_2, s371_3, qx_m10, qx_m2, h1, List.length_cons, List.length_nil, Nat.zero_le, Nat.reduceAdd, Nat.reduceLeDiff, Option.bind_some, qx_kn_v, qx_kn_n, Nat.add_zero, Bool.false_eq_true, ↓reduceIte]
      exact qx_kn_c (h := (12, 2)) rfl (by decide +kernel) ⟨rfl, Nat.le_of_ble_eq_true rfl⟩
    rw [hr]
    simp only [s371_12, s371_13, s371_14, s371_15]
theorem h372 (h : qPairG Value.int B L xs (d + 40) 136 [some (.ref 10), none, none, none, none, none, none] Z zs ke0 M) : qHelp Value.int qoI B L xs d 372 [some (.ref 10), some (.ref 2), none] Z zs M := by
  obtain ⟨k, v, M1, h1, hk, h2⟩ := h
  have hb := qk_bd (c := Value.int) 1 h1 hk ke0_b
  rcases (by omega : k = 0 ∨ k = 1) with rfl | rfl
  · rw [if_pos rfl] at h1
    obtain ⟨v1, M2, e1, e2, e3, e4, e5, e6⟩ := h2 (vp_updL M1.2.1 0 v.toInt64, M1.2.2)
    refine ⟨0, 0, (M1.1, vp_updL M1.2.1 0 v.toInt64, M1.2.2), M2, v1, by decide, by decide, ?_, Rs_mono _ _ _ _ _ _ _ _ e1, e4, fun _ => ?_, e5, e6⟩
    · simp only [s372_0, s372_1, s372_2, s372_3, s372_6, s372_7, s372_8, s372_14, s372_15, qx_m10, qx_m2, h1, List.length_cons, List.length_nil, Nat.zero_le, Nat.reduceAdd, Nat.reduceLeDiff, Option.bind_some, qx_kn_v, qx_kn_n, Nat.add_zero, Bool.false_eq_true, ↓reduceIte]
    · rw [e3 rfl]
      unfold qoI
      rw [e2]
      rfl
  · rw [if_neg (by decide)] at h1
    obtain ⟨v1, M2, e1, e2, e3, e4, e5, e6⟩ := h2 M1.2
    refine ⟨1, 1, M1, M2, v1, by decide, by decide, ?_, Rs_mono _ _ _ _ _ _ _ _ e1, e4, fun hz => absurd hz (by decide), e5, e6⟩
    have hr : Rs L xs (d + 41) 372 0 [some (.ref 10), some (.ref 2), none] [] M 0 = Rs L xs (d + 41) 372 12 [some (.ref 10), some (.ref 2), none] [] M1 1 := by
      simp only [s372_0, s372_1, s372_2, s372_3, qx_m10, qx_m2, h1, List.length_cons, List.length_nil, Nat.zero_le, Nat.reduceAdd, Nat.reduceLeDiff, Option.bind_some, qx_kn_v, qx_kn_n, Nat.add_zero, Bool.false_eq_true, ↓reduceIte]
      exact qx_kn_c (h := (12, 2)) rfl (by decide +kernel) ⟨rfl, Nat.le_of_ble_eq_true rfl⟩
    rw [hr]
    simp only [s372_12, s372_13, s372_14, s372_15]
theorem h373 {w1 : Int32} (h : qPairG Value.int B L xs (d + 40) 137 [some (.ref 10), some (.int w1)] Z zs ke02 M) : qHelp Value.int qoI B L xs d 373 [some (.ref 10), some (.int w1), some (.ref 2), none] Z zs M := by
  obtain ⟨k, v, M1, h1, hk, h2⟩ := h
  have hb := qk_bd (c := Value.int) 2 h1 hk ke02_b
  rcases (by omega : k = 0 ∨ k = 1 ∨ k = 2) with rfl | rfl | rfl
  · rw [if_pos rfl] at h1
    obtain ⟨v1, M2, e1, e2, e3, e4, e5, e6⟩ := h2 (vp_updL M1.2.1 0 v.toInt64, M1.2.2)
    refine ⟨0, 0, (M1.1, vp_updL M1.2.1 0 v.toInt64, M1.2.2), M2, v1, by decide, by decide, ?_, Rs_mono _ _ _ _ _ _ _ _ e1, e4, fun _ => ?_, e5, e6⟩
    · simp only [s373_0, s373_1, s373_2, s373_3, s373_4, s373_7, s373_8, s373_9, s373_18, s373_19, qx_m10, qx_m2, h1, List.length_cons, List.length_nil, Nat.zero_le, Nat.reduceAdd, Nat.reduceLeDiff, Option.bind_some, qx_kn_v, qx_kn_n, Nat.add_zero, Bool.false_eq_true, ↓reduceIte]
    · rw [e3 rfl]
      unfold qoI
      rw [e2]
      rfl
  · rw [if_neg (by decide)] at h1
    obtain ⟨v1, M2, e1, e2, e3, e4, e5, e6⟩ := h2 M1.2
    refine ⟨1, 1, M1, M2, v1, by decide, by decide, ?_, Rs_mono _ _ _ _ _ _ _ _ e1, e4, fun hz => absurd hz (by decide), e5, e6⟩
    have hr : Rs L xs (d + 41) 373 0 [some (.ref 10), some (.int w1), some (.ref 2), none] [] M 0 = Rs L xs (d + 41) 373 13 [some (.ref 10), some (.int w1), some (.ref 2), none] [] M1 1 := by
      simp only [s373_0, s373_1, s373_2, s373_3, s373_4, qx_m10, qx_m2, h1, List.length_cons, List.length_nil, Nat.zero_le, Nat.reduceAdd, Nat.reduceLeDiff, Option.bind_some, qx_kn_v, qx_kn_n, Nat.add_zero, Bool.false_eq_true, ↓reduceIte]
      exact qx_kn_c (h := (13, 3)) rfl (by decide +kernel) ⟨rfl, Nat.le_of_ble_eq_true rfl⟩
    rw [hr]
    simp only [s373_13, s373_14, s373_15i, s373_15r, s373_15n, s373_16]
  · rw [if_neg (by decide)] at h1
    obtain ⟨v1, M2, e1, e2, e3, e4, e5, e6⟩ := h2 M1.2
    refine ⟨2, 1, M1, M2, v1, by decide, by decide, ?_, Rs_mono _ _ _ _ _ _ _ _ e1, e4, fun hz => absurd hz (by decide), e5, e6⟩
    have hr : Rs L xs (d + 41) 373 0 [some (.ref 10), some (.int w1), some (.ref 2), none] [] M 0 = Rs L xs (d + 41) 373 16 [some (.ref 10), some (.int w1), some (.ref 2), none] [] M1 1 := by
      simp only [s373_0, s373_1, s373_2, s373_3, s373_4, qx_m10, qx_m2, h1, List.length_cons, List.length_nil, Nat.zero_le, Nat.reduceAdd, Nat.reduceLeDiff, Option.bind_some, qx_kn_v, qx_kn_n, Nat.add_zero, Bool.false_eq_true, ↓reduceIte]
      exact qx_kn_c (h := (16, 3)) rfl (by decide +kernel) ⟨rfl, Nat.le_of_ble_eq_true rfl⟩
    rw [hr]
    simp only [s373_16, s373_17, s373_18, s373_19]
theorem h374 {w1 : Int32} (h : qPairG Value.int B L xs (d + 40) 138 [some (.ref 10), some (.int w1)] Z zs ke02 M) : qHelp Value.int qoI B L xs d 374 [some (.ref 10), some (.int w1), some (.ref 2), none] Z zs M := by
  obtain ⟨k, v, M1, h1, hk, h2⟩ := h
  have hb := qk_bd (c := Value.int) 2 h1 hk ke02_b
  rcases (by omega : k = 0 ∨ k = 1 ∨ k = 2) with rfl | rfl | rfl
  · rw [if_pos rfl] at h1
    obtain ⟨v1, M2, e1, e2, e3, e4, e5, e6⟩ := h2 (vp_updL M1.2.1 0 v.toInt64, M1.2.2)
    refine ⟨0, 0, (M1.1, vp_updL M1.2.1 0 v.toInt64, M1.2.2), M2, v1, by decide, by decide, ?_, Rs_mono _ _ _ _ _ _ _ _ e1, e4, fun _ => ?_, e5, e6⟩
    · simp only [s374_0, s374_1, s374_2, s374_3, s374_4, s374_7, s374_8, s374_9, s374_18, s374_19, qx_m10, qx_m2, h1, List.length_cons, List.length_nil, Nat.zero_le, Nat.reduceAdd, Nat.reduceLeDiff, Option.bind_some, qx_kn_v, qx_kn_n, Nat.add_zero, Bool.false_eq_true, ↓reduceIte]
    · rw [e3 rfl]
      unfold qoI
      rw [e2]
      rfl
  · rw [if_neg (by decide)] at h1
    obtain ⟨v1, M2, e1, e2, e3, e4, e5, e6⟩ := h2 M1.2
    refine ⟨1, 1, M1, M2, v1, by decide, by decide, ?_, Rs_mono _ _ _ _ _ _ _ _ e1, e4, fun hz => absurd hz (by decide), e5, e6⟩
    have hr : Rs L xs (d + 41) 374 0 [some (.ref 10), some (.int w1), some (.ref 2), none] [] M 0 = Rs L xs (d + 41) 374 13 [some (.ref 10), some (.int w1), some (.ref 2), none] [] M1 1 := by
      simp only [s374_0, s374_1, s374_2, s374_3, s374_4, qx_m10, qx_m2, h1, List.length_cons, List.length_nil, Nat.zero_le, Nat.reduceAdd, Nat.reduceLeDiff, Option.bind_some, qx_kn_v, qx_kn_n, Nat.add_zero, Bool.false_eq_true, ↓reduceIte]
      exact qx_kn_c (h := (13, 3)) rfl (by decide +kernel) ⟨rfl, Nat.le_of_ble_eq_true rfl⟩
    rw [hr]
    simp only [s374_13, s374_14, s374_15i, s374_15r, s374_15n, s374_16]
  · rw [if_neg (by decide)] at h1
    obtain ⟨v1, M2, e1, e2, e3, e4, e5, e6⟩ := h2 M1.2
    refine ⟨2, 1, M1, M2, v1, by decide, by decide, ?_, Rs_mono _ _ _ _ _ _ _ _ e1, e4, fun hz => absurd hz (by decide), e5, e6⟩
    have hr : Rs L xs (d + 41) 374 0 [some (.ref 10), some (.int w1), some (.ref 2), none] [] M 0 = Rs L xs (d + 41) 374 16 [some (.ref 10), some (.int w1), some (.ref 2), none] [] M1 1 := by
      simp only [s374_0, s374_1, s374_2, s374_3, s374_4, qx_m10, qx_m2, h1, List.length_cons, List.length_nil, Nat.zero_le, Nat.reduceAdd, Nat.reduceLeDiff, Option.bind_some, qx_kn_v, qx_kn_n, Nat.add_zero, Bool.false_eq_true, ↓reduceIte]
      exact qx_kn_c (h := (16, 3)) rfl (by decide +kernel) ⟨rfl, Nat.le_of_ble_eq_true rfl⟩
    rw [hr]
    simp only [s374_16, s374_17, s374_18, s374_19]
theorem h375 (h : qPairG (fun v : qYd => Value.double v.1) B L xs (d + 40) 139 [some (.ref 10), none] Z zs ke0 M) : qHelp (fun v : qYd => Value.double v.1) qoD B L xs d 375 [some (.ref 10), some (.ref 3), none] Z zs M := by
  obtain ⟨k, v, M1, h1, hk, h2⟩ := h
  have hb := qk_bd (c := (fun v : qYd => Value.double v.1)) 1 h1 hk ke0_b
  rcases (by omega : k = 0 ∨ k = 1) with rfl | rfl
  · rw [if_pos rfl] at h1
    obtain ⟨v1, M2, e1, e2, e3, e4, e5, e6⟩ := h2 (M1.2.1, vf_upd M1.2.2 0 v.1)
    refine ⟨0, 0, (M1.1, M1.2.1, vf_upd M1.2.2 0 v.1), M2, v1, by decide, by decide, ?_, Rs_mono _ _ _ _ _ _ _ _ e1, e4, fun _ => ?_, e5, e6⟩
    · simp only [s375_0, s375_1, s375_2, s375_3, s375_6, s375_7, s375_13, s375_14, qx_m10, qx_m2, h1, List.length_cons, List.length_nil, Nat.zero_le, Nat.reduceAdd, Nat.reduceLeDiff, Option.bind_some, qx_kn_v, qx_kn_n, Nat.add_zero, Bool.false_eq_true, ↓reduceIte]
    · rw [e3 rfl]
      unfold qoD
      rw [e2]
      rfl
  · rw [if_neg (by decide)] at h1
    obtain ⟨v1, M2, e1, e2, e3, e4, e5, e6⟩ := h2 M1.2
    refine ⟨1, 1, M1, M2, v1, by decide, by decide, ?_, Rs_mono _ _ _ _ _ _ _ _ e1, e4, fun hz => absurd hz (by decide), e5, e6⟩
    have hr : Rs L xs (d + 41) 375 0 [some (.ref 10), some (.ref 3), none] [] M 0 = Rs L xs (d + 41) 375 11 [some (.ref 10), some (.ref 3), none] [] M1 1 := by
      simp only [s375_0, s375_1, s375_2, s375_3, qx_m10, qx_m2, h1, List.length_cons, List.length_nil, Nat.zero_le, Nat.reduceAdd, Nat.reduceLeDiff, Option.bind_some, qx_kn_v, qx_kn_n, Nat.add_zero, Bool.false_eq_true, ↓reduceIte]
      exact qx_kn_c (h := (11, 2)) rfl (by decide +kernel) ⟨rfl, Nat.le_of_ble_eq_true rfl⟩
    rw [hr]
    simp only [s375_11, s375_12, s375_13, s375_14]
theorem h376 (h : qPairG (fun v : qYf => Value.float v.1) B L xs (d + 40) 140 [some (.ref 10), none] Z zs ke0 M) : qHelp (fun v : qYf => Value.float v.1) qoF B L xs d 376 [some (.ref 10), some (.ref 3), none] Z zs M := by
  obtain ⟨k, v, M1, h1, hk, h2⟩ := h
  have hb := qk_bd (c := (fun v : qYf => Value.float v.1)) 1 h1 hk ke0_b
  rcases (by omega : k = 0 ∨ k = 1) with rfl | rfl
  · rw [if_pos rfl] at h1
    obtain ⟨v1, M2, e1, e2, e3, e4, e5, e6⟩ := h2 (M1.2.1, vf_upd M1.2.2 0 (FP.f2d v.1))
    refine ⟨0, 0, (M1.1, M1.2.1, vf_upd M1.2.2 0 (FP.f2d v.1)), M2, v1, by decide, by decide, ?_, Rs_mono _ _ _ _ _ _ _ _ e1, e4, fun _ => ?_, e5, e6⟩
    · obtain ⟨hf, -⟩ := v.2
      simp only [s376_0, s376_1, s376_2, s376_3, s376_6, s376_7, s376_8, s376_14, s376_15, qx_m10, qx_m2, h1, hf, List.length_cons, List.length_nil, Nat.zero_le, Nat.reduceAdd, Nat.reduceLeDiff, Option.bind_some, qx_kn_v, qx_kn_n, Nat.add_zero, Bool.false_eq_true, ↓reduceIte]
    · rw [e3 rfl]
      unfold qoF
      rw [e2]
      rfl
  · rw [if_neg (by decide)] at h1
    obtain ⟨v1, M2, e1, e2, e3, e4, e5, e6⟩ := h2 M1.2
    refine ⟨1, 1, M1, M2, v1, by decide, by decide, ?_, Rs_mono _ _ _ _ _ _ _ _ e1, e4, fun hz => absurd hz (by decide), e5, e6⟩
    have hr : Rs L xs (d + 41) 376 0 [some (.ref 10), some (.ref 3), none] [] M 0 = Rs L xs (d + 41) 376 12 [some (.ref 10), some (.ref 3), none] [] M1 1 := by
      simp only [s376_0, s376_1, s376_2, s376_3, qx_m10, qx_m2, h1, List.length_cons, List.length_nil, Nat.zero_le, Nat.reduceAdd, Nat.reduceLeDiff, Option.bind_some, qx_kn_v, qx_kn_n, Nat.add_zero, Bool.false_eq_true, ↓reduceIte]
      exact qx_kn_c (h := (12, 2)) rfl (by decide +kernel) ⟨rfl, Nat.le_of_ble_eq_true rfl⟩
    rw [hr]
    simp only [s376_12, s376_13, s376_14, s376_15]
theorem h377 (h : qPairG Value.int B L xs (d + 40) 141 [some (.ref 10), none, none] Z zs ke0 M) : qHelp Value.int qoI B L xs d 377 [some (.ref 10), some (.ref 2), none] Z zs M := by
  obtain ⟨k, v, M1, h1, hk, h2⟩ := h
  have hb := qk_bd (c := Value.int) 1 h1 hk ke0_b
  rcases (by omega : k = 0 ∨ k = 1) with rfl | rfl
  · rw [if_pos rfl] at h1
    obtain ⟨v1, M2, e1, e2, e3, e4, e5, e6⟩ := h2 (vp_updL M1.2.1 0 v.toInt64, M1.2.2)
    refine ⟨0, 0, (M1.1, vp_updL M1.2.1 0 v.toInt64, M1.2.2), M2, v1, by decide, by decide, ?_, Rs_mono _ _ _ _ _ _ _ _ e1, e4, fun _ => ?_, e5, e6⟩
    · simp only [s377_0, s377_1, s377_2, s377_3, s377_6, s377_7, s377_8, s377_14, s377_15, qx_m10, qx_m2, h1, List.length_cons, List.length_nil, Nat.zero_le, Nat.reduceAdd, Nat.reduceLeDiff, Option.bind_some, qx_kn_v, qx_kn_n, Nat.add_zero, Bool.false_eq_true, ↓reduceIte]
    · rw [e3 rfl]
      unfold qoI
      rw [e2]
      rfl
  · rw [if_neg (by decide)] at h1
    obtain ⟨v1, M2, e1, e2, e3, e4, e5, e6⟩ := h2 M1.2
    refine ⟨1, 1, M1, M2, v1, by decide, by decide, ?_, Rs_mono _ _ _ _ _ _ _ _ e1, e4, fun hz => absurd hz (by decide), e5, e6⟩
    have hr : Rs L xs (d + 41) 377 0 [some (.ref 10), some (.ref 2), none] [] M 0 = Rs L xs (d + 41) 377 12 [some (.ref 10), some (.ref 2), none] [] M1 1 := by
      simp only [s377_0, s377_1, s377_2, s377_3, qx_m10, qx_m2, h1, List.length_cons, List.length_nil, Nat.zero_le, Nat.reduceAdd, Nat.reduceLeDiff, Option.bind_some, qx_kn_v, qx_kn_n, Nat.add_zero, Bool.false_eq_true, ↓reduceIte]
      exact qx_kn_c (h := (12, 2)) rfl (by decide +kernel) ⟨rfl, Nat.le_of_ble_eq_true rfl⟩
    rw [hr]
    simp only [s377_12, s377_13, s377_14, s377_15]
theorem h378 (h : qPairG Value.int B L xs (d + 40) 142 [some (.ref 10), none, none, none] Z zs ke0 M) : qHelp Value.int qoI B L xs d 378 [some (.ref 10), some (.ref 2), none] Z zs M := by
  obtain ⟨k, v, M1, h1, hk, h2⟩ := h
  have hb := qk_bd (c := Value.int) 1 h1 hk ke0_b
  rcases (by omega : k = 0 ∨ k = 1) with rfl | rfl
  · rw [if_pos rfl] at h1
    obtain ⟨v1, M2, e1, e2, e3, e4, e5, e6⟩ := h2 (vp_updL M1.2.1 0 v.toInt64, M1.2.2)
    refine ⟨0, 0, (M1.1, vp_updL M1.2.1 0 v.toInt64, M1.2.2), M2, v1, by decide, by decide, ?_, Rs_mono _ _ _ _ _ _ _ _ e1, e4, fun _ => ?_, e5, e6⟩
    · simp only [s378_0, s378_1, s378_2, s378_3, s378_6, s378_7, s378_8, s378_14, s378_15, qx_m10, qx_m2, h1, List.length_cons, List.length_nil, Nat.zero_le, Nat.reduceAdd, Nat.reduceLeDiff, Option.bind_some, qx_kn_v, qx_kn_n, Nat.add_zero, Bool.false_eq_true, ↓reduceIte]
    · rw [e3 rfl]
      unfold qoI
      rw [e2]
      rfl
  · rw [if_neg (by decide)] at h1
    obtain ⟨v1, M2, e1, e2, e3, e4, e5, e6⟩ := h2 M1.2
    refine ⟨1, 1, M1, M2, v1, by decide, by decide, ?_, Rs_mono _ _ _ _ _ _ _ _ e1, e4, fun hz => absurd hz (by decide), e5, e6⟩
    have hr : Rs L xs (d + 41) 378 0 [some (.ref 10), some (.ref 2), none] [] M 0 = Rs L xs (d + 41) 378 12 [some (.ref 10), some (.ref 2), none] [] M1 1 := by
      simp only [s378_0, s378_1, s378_2, s378_3, qx_m10, qx_m2, h1, List.length_cons, List.length_nil, Nat.zero_le, Nat.reduceAdd, Nat.reduceLeDiff, Option.bind_some, qx_kn_v, qx_kn_n, Nat.add_zero, Bool.false_eq_true, ↓reduceIte]
      exact qx_kn_c (h := (12, 2)) rfl (by decide +kernel) ⟨rfl, Nat.le_of_ble_eq_true rfl⟩
    rw [hr]
    simp only [s378_12, s378_13, s378_14, s378_15]
theorem h379 {w1 : Int32} (h : qPairG Value.int B L xs (d + 40) 143 [some (.ref 10), some (.int w1), none, none] Z zs ke02 M) : qHelp Value.int qoI B L xs d 379 [some (.ref 10), some (.int w1), some (.ref 2), none] Z zs M := by
  obtain ⟨k, v, M1, h1, hk, h2⟩ := h
  have hb := qk_bd (c := Value.int) 2 h1 hk ke02_b
  rcases (by omega : k = 0 ∨ k = 1 ∨ k = 2) with rfl | rfl | rfl
  · rw [if_pos rfl] at h1
    obtain ⟨v1, M2, e1, e2, e3, e4, e5, e6⟩ := h2 (vp_updL M1.2.1 0 v.toInt64, M1.2.2)
    refine ⟨0, 0, (M1.1, vp_updL M1.2.1 0 v.toInt64, M1.2.2), M2, v1, by decide, by decide, ?_, Rs_mono _ _ _ _ _ _ _ _ e1, e4, fun _ => ?_, e5, e6⟩
    · simp only [s379_0, s379_1, s379_2, s379_3, s379_4, s379_7, s379_8, s379_9, s379_18, s379_19, qx_m10, qx_m2, h1, List.length_cons, List.length_nil, Nat.zero_le, Nat.reduceAdd, Nat.reduceLeDiff, Option.bind_some, qx_kn_v, qx_kn_n, Nat.add_zero, Bool.false_eq_true, ↓reduceIte]
    · rw [e3 rfl]
      unfold qoI
      rw [e2]
      rfl
  · rw [if_neg (by decide)] at h1
    obtain ⟨v1, M2, e1, e2, e3, e4, e5, e6⟩ := h2 M1.2
    refine ⟨1, 1, M1, M2, v1, by decide, by decide, ?_, Rs_mono _ _ _ _ _ _ _ _ e1, e4, fun hz => absurd hz (by decide), e5, e6⟩
    have hr : Rs L xs (d + 41) 379 0 [some (.ref 10), some (.int w1), some (.ref 2), none] [] M 0 = Rs L xs (d + 41) 379 13 [some (.ref 10), some (.int w1), some (.ref 2), none] [] M1 1 := by
      simp only [s379_0, s379_1, s379_2, s379_3, s379_4, qx_m10, qx_m2, h1, List.length_cons, List.length_nil, Nat.zero_le, Nat.reduceAdd, Nat.reduceLeDiff, Option.bind_some, qx_kn_v, qx_kn_n, Nat.add_zero, Bool.false_eq_true, ↓reduceIte]
      exact qx_kn_c (h := (13, 3)) rfl (by decide +kernel) ⟨rfl, Nat.le_of_ble_eq_true rfl⟩
    rw [hr]
    simp only [s379_13, s379_14, s379_15i, s379_15r, s379_15n, s379_16]
  · rw [if_neg (by decide)] at h1
    obtain ⟨v1, M2, e1, e2, e3, e4, e5, e6⟩ := h2 M1.2
    refine ⟨2, 1, M1, M2, v1, by decide, by decide, ?_, Rs_mono _ _ _ _ _ _ _ _ e1, e4, fun hz => absurd hz (by decide), e5, e6⟩
    have hr : Rs L xs (d + 41) 379 0 [some (.ref 10), some (.int w1), some (.ref 2), none] [] M 0 = Rs L xs (d + 41) 379 16 [some (.ref 10), some (.int w1), some (.ref 2), none] [] M1 1 := by
      simp only [s379_0, s379_1, s379_2, s379_3, s379_4, qx_m10, qx_m2, h1, List.length_cons, List.length_nil, Nat.zero_le, Nat.reduceAdd, Nat.reduceLeDiff, Option.bind_some, qx_kn_v, qx_kn_n, Nat.add_zero, Bool.false_eq_true, ↓reduceIte]
      exact qx_kn_c (h := (16, 3)) rfl (by decide +kernel) ⟨rfl, Nat.le_of_ble_eq_true rfl⟩
    rw [hr]
    simp only [s379_16, s379_17, s379_18, s379_19]
theorem h380 {w1 : Int32} (h : qPairG Value.int B L xs (d + 40) 144 [some (.ref 10), some (.int w1)] Z zs ke2 M) : qHelp Value.int qoI B L xs d 380 [some (.ref 10), some (.int w1), some (.ref 2), none] Z zs M := by
  obtain ⟨k, v, M1, h1, hk, h2⟩ := h
  have hb := qk_bd (c := Value.int) 1 h1 hk ke2_b
  rcases (by omega : k = 0 ∨ k = 1) with rfl | rfl
  · rw [if_pos rfl] at h1
    obtain ⟨v1, M2, e1, e2, e3, e4, e5, e6⟩ := h2 (vp_updL M1.2.1 0 v.toInt64, M1.2.2)
    refine ⟨0, 0, (M1.1, vp_updL M1.2.1 0 v.toInt64, M1.2.2), M2, v1, by decide, by decide, ?_, Rs_mono _ _ _ _ _ _ _ _ e1, e4, fun _ => ?_, e5, e6⟩
    · simp only [s380_0, s380_1, s380_2, s380_3, s380_4, s380_7, s380_8, s380_9, s380_15, s380_16, qx_m10, qx_m2, h1, List.length_cons, List.length_nil, Nat.zero_le, Nat.reduceAdd, Nat.reduceLeDiff, Option.bind_some, qx_kn_v, qx_kn_n, Nat.add_zero, Bool.false_eq_true, ↓reduceIte]
    · rw [e3 rfl]
      unfold qoI
      rw [e2]
      rfl
  · rw [if_neg (by decide)] at h1
    obtain ⟨v1, M2, e1, e2, e3, e4, e5, e6⟩ := h2 M1.2
    refine ⟨1, 1, M1, M2, v1, by decide, by decide, ?_, Rs_mono _ _ _ _ _ _ _ _ e1, e4, fun hz => absurd hz (by decide), e5, e6⟩
    have hr : Rs L xs (d + 41) 380 0 [some (.ref 10), some (.int w1), some (.ref 2), none] [] M 0 = Rs L xs (d + 41) 380 13 [some (.ref 10), some (.int w1), some (.ref 2), none] [] M1 1 := by
      simp only [s380_0, s380_1, s380_2, s380_3, s380_4, qx_m10, qx_m2, h1, List.length_cons, List.length_nil, Nat.zero_le, Nat.reduceAdd, Nat.reduceLeDiff, Option.bind_some, qx_kn_v, qx_kn_n, Nat.add_zero, Bool.false_eq_true, ↓reduceIte]
      exact qx_kn_c (h := (13, 3)) rfl (by decide +kernel) ⟨rfl, Nat.le_of_ble_eq_true rfl⟩
    rw [hr]
    simp only [s380_13, s380_14, s380_15, s380_16]
theorem h381 {w1 : Int32} (h : qPairG Value.int B L xs (d + 40) 145 [some (.ref 10), some (.int w1)] Z zs ke021 M) : qHelp Value.int qoI B L xs d 381 [some (.ref 10), some (.int w1), some (.ref 2), none] Z zs M := by
  obtain ⟨k, v, M1, h1, hk, h2⟩ := h
  have hb := qk_bd (c := Value.int) 3 h1 hk ke021_b
  rcases (by omega : k = 0 ∨ k = 1 ∨ k = 2 ∨ k = 3) with rfl | rfl | rfl | rfl
  · rw [if_pos rfl] at h1
    obtain ⟨v1, M2, e1, e2, e3, e4, e5, e6⟩ := h2 (vp_updL M1.2.1 0 v.toInt64, M1.2.2)
    refine ⟨0, 0, (M1.1, vp_updL M1.2.1 0 v.toInt64, M1.2.2), M2, v1, by decide, by decide, ?_, Rs_mono _ _ _ _ _ _ _ _ e1, e4, fun _ => ?_, e5, e6⟩
    · simp only [s381_0, s381_1, s381_2, s381_3, s381_4, s381_7, s381_8, s381_9, s381_21, s381_22, qx_m10, qx_m2, h1, List.length_cons, List.length_nil, Nat.zero_le, Nat.reduceAdd, Nat.reduceLeDiff, Option.bind_some, qx_kn_v, qx_kn_n, Nat.add_zero, Bool.false_eq_true, ↓reduceIte]
    · rw [e3 rfl]
      unfold qoI
      rw [e2]
      rfl
  · rw [if_neg (by decide)] at h1
    obtain ⟨v1, M2, e1, e2, e3, e4, e5, e6⟩ := h2 M1.2
    refine ⟨1, 1, M1, M2, v1, by decide, by decide, ?_, Rs_mono _ _ _ _ _ _ _ _ e1, e4, fun hz => absurd hz (by decide), e5, e6⟩
    have hr : Rs L xs (d + 41) 381 0 [some (.ref 10), some (.int w1), some (.ref 2), none] [] M 0 = Rs L xs (d + 41) 381 13 [some (.ref 10), some (.int w1), some (.ref 2), none] [] M1 1 := by
      simp only [s381_0, s381_1, s381_2, s381_3, s381_4, qx_m10, qx_m2, h1, List.length_cons, List.length_nil, Nat.zero_le, Nat.reduceAdd, Nat.reduceLeDiff, Option.bind_some, qx_kn_v, qx_kn_n, Nat.add_zero, Bool.false_eq_true, ↓reduceIte]
      exact qx_kn_c (h := (13, 3)) rfl (by decide +kernel) ⟨rfl, Nat.le_of_ble_eq_true rfl⟩
    rw [hr]
    simp only [s381_13, s381_14, s381_15i, s381_15r, s381_15n, s381_16]
  · rw [if_neg (by decide)] at h1
    obtain ⟨v1, M2, e1, e2, e3, e4, e5, e6⟩ := h2 M1.2
    refine ⟨2, 1, M1, M2, v1, by decide, by decide, ?_, Rs_mono _ _ _ _ _ _ _ _ e1, e4, fun hz => absurd hz (by decide), e5, e6⟩
    have hr : Rs L xs (d + 41) 381 0 [some (.ref 10), some (.int w1), some (.ref 2), none] [] M 0 = Rs L xs (d + 41) 381 16 [some (.ref 10), some (.int w1), some (.ref 2), none] [] M1 1 := by
      simp only [s381_0, s381_1, s381_2, s381_3, s381_4, qx_m10, qx_m2, h1, List.length_cons, List.length_nil, Nat.zero_le, Nat.reduceAdd, Nat.reduceLeDiff, Option.bind_some, qx_kn_v, qx_kn_n, Nat.add_zero, Bool.false_eq_true, ↓reduceIte]
      exact qx_kn_c (h := (16, 3)) rfl (by decide +kernel) ⟨rfl, Nat.le_of_ble_eq_true rfl⟩
    rw [hr]
    simp only [s381_16, s381_17, s381_18i, s381_18r, s381_18n, s381_19]
  · rw [if_neg (by decide)] at h1
    obtain ⟨v1, M2, e1, e2, e3, e4, e5, e6⟩ := h2 M1.2
    refine ⟨3, 1, M1, M2, v1, by decide, by decide, ?_, Rs_mono _ _ _ _ _ _ _ _ e1, e4, fun hz => absurd hz (by decide), e5, e6⟩
    have hr : Rs L xs (d + 41) 381 0 [some (.ref 10), some (.int w1), some (.ref 2), none] [] M 0 = Rs L xs (d + 41) 381 19 [some (.ref 10), some (.int w1), some (.ref 2), none] [] M1 1 := by
      simp only [s381_0, s381_1, s381_2, s381_3, s381_4, qx_m10, qx_m2, h1, List.length_cons, List.length_nil, Nat.zero_le, Nat.reduceAdd, Nat.reduceLeDiff, Option.bind_some, qx_kn_v, qx_kn_n, Nat.add_zero, Bool.false_eq_true, ↓reduceIte]
      exact qx_kn_c (h := (19, 3)) rfl (by decide +kernel) ⟨rfl, Nat.le_of_ble_eq_true rfl⟩
    rw [hr]
    simp only [s381_19, s381_20, s381_21, s381_22]
theorem h382 (h : qPairG Value.int B L xs (d + 40) 146 [some (.ref 10)] Z zs ke01 M) : qHelp Value.int qoI B L xs d 382 [some (.ref 10), some (.ref 2), none] Z zs M := by
  obtain ⟨k, v, M1, h1, hk, h2⟩ := h
  have hb := qk_bd (c := Value.int) 2 h1 hk ke01_b
  rcases (by omega : k = 0 ∨ k = 1 ∨ k = 2) with rfl | rfl | rfl
  · rw [if_pos rfl] at h1
    obtain ⟨v1, M2, e1, e2, e3, e4, e5, e6⟩ := h2 (vp_updL M1.2.1 0 v.toInt64, M1.2.2)
    refine ⟨0, 0, (M1.1, vp_updL M1.2.1 0 v.toInt64, M1.2.2), M2, v1, by decide, by decide, ?_, Rs_mono _ _ _ _ _ _ _ _ e1, e4, fun _ => ?_, e5, e6⟩
    · simp only [s382_0, s382_1, s382_2, s382_3, s382_6, s382_7, s382_8, s382_17, s382_18, qx_m10, qx_m2, h1, List.length_cons, List.length_nil, Nat.zero_le, Nat.reduceAdd, Nat.reduceLeDiff, Option.bind_some, qx_kn_v, qx_kn_n, Nat.add_zero, Bool.false_eq_true, ↓reduceIte]
    · rw [e3 rfl]
      unfold qoI
      rw [e2]
      rfl
  · rw [if_neg (by decide)] at h1
    obtain ⟨v1, M2, e1, e2, e3, e4, e5, e6⟩ := h2 M1.2
    refine ⟨1, 1, M1, M2, v1, by decide, by decide, ?_, Rs_mono _ _ _ _ _ _ _ _ e1, e4, fun hz => absurd hz (by decide), e5, e6⟩
    have hr : Rs L xs (d + 41) 382 0 [some (.ref 10), some (.ref 2), none] [] M 0 = Rs L xs (d + 41) 382 12 [some (.ref 10), some (.ref 2), none] [] M1 1 := by
      simp only [s382_0, s382_1, s382_2, s382_3, qx_m10, qx_m2, h1, List.length_cons, List.length_nil, Nat.zero_le, Nat.reduceAdd, Nat.reduceLeDiff, Option.bind_some, qx_kn_v, qx_kn_n, Nat.add_zero, Bool.false_eq_true, ↓reduceIte]
      exact qx_kn_c (h := (12, 2)) rfl (by decide +kernel) ⟨rfl, Nat.le_of_ble_eq_true rfl⟩
    rw [hr]
    simp only [s382_12, s382_13, s382_14i, s382_14r, s382_14n, s382_15]
  · rw [if_neg (by decide)] at h1
    obtain ⟨v1, M2, e1, e2, e3, e4, e5, e6⟩ := h2 M1.2
    refine ⟨2, 1, M1, M2, v1, by decide, by decide, ?_, Rs_mono _ _ _ _ _ _ _ _ e1, e4, fun hz => absurd hz (by decide), e5, e6⟩
    have hr : Rs L xs (d + 41) 382 0 [some (.ref 10), some (.ref 2), none] [] M 0 = Rs L xs (d + 41) 382 15 [some (.ref 10), some (.ref 2), none] [] M1 1 := by
      simp only [s382_0, s382_1, s382_2, s382_3, qx_m10, qx_m2, h1, List.length_cons, List.length_nil, Nat.zero_le, Nat.reduceAdd, Nat.reduceLeDiff, Option.bind_some, qx_kn_v, qx_kn_n, Nat.add_zero, Bool.false_eq_true, ↓reduceIte]
      exact qx_kn_c (h := (15, 2)) rfl (by decide +kernel) ⟨rfl, Nat.le_of_ble_eq_true rfl⟩
    rw [hr]
    simp only [s382_15, s382_16, s382_17, s382_18]
theorem h383 (h : qPairG Value.int B L xs (d + 40) 147 [some (.ref 10)] Z zs ke01 M) : qHelp Value.int qoI B L xs d 383 [some (.ref 10), some (.ref 2), none] Z zs M := by
  obtain ⟨k, v, M1, h1, hk, h2⟩ := h
  have hb := qk_bd (c := Value.int) 2 h1 hk ke01_b
  rcases (by omega : k = 0 ∨ k = 1 ∨ k = 2) with rfl | rfl | rfl
  · rw [if_pos rfl] at h1
    obtain ⟨v1, M2, e1, e2, e3, e4, e5, e6⟩ := h2 (vp_updL M1.2.1 0 v.toInt64, M1.2.2)
    refine ⟨0, 0, (M1.1, vp_updL M1.2.1 0 v.toInt64, M1.2.2), M2, v1, by decide, by decide, ?_, Rs_mono _ _ _ _ _ _ _ _ e1, e4, fun _ => ?_, e5, e6⟩
    · simp only [s383_0, s383_1, s383_2, s383_3, s383_6, s383_7, s383_8, s383_17, s383_18, qx_m10, qx_m2, h1, List.length_cons, List.length_nil, Nat.zero_le, Nat.reduceAdd, Nat.reduceLeDiff, Option.bind_some, qx_kn_v, qx_kn_n, Nat.add_zero, Bool.false_eq_true, ↓reduceIte]
    · rw [e3 rfl]
      unfold qoI
      rw [e2]
      rfl
  · rw [if_neg (by decide)] at h1
    obtain ⟨v1, M2, e1, e2, e3, e4, e5, e6⟩ := h2 M1.2
    refine ⟨1, 1, M1, M2, v1, by decide, by decide, ?_, Rs_mono _ _ _ _ _ _ _ _ e1, e4, fun hz => absurd hz (by decide), e5, e6⟩
    have hr : Rs L xs (d + 41) 383 0 [some (.ref 10), some (.ref 2), none] [] M 0 = Rs L xs (d + 41) 383 12 [some (.ref 10), some (.ref 2), none] [] M1 1 := by
      simp only [s383_0, s383_1, s383_2, s383_3, qx_m10, qx_m2, h1, List.length_cons, List.length_nil, Nat.zero_le, Nat.reduceAdd, Nat.reduceLeDiff, Option.bind_some, qx_kn_v, qx_kn_n, Nat.add_zero, Bool.false_eq_true, ↓reduceIte]
      exact qx_kn_c (h := (12, 2)) rfl (by decide +kernel) ⟨rfl, Nat.le_of_ble_eq_true rfl⟩
    rw [hr]
    simp only [s383_12, s383_13, s383_14i, s383_14r, s383_14n, s383_15]
  · rw [if_neg (by decide)] at h1
    obtain ⟨v1, M2, e1, e2, e3, e4, e5, e6⟩ := h2 M1.2
    refine ⟨2, 1, M1, M2, v1, by decide, by decide, ?_, Rs_mono _ _ _ _ _ _ _ _ e1, e4, fun hz => absurd hz (by decide), e5, e6⟩
    have hr : Rs L xs (d + 41) 383 0 [some (.ref 10), some (.ref 2), none] [] M 0 = Rs L xs (d + 41) 383 15 [some (.ref 10), some (.ref 2), none] [] M1 1 := by
      simp only [s383_0, s383_1, s383_2, s383_3, qx_m10, qx_m2, h1, List.length_cons, List.length_nil, Nat.zero_le, Nat.reduceAdd, Nat.reduceLeDiff, Option.bind_some, qx_kn_v, qx_kn_n, Nat.add_zero, Bool.false_eq_true, ↓reduceIte]
      exact qx_kn_c (h := (15, 2)) rfl (by decide +kernel) ⟨rfl, Nat.le_of_ble_eq_true rfl⟩
    rw [hr]
    simp only [s383_15, s383_16, s383_17, s383_18]
theorem h384 (h : qPairG Value.int B L xs (d + 40) 148 [some (.ref 10), none] Z zs ke0 M) : qHelp Value.int qoI B L xs d 384 [some (.ref 10), some (.ref 2), none] Z zs M := by
  obtain ⟨k, v, M1, h1, hk, h2⟩ := h
  have hb := qk_bd (c := Value.int) 1 h1 hk ke0_b
  rcases (by omega : k = 0 ∨ k = 1) with rfl | rfl
  · rw [if_pos rfl] at h1
    obtain ⟨v1, M2, e1, e2, e3, e4, e5, e6⟩ := h2 (vp_updL M1.2.1 0 v.toInt64, M1.2.2)
    refine ⟨0, 0, (M1.1, vp_updL M1.2.1 0 v.toInt64, M1.2.2), M2, v1, by decide, by decide, ?_, Rs_mono _ _ _ _ _ _ _ _ e1, e4, fun _ => ?_, e5, e6⟩
    · simp only [s384_0, s384_1, s384_2, s384_3, s384_6, s384_7, s384_8, s384_14, s384_15, qx_m10, qx_m2, h1, List.length_cons, List.length_nil, Nat.zero_le, Nat.reduceAdd, Nat.reduceLeDiff, Option.bind_some, qx_kn_v, qx_kn_n, Nat.add_zero, Bool.false_eq_true, ↓reduceIte]
    · rw [e3 rfl]
      unfold qoI
      rw [e2]
      rfl
  · rw [if_neg (by decide)] at h1
    obtain ⟨v1, M2, e1, e2, e3, e4, e5, e6⟩ := h2 M1.2
    refine ⟨1, 1, M1, M2, v1, by decide, by decide, ?_, Rs_mono _ _ _ _ _ _ _ _ e1, e4, fun hz => absurd hz (by decide), e5, e6⟩
    have hr : Rs L xs (d + 41) 384 0 [some (.ref 10), some (.ref 2), none] [] M 0 = Rs L xs (d + 41) 384 12 [some (.ref 10), some (.ref 2), none] [] M1 1 := by
      simp only [s384_0, s384_1, s384_2, s384_3, qx_m10, qx_m2, h1, List.length_cons, List.length_nil, Nat.zero_le, Nat.reduceAdd, Nat.reduceLeDiff, Option.bind_some, qx_kn_v, qx_kn_n, Nat.add_zero, Bool.false_eq_true, ↓reduceIte]
      exact qx_kn_c (h := (12, 2)) rfl (by decide +kernel) ⟨rfl, Nat.le_of_ble_eq_true rfl⟩
    rw [hr]
    simp only [s384_12, s384_13, s384_14, s384_15]
theorem h385 {w1 w2 : Int32} (h : qPairG Value.int B L xs (d + 40) 149 [some (.ref 10), some (.int w1), some (.int w2)] Z zs ke021 M) : qHelp Value.int qoI B L xs d 385 [some (.ref 10), some (.int w1), some (.int w2), some (.ref 2), none] Z zs M := by
  obtain ⟨k, v, M1, h1, hk, h2⟩ := h
  have hb := qk_bd (c := Value.int) 3 h1 hk ke021_b
  rcases (by omega : k = 0 ∨ k = 1 ∨ k = 2 ∨ k = 3) with rfl | rfl | rfl | rfl
  · rw [if_pos rfl] at h1
    obtain ⟨v1, M2, e1, e2, e3, e4, e5, e6⟩ := h2 (vp_updL M1.2.1 0 v.toInt64, M1.2.2)
    refine ⟨0, 0, (M1.1, vp_updL M1.2.1 0 v.toInt64, M1.2.2), M2, v1, by decide, by decide, ?_, Rs_mono _ _ _ _ _ _ _ _ e1, e4, fun _ => ?_, e5, e6⟩
    · simp only [s385_0, s385_1, s385_2, s385_3, s385_4, s385_5, s385_8, s385_9, s385_10, s385_25, s385_26, qx_m10, qx_m2, h1, List.length_cons, List.length_nil, Nat.zero_le, Nat.reduceAdd, Nat.reduceLeDiff, Option.bind_some, qx_kn_v, qx_kn_n, Nat.add_zero, Bool.false_eq_true, ↓reduceIte]
    · rw [e3 rfl]
      unfold qoI
      rw [e2]
      rfl
  · rw [if_neg (by decide)] at h1
    obtain ⟨v1, M2, e1, e2, e3, e4, e5, e6⟩ := h2 M1.2
    refine ⟨1, 1, M1, M2, v1, by decide, by decide, ?_, Rs_mono _ _ _ _ _ _ _ _ e1, e4, fun hz => absurd hz (by decide), e5, e6⟩
    have hr : Rs L xs (d + 41) 385 0 [some (.ref 10), some (.int w1), some (.int w2), some (.ref 2), none] [] M 0 = Rs L xs (d + 41) 385 15 [some (.ref 10), some (.int w1), some (.int w2), some (.ref 2), none] [] M1 1 := by
      simp only [s385_0, s385_1, s385_2, s385_3, s385_4, s385_5, qx_m10, qx_m2, h1, List.length_cons, List.length_nil, Nat.zero_le, Nat.reduceAdd, Nat.reduceLeDiff, Option.bind_some, qx_kn_v, qx_kn_n, Nat.add_zero, Bool.false_eq_true, ↓reduceIte]
      exact qx_kn_c (h := (15, 4)) rfl (by decide +kernel) ⟨rfl, Nat.le_of_ble_eq_true rfl⟩
    rw [hr]
    simp only [s385_15, s385_16, s385_17i, s385_17r, s385_17n]
  · rw [if_neg (by decide)] at h1
    obtain ⟨v1, M2, e1, e2, e3, e4, e5, e6⟩ := h2 M1.2
    refine ⟨2, 1, M1, M2, v1, by decide, by decide, ?_, Rs_mono _ _ _ _ _ _ _ _ e1, e4, fun hz => absurd hz (by decide), e5, e6⟩
    have hr : Rs L xs (d + 41) 385 0 [some (.ref 10), some (.int w1), some (.int w2), some (.ref 2), none] [] M 0 = Rs L xs (d + 41) 385 19 [some (.ref 10), some (.int w1), some (.int w2), some (.ref 2), none] [] M1 1 := by
      simp only [s385_0, s385_1, s385_2, s385_3, s385_4, s385_5, qx_m10, qx_m2, h1, List.length_cons, List.length_nil, Nat.zero_le, Nat.reduceAdd, Nat.reduceLeDiff, Option.bind_some, qx_kn_v, qx_kn_n, Nat.add_zero, Bool.false_eq_true, ↓reduceIte]
      exact qx_kn_c (h := (19, 4)) rfl (by decide +kernel) ⟨rfl, Nat.le_of_ble_eq_true rfl⟩
    rw [hr]
    simp only [s385_19, s385_20, s385_21i, s385_21r, s385_21n]
  · rw [if_neg (by decide)] at h1
    obtain ⟨v1, M2, e1, e2, e3, e4, e5, e6⟩ := h2 M1.2
    refine ⟨3, 1, M1, M2, v1, by decide, by decide, ?_, Rs_mono _ _ _ _ _ _ _ _ e1, e4, fun hz => absurd hz (by decide), e5, e6⟩
    have hr : Rs L xs (d + 41) 385 0 [some (.ref 10), some (.int w1), some (.int w2), some (.ref 2), none] [] M 0 = Rs L xs (d + 41) 385 23 [some (.ref 10), some (.int w1), some (.int w2), some (.ref 2), none] [] M1 1 := by
      simp only [s385_0, s385_1, s385_2, s385_3, s385_4, s385_5, qx_m10, qx_m2, h1, List.length_cons, List.length_nil, Nat.zero_le, Nat.reduceAdd, Nat.reduceLeDiff, Option.bind_some, qx_kn_v, qx_kn_n, Nat.add_zero, Bool.false_eq_true, ↓reduceIte]
      exact qx_kn_c (h := (23, 4)) rfl (by decide +kernel) ⟨rfl, Nat.le_of_ble_eq_true rfl⟩
    rw [hr]
    simp only [s385_23, s385_24, s385_25, s385_26]
theorem h386 {w1 : Int32} (h : qPairG Value.int B L xs (d + 40) 150 [some (.ref 10), some (.int w1), none] Z zs ke021 M) : qHelp Value.int qoI B L xs d 386 [some (.ref 10), some (.int w1), some (.ref 2), none] Z zs M := by
  obtain ⟨k, v, M1, h1, hk, h2⟩ := h
  have hb := qk_bd (c := Value.int) 3 h1 hk ke021_b
  rcases (by omega : k = 0 ∨ k = 1 ∨ k = 2 ∨ k = 3) with rfl | rfl | rfl | rfl
  · rw [if_pos rfl] at h1
    obtain ⟨v1, M2, e1, e2, e3, e4, e5, e6⟩ := h2 (vp_updL M1.2.1 0 v.toInt64, M1.2.2)
    refine ⟨0, 0, (M1.1, vp_updL M1.2.1 0 v.toInt64, M1.2.2), M2, v1, by decide, by decide, ?_, Rs_mono _ _ _ _ _ _ _ _ e1, e4, fun _ => ?_, e5, e6⟩
    · simp only [s386_0, s386_1, s386_2, s386_3, s386_4, s386_7, s386_8, s386_9, s386_21, s386_22, qx_m10, qx_m2, h1, List.length_cons, List.length_nil, Nat.zero_le, Nat.reduceAdd, Nat.reduceLeDiff, Option.bind_some, qx_kn_v, qx_kn_n, Nat.add_zero, Bool.false_eq_true, ↓reduceIte]
    · rw [e3 rfl]
      unfold qoI
      rw [e2]
      rfl
  · rw [if_neg (by decide)] at h1
    obtain ⟨v1, M2, e1, e2, e3, e4, e5, e6⟩ := h2 M1.2
    refine ⟨1, 1, M1, M2, v1, by decide, by decide, ?_, Rs_mono _ _ _ _ _ _ _ _ e1, e4, fun hz => absurd hz (by decide), e5, e6⟩
    have hr : Rs L xs (d + 41) 386 0 [some (.ref 10), some (.int w1), some (.ref 2), none] [] M 0 = Rs L xs (d + 41) 386 13 [some (.ref 10), some (.int w1), some (.ref 2), none] [] M1 1 := by
      simp only [s386_0, s386_1, s386_2, s386_3, s386_4, qx_m10, qx_m2, h1, List.length_cons, List.length_nil, Nat.zero_le, Nat.reduceAdd, Nat.reduceLeDiff, Option.bind_some, qx_kn_v, qx_kn_n, Nat.add_zero, Bool.false_eq_true, ↓reduceIte]
      exact qx_kn_c (h := (13, 3)) rfl (by decide +kernel) ⟨rfl, Nat.le_of_ble_eq_true rfl⟩
    rw [hr]
    simp only [s386_13, s386_14, s386_15i, s386_15r, s386_15n, s386_16]
  · rw [if_neg (by decide)] at h1
    obtain ⟨v1, M2, e1, e2, e3, e4, e5, e6⟩ := h2 M1.2
    refine ⟨2, 1, M1, M2, v1, by decide, by decide, ?_, Rs_mono _ _ _ _ _ _ _ _ e1, e4, fun hz => absurd hz (by decide), e5, e6⟩
    have hr : Rs L xs (d + 41) 386 0 [some (.ref 10), some (.int w1), some (.ref 2), none] [] M 0 = Rs L xs (d + 41) 386 16 [some (.ref 10), some (.int w1), some (.ref 2), none] [] M1 1 := by
      simp only [s386_0, s386_1, s386_2, s386_3, s386_4, qx_m10, qx_m2, h1, List.length_cons, List.length_nil, Nat.zero_le, Nat.reduceAdd, Nat.reduceLeDiff, Option.bind_some, qx_kn_v, qx_kn_n, Nat.add_zero, Bool.false_eq_true, ↓reduceIte]
      exact qx_kn_c (h := (16, 3)) rfl (by decide +kernel) ⟨rfl, Nat.le_of_ble_eq_true rfl⟩
    rw [hr]
    simp only [s386_16, s386_17, s386_18i, s386_18r, s386_18n, s386_19]
  · rw [if_neg (by decide)] at h1
    obtain ⟨v1, M2, e1, e2, e3, e4, e5, e6⟩ := h2 M1.2
    refine ⟨3, 1, M1, M2, v1, by decide, by decide, ?_, Rs_mono _ _ _ _ _ _ _ _ e1, e4, fun hz => absurd hz (by decide), e5, e6⟩
    have hr : Rs L xs (d + 41) 386 0 [some (.ref 10), some (.int w1), some (.ref 2), none] [] M 0 = Rs L xs (d + 41) 386 19 [some (.ref 10), some (.int w1), some (.ref 2), none] [] M1 1 := by
      simp only [s386_0, s386_1, s386_2, s386_3, s386_4, qx_m10, qx_m2, h1, List.length_cons, List.length_nil, Nat.zero_le, Nat.reduceAdd, Nat.reduceLeDiff, Option.bind_some, qx_kn_v, qx_kn_n, Nat.add_zero, Bool.false_eq_true, ↓reduceIte]
      exact qx_kn_c (h := (19, 3)) rfl (by decide +kernel) ⟨rfl, Nat.le_of_ble_eq_true rfl⟩
    rw [hr]
    simp only [s386_19, s386_20, s386_21, s386_22]
theorem h387 {w1 : Int32} (h : qPairG Value.int B L xs (d + 40) 151 [some (.ref 10), some (.int w1)] Z zs ke021 M) : qHelp Value.int qoI B L xs d 387 [some (.ref 10), some (.int w1), some (.ref 2), none] Z zs M := by
  obtain ⟨k, v, M1, h1, hk, h2⟩ := h
  have hb := qk_bd (c := Value.int) 3 h1 hk ke021_b
  rcases (by omega : k = 0 ∨ k = 1 ∨ k = 2 ∨ k = 3) with rfl | rfl | rfl | rfl
  · rw [if_pos rfl] at h1
    obtain ⟨v1, M2, e1, e2, e3, e4, e5, e6⟩ := h2 (vp_updL M1.2.1 0 v.toInt64, M1.2.2)
    refine ⟨0, 0, (M1.1, vp_updL M1.2.1 0 v.toInt64, M1.2.2), M2, v1, by decide, by decide, ?_, Rs_mono _ _ _ _ _ _ _ _ e1, e4, fun _ => ?_, e5, e6⟩
    · simp only [s387_0, s387_1, s387_2, s387_3, s387_4, s387_7, s387_8, s387_9, s387_21, s387_22, qx_m10, qx_m2, h1, List.length_cons, List.length_nil, Nat.zero_le, Nat.reduceAdd, Nat.reduceLeDiff, Option.bind_some, qx_kn_v, qx_kn_n, Nat.add_zero, Bool.false_eq_true, ↓reduceIte]
    · rw [e3 rfl]
      unfold qoI
      rw [e2]
      rfl
  · rw [if_neg (by decide)] at h1
    obtain ⟨v1, M2, e1, e2, e3, e4, e5, e6⟩ := h2 M1.2
    refine ⟨1, 1, M1, M2, v1, by decide, by decide, ?_, Rs_mono _ _ _ _ _ _ _ _ e1, e4, fun hz => absurd hz (by decide), e5, e6⟩
    have hr : Rs L xs (d + 41) 387 0 [some (.ref 10), some (.int w1), some (.ref 2), none] [] M 0 = Rs L xs (d + 41) 387 13 [some (.ref 10), some (.int w1), some (.ref 2), none] [] M1 1 := by
      simp only [s387_0, s387_1, s387_2, s387_3, s387_4, qx_m10, qx_m2, h1, List.length_cons, List.length_nil, Nat.zero_le, Nat.reduceAdd, Nat.reduceLeDiff, Option.bind_some, qx_kn_v, qx_kn_n, Nat.add_zero, Bool.false_eq_true, ↓reduceIte]
      exact qx_kn_c (h := (13, 3)) rfl (by decide +kernel) ⟨rfl, Nat.le_of_ble_eq_true rfl⟩
    rw [hr]
    simp only [s387_13, s387_14, s387_15i, s387_15r, s387_15n, s387_16]
  · rw [if_neg (by decide)] at h1
    obtain ⟨v1, M2, e1, e2, e3, e4, e5, e6⟩ := h2 M1.2
    refine ⟨2, 1, M1, M2, v1, by decide, by decide, ?_, Rs_mono _ _ _ _ _ _ _ _ e1, e4, fun hz => absurd hz (by decide), e5, e6⟩
    have hr : Rs L xs (d + 41) 387 0 [some (.ref 10), some (.int w1), some (.ref 2), none] [] M 0 = Rs L xs (d + 41) 387 16 [some (.ref 10), some (.int w1), some (.ref 2), none] [] M1 1 := by
      simp only [s387_0, s387_1, s387_2, s387_3, s387_4, qx_m10, qx_m2, h1, List.length_cons, List.length_nil, Nat.zero_le, Nat.reduceAdd, Nat.reduceLeDiff, Option.bind_some, qx_kn_v, qx_kn_n, Nat.add_zero, Bool.false_eq_true, ↓reduceIte]
      exact qx_kn_c (h := (16, 3)) rfl (by decide +kernel) ⟨rfl, Nat.le_of_ble_eq_true rfl⟩
    rw [hr]
    simp only [s387_16, s387_17, s387_18i, s387_18r, s387_18n, s387_19]
  · rw [if_neg (by decide)] at h1
    obtain ⟨v1, M2, e1, e2, e3, e4, e5, e6⟩ := h2 M1.2
    refine ⟨3, 1, M1, M2, v1, by decide, by decide, ?_, Rs_mono _ _ _ _ _ _ _ _ e1, e4, fun hz => absurd hz (by decide), e5, e6⟩
    have hr : Rs L xs (d + 41) 387 0 [some (.ref 10), some (.int w1), some (.ref 2), none] [] M 0 = Rs L xs (d + 41) 387 19 [some (.ref 10), some (.int w1), some (.ref 2), none] [] M1 1 := by
      simp only [s387_0, s387_1, s387_2, s387_3, s387_4, qx_m10, qx_m2, h1, List.length_cons, List.length_nil, Nat.zero_le, Nat.reduceAdd, Nat.reduceLeDiff, Option.bind_some, qx_kn_v, qx_kn_n, Nat.add_zero, Bool.false_eq_true, ↓reduceIte]
      exact qx_kn_c (h := (19, 3)) rfl (by decide +kernel) ⟨rfl, Nat.le_of_ble_eq_true rfl⟩
    rw [hr]
    simp only [s387_19, s387_20, s387_21, s387_22]
theorem h388 {w1 w2 w3 : Int32} (h : qPairG Value.int B L xs (d + 40) 152 [some (.ref 10), some (.int w1), some (.int w2), some (.int w3)] Z zs ke021 M) : qHelp Value.int qoI B L xs d 388 [some (.ref 10), some (.int w1), some (.int w2), some (.int w3), some (.ref 2), none] Z zs M := by
  obtain ⟨k, v, M1, h1, hk, h2⟩ := h
  have hb := qk_bd (c := Value.int) 3 h1 hk ke021_b
  rcases (by omega : k = 0 ∨ k = 1 ∨ k = 2 ∨ k = 3) with rfl | rfl | rfl | rfl
  · rw [if_pos rfl] at h1
    obtain ⟨v1, M2, e1, e2, e3, e4, e5, e6⟩ := h2 (vp_updL M1.2.1 0 v.toInt64, M1.2.2)
    refine ⟨0, 0, (M1.1, vp_updL M1.2.1 0 v.toInt64, M1.2.2), M2, v1, by decide, by decide, ?_, Rs_mono _ _ _ _ _ _ _ _ e1, e4, fun _ => ?_, e5, e6⟩
    · simp only [s388_0, s388_2, s388_3, s388_4, s388_5, s388_6, s388_7, s388_10, s388_11, s388_12, s388_27, s388_28, qx_m10, qx_m2, h1, List.length_cons, List.length_nil, Nat.zero_le, Nat.reduceAdd, Nat.reduceLeDiff, Option.bind_some, qx_kn_v, qx_kn_n, Nat.add_zero, Bool.false_eq_true, ↓reduceIte]
    · rw [e3 rfl]
      unfold qoI
      rw [e2]
      rfl
  · rw [if_neg (by decide)] at h1
    obtain ⟨v1, M2, e1, e2, e3, e4, e5, e6⟩ := h2 M1.2
    refine ⟨1, 1, M1, M2, v1, by decide, by decide, ?_, Rs_mono _ _ _ _ _ _ _ _ e1, e4, fun hz => absurd hz (by decide), e5, e6⟩
    have hr : Rs L xs (d + 41) 388 0 [some (.ref 10), some (.int w1), some (.int w2), some (.int w3), some (.ref 2), none] [] M 0 = Rs L xs (d + 41) 388 17 [some (.ref 10), some (.int w1), some (.int w2), some (.int w3), some (.ref 2), none] [] M1 1 := by
      simp only [s388_0, s388_2, s388_3, s388_4, s388_5, s388_6, s388_7, qx_m10, qx_m2, h1, List.length_cons, List.length_nil, Nat.zero_le, Nat.reduceAdd, Nat.reduceLeDiff, Option.bind_some, qx_kn_v, qx_kn_n, Nat.add_zero, Bool.false_eq_true, ↓reduceIte]
      exact qx_kn_c (h := (17, 5)) rfl (by decide +kernel) ⟨rfl, Nat.le_of_ble_eq_true rfl⟩
    rw [hr]
    simp only [s388_17, s388_18, s388_19i, s388_19r, s388_19n]
  · rw [if_neg (by decide)] at h1
    obtain ⟨v1, M2, e1, e2, e3, e4, e5, e6⟩ := h2 M1.2
    refine ⟨2, 1, M1, M2, v1, by decide, by decide, ?_, Rs_mono _ _ _ _ _ _ _ _ e1, e4, fun hz => absurd hz (by decide), e5, e6⟩
    have hr : Rs L xs (d + 41) 388 0 [some (.ref 10), some (.int w1), some (.int w2), some (.int w3), some (.ref 2), none] [] M 0 = Rs L xs (d + 41) 388 21 [some (.ref 10), some (.int w1), some (.int w2), some (.int w3), some (.ref 2), none] [] M1 1 := by
      simp only [s388_0, s388_2, s388_3, s388_4, s388_5, s388_6, s388_7, qx_m10, qx_m2, h1, List.length_cons, List.length_nil, Nat.zero_le, Nat.reduceAdd, Nat.reduceLeDiff, Option.bind_some, qx_kn_v, qx_kn_n, Nat.add_zero, Bool.false_eq_true, ↓reduceIte]
      exact qx_kn_c (h := (21, 5)) rfl (by decide +kernel) ⟨rfl, Nat.le_of_ble_eq_true rfl⟩
    rw [hr]
    simp only [s388_21, s388_22, s388_23i, s388_23r, s388_23n]
  · rw [if_neg (by decide)] at h1
    obtain ⟨v1, M2, e1, e2, e3, e4, e5, e6⟩ := h2 M1.2
    refine ⟨3, 1, M1, M2, v1, by decide, by decide, ?_, Rs_mono _ _ _ _ _ _ _ _ e1, e4, fun hz => absurd hz (by decide), e5, e6⟩
    have hr : Rs L xs (d + 41) 388 0 [some (.ref 10), some (.int w1), some (.int w2), some (.int w3), some (.ref 2), none] [] M 0 = Rs L xs (d + 41) 388 25 [some (.ref 10), some (.int w1), some (.int w2), some (.int w3), some (.ref 2), none] [] M1 1 := by
      simp only [s388_0, s388_2, s388_3, s388_4, s388_5, s388_6, s388_7, qx_m10, qx_m2, h1, List.length_cons, List.length_nil, Nat.zero_le, Nat.reduceAdd, Nat.reduceLeDiff, Option.bind_some, qx_kn_v, qx_kn_n, Nat.add_zero, Bool.false_eq_true, ↓reduceIte]
      exact qx_kn_c (h := (25, 5)) rfl (by decide +kernel) ⟨rfl, Nat.le_of_ble_eq_true rfl⟩
    rw [hr]
    simp only [s388_25, s388_26, s388_27, s388_28]
theorem h389 {w1 w2 : Int32} (h : qPairG Value.int B L xs (d + 40) 153 [some (.ref 10), some (.int w1), some (.int w2), none] Z zs ke021 M) : qHelp Value.int qoI B L xs d 389 [some (.ref 10), some (.int w1), some (.int w2), some (.ref 2), none] Z zs M := by
  obtain ⟨k, v, M1, h1, hk, h2⟩ := h
  have hb := qk_bd (c := Value.int) 3 h1 hk ke021_b
  rcases (by omega : k = 0 ∨ k = 1 ∨ k = 2 ∨ k = 3) with rfl | rfl | rfl | rfl
  · rw [if_pos rfl] at h1
    obtain ⟨v1, M2, e1, e2, e3, e4, e5, e6⟩ := h2 (vp_updL M1.2.1 0 v.toInt64, M1.2.2)
    refine ⟨0, 0, (M1.1, vp_updL M1.2.1 0 v.toInt64, M1.2.2), M2, v1, by decide, by decide, ?_, Rs_mono _ _ _ _ _ _ _ _ e1, e4, fun _ => ?_, e5, e6⟩
    · simp only [s389_0, s389_1, s389_2, s389_3, s389_4, s389_5, s389_8, s389_9, s389_10, s389_25, s389_26, qx_m10, qx_m2, h1, List.length_cons, List.length_nil, Nat.zero_le, Nat.reduceAdd, Nat.reduceLeDiff, Option.bind_some, qx_kn_v, qx_kn_n, Nat.add_zero, Bool.false_eq_true, ↓reduceIte]
    · rw [e3 rfl]
      unfold qoI
      rw [e2]
      rfl
  · rw [if_neg (by decide)] at h1
    obtain ⟨v1, M2, e1, e2, e3, e4, e5, e6⟩ := h2 M1.2
    refine ⟨1, 1, M1, M2, v1, by decide, by decide, ?_, Rs_mono _ _ _ _ _ _ _ _ e1, e4, fun hz => absurd hz (by decide), e5, e6⟩
    have hr : Rs L xs (d + 41) 389 0 [some (.ref 10), some (.int w1), some (.int w2), some (.ref 2), none] [] M 0 = Rs L xs (d + 41) 389 15 [some (.ref 10), some (.int w1), some (.int w2), some (.ref 2), none] [] M1 1 := by
      simp only [s389_0, s389_1, s389_2, s389_3, s389_4, s389_5, qx_m10, qx_m2, h1, List.length_cons, List.length_nil, Nat.zero_le, Nat.reduceAdd, Nat.reduceLeDiff, Option.bind_some, qx_kn_v, qx_kn_n, Nat.add_zero, Bool.false_eq_true, ↓reduceIte]
      exact qx_kn_c (h := (15, 4)) rfl (by decide +kernel) ⟨rfl, Nat.le_of_ble_eq_true rfl⟩
    rw [hr]
    simp only [s389_15, s389_16, s389_17i, s389_17r, s389_17n]
  · rw [if_neg (by decide)] at h1
    obtain ⟨v1, M2, e1, e2, e3, e4, e5, e6⟩ := h2 M1.2
    refine ⟨2, 1, M1, M2, v1, by decide, by decide, ?_, Rs_mono _ _ _ _ _ _ _ _ e1, e4, fun hz => absurd hz (by decide), e5, e6⟩
    have hr : Rs L xs (d + 41) 389 0 [some (.ref 10), some (.int w1), some (.int w2), some (.ref 2), none] [] M 0 = Rs L xs (d + 41) 389 19 [some (.ref 10), some (.int w1), some (.int w2), some (.ref 2), none] [] M1 1 := by
      simp only [s389_0, s389_1, s389_2, s389_3, s389_4, s389_5, qx_m10, qx_m2, h1, List.length_cons, List.length_nil, Nat.zero_le, Nat.reduceAdd, Nat.reduceLeDiff, Option.bind_some, qx_kn_v, qx_kn_n, Nat.add_zero, Bool.false_eq_true, ↓reduceIte]
      exact qx_kn_c (h := (19, 4)) rfl (by decide +kernel) ⟨rfl, Nat.le_of_ble_eq_true rfl⟩
    rw [hr]
    simp only [s389_19, s389_20, s389_21i, s389_21r, s389_21n]
  · rw [if_neg (by decide)] at h1
    obtain ⟨v1, M2, e1, e2, e3, e4, e5, e6⟩ := h2 M1.2
    refine ⟨3, 1, M1, M2, v1, by decide, by decide, ?_, Rs_mono _ _ _ _ _ _ _ _ e1, e4, fun hz => absurd hz (by decide), e5, e6⟩
    have hr : Rs L xs (d + 41) 389 0 [some (.ref 10), some (.int w1), some (.int w2), some (.ref 2), none] [] M 0 = Rs L xs (d + 41) 389 23 [some (.ref 10), some (.int w1), some (.int w2), some (.ref 2), none] [] M1 1 := by
      simp only [s389_0, s389_1, s389_2, s389_3, s389_4, s389_5, qx_m10, qx_m2, h1, List.length_cons, List.length_nil, Nat.zero_le, Nat.reduceAdd, Nat.reduceLeDiff, Option.bind_some, qx_kn_v, qx_kn_n, Nat.add_zero, Bool.false_eq_true, ↓reduceIte]
      exact qx_kn_c (h := (23, 4)) rfl (by decide +kernel) ⟨rfl, Nat.le_of_ble_eq_true rfl⟩
    rw [hr]
    simp only [s389_23, s389_24, s389_25, s389_26]
theorem h390 {w1 : Int32} (h : qPairG Value.int B L xs (d + 40) 154 [some (.ref 10), some (.int w1), none] Z zs ke01 M) : qHelp Value.int qoI B L xs d 390 [some (.ref 10), some (.int w1), some (.ref 2), none] Z zs M := by
  obtain ⟨k, v, M1, h1, hk, h2⟩ := h
  have hb := qk_bd (c := Value.int) 2 h1 hk ke01_b
  rcases (by omega : k = 0 ∨ k = 1 ∨ k = 2) with rfl | rfl | rfl
  · rw [if_pos rfl] at h1
    obtain ⟨v1, M2, e1, e2, e3, e4, e5, e6⟩ := h2 (vp_updL M1.2.1 0 v.toInt64, M1.2.2)
    refine ⟨0, 0, (M1.1, vp_updL M1.2.1 0 v.toInt64, M1.2.2), M2, v1, by decide, by decide, ?_, Rs_mono _ _ _ _ _ _ _ _ e1, e4, fun _ => ?_, e5, e6⟩
    · simp only [s390_0, s390_1, s390_2, s390_3, s390_4, s390_7, s390_8, s390_9, s390_18, s390_19, qx_m10, qx_m2, h1, List.length_cons, List.length_nil, Nat.zero_le, Nat.reduceAdd, Nat.reduceLeDiff, Option.bind_some, qx_kn_v, qx_kn_n, Nat.add_zero, Bool.false_eq_true, ↓reduceIte]
    · rw [e3 rfl]
      unfold qoI
      rw [e2]
      rfl
  · rw [if_neg (by decide)] at h1
    obtain ⟨v1, M2, e1, e2, e3, e4, e5, e6⟩ := h2 M1.2
    refine ⟨1, 1, M1, M2, v1, by decide, by decide, ?_, Rs_mono _ _ _ _ _ _ _ _ e1, e4, fun hz => absurd hz (by decide), e5, e6⟩
    have hr : Rs L xs (d + 41) 390 0 [some (.ref 10), some (.int w1), some (.ref 2), none] [] M 0 = Rs L xs (d + 41) 390 13 [some (.ref 10), some (.int w1), some (.ref 2), none] [] M1 1 := by
      simp only [s390_0, s390_1, s390_2, s390_3, s390_4, qx_m10, qx_m2, h1, List.length_cons, List.length_nil, Nat.zero_le, Nat.reduceAdd, Nat.reduceLeDiff, Option.bind_some, qx_kn_v, qx_kn_n, Nat.add_zero, Bool.false_eq_true, ↓reduceIte]
      exact qx_kn_c (h := (13, 3)) rfl (by decide +kernel) ⟨rfl, Nat.le_of_ble_eq_true rfl⟩
    rw [hr]
    simp only [s390_13, s390_14, s390_15i, s390_15r, s390_15n, s390_16]
  · rw [if_neg (by decide)] at h1
    obtain ⟨v1, M2, e1, e2, e3, e4, e5, e6⟩ := h2 M1.2
    refine ⟨2, 1, M1, M2, v1, by decide, by decide, ?_, Rs_mono _ _ _ _ _ _ _ _ e1, e4, fun hz => absurd hz (by decide), e5, e6⟩
    have hr : Rs L xs (d + 41) 390 0 [some (.ref 10), some (.int w1), some (.ref 2), none] [] M 0 = Rs L xs (d + 41) 390 16 [some (.ref 10), some (.int w1), some (.ref 2), none] [] M1 1 := by
      simp only [s390_0, s390_1, s390_2, s390_3, s390_4, qx_m10, qx_m2, h1, List.length_cons, List.length_nil, Nat.zero_le, Nat.reduceAdd, Nat.reduceLeDiff, Option.bind_some, qx_kn_v, qx_kn_n, Nat.add_zero, Bool.false_eq_true, ↓reduceIte]
      exact qx_kn_c (h := (16, 3)) rfl (by decide +kernel) ⟨rfl, Nat.le_of_ble_eq_true rfl⟩
    rw [hr]
    simp only [s390_16, s390_17, s390_18, s390_19]
theorem h391 (h : qPairG Value.int B L xs (d + 40) 155 [some (.ref 10)] Z zs ke0 M) : qHelp Value.int qoI B L xs d 391 [some (.ref 10), some (.ref 2), none] Z zs M := by
  obtain ⟨k, v, M1, h1, hk, h2⟩ := h
  have hb := qk_bd (c := Value.int) 1 h1 hk ke0_b
  rcases (by omega : k = 0 ∨ k = 1) with rfl | rfl
  · rw [if_pos rfl] at h1
    obtain ⟨v1, M2, e1, e2, e3, e4, e5, e6⟩ := h2 (vp_updL M1.2.1 0 v.toInt64, M1.2.2)
    refine ⟨0, 0, (M1.1, vp_updL M1.2.1 0 v.toInt64, M1.2.2), M2, v1, by decide, by decide, ?_, Rs_mono _ _ _ _ _ _ _ _ e1, e4, fun _ => ?_, e5, e6⟩
    · simp only [s391_0, s391_1, s391_2, s391_3, s391_6, s391_7, s391_8, s391_14, s391_15, qx_m10, qx_m2, h1, List.length_cons, List.length_nil, Nat.zero_le, Nat.reduceAdd, Nat.reduceLeDiff, Option.bind_some, qx_kn_v, qx_kn_n, Nat.add_zero, Bool.false_eq_true, ↓reduceIte]
    · rw [e3 rfl]
      unfold qoI
      rw [e2]
      rfl
  · rw [if_neg (by decide)] at h1
    obtain ⟨v1, M2, e1, e2, e3, e4, e5, e6⟩ := h2 M1.2
    refine ⟨1, 1, M1, M2, v1, by decide, by decide, ?_, Rs_mono _ _ _ _ _ _ _ _ e1, e4, fun hz => absurd hz (by decide), e5, e6⟩
    have hr : Rs L xs (d + 41) 391 0 [some (.ref 10), some (.ref 2), none] [] M 0 = Rs L xs (d + 41) 391 12 [some (.ref 10), some (.ref 2), none] [] M1 1 := by
      simp only [s391_0, s391_1, s391_2, s391_3, qx_m10, qx_m2, h1, List.length_cons, List.length_nil, Nat.zero_le, Nat.reduceAdd, Nat.reduceLeDiff, Option.bind_some, qx_kn_v, qx_kn_n, Nat.add_zero, Bool.false_eq_true, ↓reduceIte]
      exact qx_kn_c (h := (12, 2)) rfl (by decide +kernel) ⟨rfl, Nat.le_of_ble_eq_true rfl⟩
    rw [hr]
    simp only [s391_12, s391_13, s391_14, s391_15]
theorem h392 {w1 : Int32} (h : qPairG Value.int B L xs (d + 40) 157 [some (.ref 10), some (.int w1)] Z zs ke02 M) : qHelp Value.int qoI B L xs d 392 [some (.ref 10), some (.int w1), some (.ref 2), none] Z zs M := by
  obtain ⟨k, v, M1, h1, hk, h2⟩ := h
  have hb := qk_bd (c := Value.int) 2 h1 hk ke02_b
  rcases (by omega : k = 0 ∨ k = 1 ∨ k = 2) with rfl | rfl | rfl
  · rw [if_pos rfl] at h1
    obtain ⟨v1, M2, e1, e2, e3, e4, e5, e6⟩ := h2 (vp_updL M1.2.1 0 v.toInt64, M1.2.2)
    refine ⟨0, 0, (M1.1, vp_updL M1.2.1 0 v.toInt64, M1.2.2), M2, v1, by decide, by decide, ?_, Rs_mono _ _ _ _ _ _ _ _ e1, e4, fun _ => ?_, e5, e6⟩
    · simp only [s392_0, s392_1, s392_2, s392_3, s392_4, s392_7, s392_8, s392_9, s392_18, s392_19, qx_m10, qx_m2, h1, List.length_cons, List.length_nil, Nat.zero_le, Nat.reduceAdd, Nat.reduceLeDiff, Option.bind_some, qx_kn_v, qx_kn_n, Nat.add_zero, Bool.false_eq_true, ↓reduceIte]
    · rw [e3 rfl]
      unfold qoI
      rw [e2]
      rfl
  · rw [if_neg (by decide)] at h1
    obtain ⟨v1, M2, e1, e2, e3, e4, e5, e6⟩ := h2 M1.2
    refine ⟨1, 1, M1, M2, v1, by decide, by decide, ?_, Rs_mono _ _ _ _ _ _ _ _ e1, e4, fun hz => absurd hz (by decide), e5, e6⟩
    have hr : Rs L xs (d + 41) 392 0 [some (.ref 10), some (.int w1), some (.ref 2), none] [] M 0 = Rs L xs (d + 41) 392 13 [some (.ref 10), some (.int w1), some (.ref 2), none] [] M1 1 := by
      simp only [s392_0, s392_1, s392_2, s392_3, s392_4, qx_m10, qx_m2, h1, List.length_cons, List.length_nil, Nat.zero_le, Nat.reduceAdd, Nat.reduceLeDiff, Option.bind_some, qx_kn_v, qx_kn_n, Nat.add_zero, Bool.false_eq_true, ↓reduceIte]
      exact qx_kn_c (h := (13, 3)) rfl (by decide +kernel) ⟨rfl, Nat.le_of_ble_eq_true rfl⟩
    rw [hr]
    simp only [s392_13, s392_14, s392_15i, s392_15r, s392_15n, s392_16]
  · rw [if_neg (by decide)] at h1
    obtain ⟨v1, M2, e1, e2, e3, e4, e5, e6⟩ := h2 M1.2
    refine ⟨2, 1, M1, M2, v1, by decide, by decide, ?_, Rs_mono _ _ _ _ _ _ _ _ e1, e4, fun hz => absurd hz (by decide), e5, e6⟩
    have hr : Rs L xs (d + 41) 392 0 [some (.ref 10), some (.int w1), some (.ref 2), none] [] M 0 = Rs L xs (d + 41) 392 16 [some (.ref 10), some (.int w1), some (.ref 2), none] [] M1 1 := by
      simp only [s392_0, s392_1, s392_2, s392_3, s392_4, qx_m10, qx_m2, h1, List.length_cons, List.length_nil, Nat.zero_le, Nat.reduceAdd, Nat.reduceLeDiff, Option.bind_some, qx_kn_v, qx_kn_n, Nat.add_zero, Bool.false_eq_true, ↓reduceIte]
      exact qx_kn_c (h := (16, 3)) rfl (by decide +kernel) ⟨rfl, Nat.le_of_ble_eq_true rfl⟩
    rw [hr]
    simp only [s392_16, s392_17, s392_18, s392_19]
theorem h393 {w1 : Int32} (h : qPairG Value.int B L xs (d + 40) 158 [some (.ref 10), some (.int w1)] Z zs ke20 M) : qHelp Value.int qoI B L xs d 393 [some (.ref 10), some (.int w1), some (.ref 2), none] Z zs M := by
  obtain ⟨k, v, M1, h1, hk, h2⟩ := h
  have hb := qk_bd (c := Value.int) 2 h1 hk ke20_b
  rcases (by omega : k = 0 ∨ k = 1 ∨ k = 2) with rfl | rfl | rfl
  · rw [if_pos rfl] at h1
    obtain ⟨v1, M2, e1, e2, e3, e4, e5, e6⟩ := h2 (vp_updL M1.2.1 0 v.toInt64, M1.2.2)
    refine ⟨0, 0, (M1.1, vp_updL M1.2.1 0 v.toInt64, M1.2.2), M2, v1, by decide, by decide, ?_, Rs_mono _ _ _ _ _ _ _ _ e1, e4, fun _ => ?_, e5, e6⟩
    · simp only [s393_0, s393_1, s393_2, s393_3, s393_4, s393_7, s393_8, s393_9, s393_18, s393_19, qx_m10, qx_m2, h1, List.length_cons, List.length_nil, Nat.zero_le, Nat.reduceAdd, Nat.reduceLeDiff, Option.bind_some, qx_kn_v, qx_kn_n, Nat.add_zero, Bool.false_eq_true, ↓reduceIte]
    · rw [e3 rfl]
      unfold qoI
      rw [e2]
      rfl
  · rw [if_neg (by decide)] at h1
    obtain ⟨v1, M2, e1, e2, e3, e4, e5, e6⟩ := h2 M1.2
    refine ⟨1, 1, M1, M2, v1, by decide, by decide, ?_, Rs_mono _ _ _ _ _ _ _ _ e1, e4, fun hz => absurd hz (by decide), e5, e6⟩
    have hr : Rs L xs (d + 41) 393 0 [some (.ref 10), some (.int w1), some (.ref 2), none] [] M 0 = Rs L xs (d + 41) 393 13 [some (.ref 10), some (.int w1), some (.ref 2), none] [] M1 1 := by
      simp only [s393_0, s393_1, s393_2, s393_3, s393_4, qx_m10, qx_m2, h1, List.length_cons, List.length_nil, Nat.zero_le, Nat.reduceAdd, Nat.reduceLeDiff, Option.bind_some, qx_kn_v, qx_kn_n, Nat.add_zero, Bool.false_eq_true, ↓reduceIte]
      exact qx_kn_c (h := (13, 3)) rfl (by decide +kernel) ⟨rfl, Nat.le_of_ble_eq_true rfl⟩
    rw [hr]
    simp only [s393_13, s393_14, s393_15i, s393_15r, s393_15n, s393_16]
  · rw [if_neg (by decide)] at h1
    obtain ⟨v1, M2, e1, e2, e3, e4, e5, e6⟩ := h2 M1.2
    refine ⟨2, 1, M1, M2, v1, by decide, by decide, ?_, Rs_mono _ _ _ _ _ _ _ _ e1, e4, fun hz => absurd hz (by decide), e5, e6⟩
    have hr : Rs L xs (d + 41) 393 0 [some (.ref 10), some (.int w1), some (.ref 2), none] [] M 0 = Rs L xs (d + 41) 393 16 [some (.ref 10), some (.int w1), some (.ref 2), none] [] M1 1 := by
      simp only [s393_0, s393_1, s393_2, s393_3, s393_4, qx_m10, qx_m2, h1, List.length_cons, List.length_nil, Nat.zero_le, Nat.reduceAdd, Nat.reduceLeDiff, Option.bind_some, qx_kn_v, qx_kn_n, Nat.add_zero, Bool.false_eq_true, ↓reduceIte]
      exact qx_kn_c (h := (16, 3)) rfl (by decide +kernel) ⟨rfl, Nat.le_of_ble_eq_true rfl⟩
    rw [hr]
    simp only [s393_16, s393_17, s393_18, s393_19]
end QH
