/-! Texts. -/
theorem qx_m30 : qx_kd 30 = 15 ∧ qx_kd 31 = 1 ∧ qx_ln 31 = 64 ∧ qx_kd 410 = 1 ∧ qx_ln 410 = 120 := by decide +kernel
theorem qi_b128 : ∀ m, m < 128 → (nI m).toInt8.toInt32 = nI m := by decide +kernel
theorem qi_c128 : ∀ m, m < 128 → ((nI m).toUInt32 % 65536).toInt32 = nI m := by decide +kernel
/-- the class's text; the Model's -/
def cTx (M : qxM) (T : List Nat) : Prop := M.1 30 1 = nI T.length ∧ ∀ i, i < T.length → M.1 31 i = nI (T.getD i 0)
def nTx (M : qxM) (T : List Nat) : Prop := M.1 400 21 = nI T.length ∧ ∀ i, i < T.length → M.1 410 i = nI (T.getD i 0)
def qTX (a : Nat) : Prop := a = 30 ∨ a = 31
/-- what the Model writes: its text, and the number of its bytes -/
def nf (M M1 : qxM) : Prop := (∀ a, a ≠ 400 → a ≠ 410 → M1.1 a = M.1 a) ∧ (∀ k, k ≠ 21 → M1.1 400 k = M.1 400 k) ∧ M1.2 = M.2
theorem nf_refl (M : qxM) : nf M M := ⟨fun _ _ _ => rfl, fun _ _ => rfl, rfl⟩
theorem nf_trans {M M1 M2 : qxM} (h : nf M M1) (g : nf M1 M2) : nf M M2 := ⟨fun a h1 h2 => by rw [g.1 a h1 h2, h.1 a h1 h2], fun k hk => by rw [g.2.1 k hk, h.2.1 k hk], by rw [g.2.2, h.2.2]⟩
theorem getD_app {T : List Nat} {c i : Nat} : (T ++ [c]).getD i 0 = if i < T.length then T.getD i 0 else if i = T.length then c else 0 := by
  rw [List.getD_eq_getElem?_getD, List.getElem?_append]
  by_cases z : i < T.length
  · rw [if_pos z, if_pos z, List.getD_eq_getElem?_getD]
  · rw [if_neg z, if_neg z]
    by_cases y : i = T.length
    · rw [if_pos y, y, Nat.sub_self]
      rfl
    · rw [if_neg y]
      obtain ⟨k, hk⟩ : ∃ k, i - T.length = k + 1 := ⟨i - T.length - 1, by omega⟩
      rw [hk]
      rfl
/-- a number's digits; what separates; the end of a text -/
def dg (v : Nat) : List Nat := if 10 ≤ v then [48 + v / 10, 48 + v % 10] else [48 + v % 10]
theorem dg_len (v : Nat) : (dg v).length ≤ 2 := by
  unfold dg
  split
  · exact Nat.le_refl 2
  · exact Nat.le_succ 1
def sepl (T : List Nat) (c : Nat) : List Nat := if T.length = 0 then T else T ++ [c]
theorem sepl_len (T : List Nat) (c : Nat) : (sepl T c).length ≤ T.length + 1 := by
  unfold sepl
  split
  · omega
  · rw [List.length_append]
    exact Nat.le_refl _
def finl (T : List Nat) : List Nat := if T.length = 0 then T ++ [46] else T
section QL
variable {L : Nat} {xs : Nat → Int32}
theorem m80 {d x c : Nat} {T : List Nat} {M : qxM} (hT : cTx M T) (hl : T.length < 64) (hc : c < 128) : ∃ M', Rs L xs (d) 80 0 [some (.ref (30)), some (.int (nI c))] [] (M) x = some (.inl (none), M', x) ∧ cTx M' (T ++ [c]) ∧ qf qTX M M' := by
  obtain ⟨k1, k2, k3, k4, k5⟩ := qx_m30
  obtain ⟨t1, t2⟩ := hT
  have h1 : ¬ nI T.length < 0 := nI_pos (by omega)
  have h2 : ¬ nI 64 ≤ nI T.length := nI_ge hl (by decide)
  have h3 : qx_ib (nI T.length) 64 = true := qx_ib_of hl (by decide)
  have h4 : (nI T.length).toNatClampNeg = T.length := nI_clamp (by omega)
  have hb := qi_b128 c hc
  have h30 : ∀ v, (qx_up M 31 T.length v).1 30 1 = nI T.length := fun v => by rw [qx_up_ne _ _ _ (by decide), t1]
  refine ⟨qx_up (qx_up M 31 T.length (nI c)) 30 1 (nI (T.length + 1)), ?_, ⟨?_, fun i hi => ?_⟩, qf_trans (qf_up _ _ _ _ (Or.inr rfl)) (qf_up _ _ _ _ (Or.inl rfl))⟩
  · simp only [s80_0, s80_1, s80_4, s80_7, s80_8, s80_11, s80_12, s80_15, s80_16, s80_19, s80_20, s80_23, s80_24, s80_27, s80_28, s80_29, s80_29z, s80_30, s80_31r, s80_31i, s80_32, s80_35, s80_36, s80_37, s80_40, qx_16, k1, k2, k3, t1, h1, h2, h3, h4, hb, h30, nI_add, List.length_cons, List.length_nil, Nat.zero_le, Nat.reduceAdd, Nat.reduceLeDiff, Option.bind_some, qx_kn_v, qx_kn_n, Nat.add_zero, Bool.false_eq_true, ↓reduceIte]
  · rw [qx_up_eq, List.length_append]
    rfl
  · rw [List.length_append, List.length_singleton] at hi
    rw [qx_up_ne _ _ _ (by decide), getD_app, qx_up_at]
    by_cases z : i < T.length
    · rw [if_neg (by omega), if_pos z, t2 i z]
    · rw [if_pos ⟨rfl, by omega⟩, if_neg z, if_pos (by omega)]
theorem m311 {d x c : Nat} {T : List Nat} {M : qxM} (hT : nTx M T) (hl : T.length < 64) (hc : c < 128) : ∃ M', Rs L xs (d) 311 0 [some (.ref (400)), some (.int (nI c))] [] (M) x = some (.inl (none), M', x) ∧ nTx M' (T ++ [c]) ∧ nf M M' := by
  obtain ⟨k1, k2, k3, k4, k5⟩ := qx_m30
  obtain ⟨y1, y2, y3⟩ := qx_m400
  obtain ⟨t1, t2⟩ := hT
  have h3 : qx_ib (nI T.length) 120 = true := qx_ib_of (by omega) (by decide)
  have h4 : (nI T.length).toNatClampNeg = T.length := nI_clamp (by omega)
  have hb := qi_b128 c hc
  have h30 : ∀ v, (qx_up M 410 T.length v).1 400 21 = nI T.length := fun v => by rw [qx_up_ne _ _ _ (by decide), t1]
  refine ⟨qx_up (qx_up M 410 T.length (nI c)) 400 21 (nI (T.length + 1)), ?_, ⟨?_, fun i hi => ?_⟩, ⟨fun a h1 h2 => ?_, fun k hk => ?_, rfl⟩⟩
  · simp only [s311_0, s311_1, s311_4, s311_5, s311_8, s311_9, s311_10, s311_10z, s311_11, s311_12r, s311_12i, s311_13, s311_16, s311_17, s311_18, s311_21, y1, k4, k5, t1, h3, h4, hb, h30, nI_add, List.length_cons, List.length_nil, Nat.zero_le, Nat.reduceAdd, Nat.reduceLeDiff, Option.bind_some, qx_kn_v, qx_kn_n, Nat.add_zero, Bool.false_eq_true, ↓reduceIte]
  · rw [qx_up_eq, List.length_append]
    rfl
  · rw [List.length_append, List.length_singleton] at hi
    rw [qx_up_ne _ _ _ (by decide), getD_app, qx_up_at]
    by_cases z : i < T.length
    · rw [if_neg (by omega), if_pos z, t2 i z]
    · rw [if_pos ⟨rfl, by omega⟩, if_neg z, if_pos (by omega)]
  · rw [qx_up_ne _ _ _ h1, qx_up_ne _ _ _ h2]
  · rw [qx_up_at, if_neg (fun w => hk w.2), qx_up_ne _ _ _ (by decide)]
theorem qi_dig {v : Nat} (hv : v < 100) : nI v / nI 10 = nI (v / 10) ∧ nI v - nI (v / 10) * nI 10 = nI (v % 10) := by
  refine ⟨pk_div (by omega) (by decide) (by decide), ?_⟩
  rw [pk_mul, pk_sub (by omega)]
  congr 1
  omega
theorem m81 {d x v : Nat} {T : List Nat} {M : qxM} (hT : cTx M T) (hv : v < 14) (hl : T.length + (dg v).length ≤ 64) : ∃ M', Rs L xs (d + 1) 81 0 [some (.ref (30)), some (.int (nI v))] [] (M) x = some (.inl (none), M', x) ∧ cTx M' (T ++ dg v) ∧ qf qTX M M' := by
  obtain ⟨k1, _⟩ := qx_m30
  obtain ⟨e1, e2⟩ := qi_dig (show v < 100 by omega)
  have h10 : ¬ nI 10 = 0 := by decide
  have ec : (nI v < nI 10) = (v < 10) := qi_lt (by omega) (by decide)
  unfold dg at hl ⊢
  by_cases z : 10 ≤ v
  · rw [if_pos z] at hl ⊢
    have hl2 : T.length + 2 ≤ 64 := hl
    have z2 : (v < 10) = False := eq_false (by omega)
    obtain ⟨M1, g1, c1, f1⟩ := m80 (L := L) (xs := xs) (d := d) (x := 0) (c := 48 + v / 10) hT (by omega) (by omega)
    obtain ⟨M2, g2, c2, f2⟩ := m80 (L := L) (xs := xs) (d := d) (x := 0) (c := 48 + v % 10) c1 (by rw [List.length_append, List.length_singleton]; omega) (by omega)
    rw [List.append_assoc] at c2
    refine ⟨M2, ?_, c2, qf_trans f1 f2⟩
    simp only [s81_0, s81_1, s81_3, s81_6, s81_7, s81_9, s81_10, s81_12, s81_13, s81_14, s81_15, s81_18, s81_19, s81_21, s81_22, s81_24, s81_25, s81_26, s81_27, s81_30, k1, ec, z2, e1, e2, h10, nI_add, qi_c128 (48 + v / 10) (by omega), qi_c128 (48 + v % 10) (by omega), g1, g2, not_false_eq_true, ne_eq, List.length_cons, List.length_nil, Nat.zero_le, Nat.reduceAdd, Nat.reduceLeDiff, Option.bind_some, qx_kn_v, qx_kn_n, Nat.add_zero, Bool.false_eq_true, ↓reduceIte]
  · rw [if_neg z] at hl ⊢
    have hl2 : T.length + 1 ≤ 64 := hl
    have z2 : (v < 10) = True := eq_true (by omega)
    obtain ⟨M2, g2, c2, f2⟩ := m80 (L := L) (xs := xs) (d := d) (x := 0) (c := 48 + v % 10) hT (by omega) (by omega)
    refine ⟨M2, ?_, c2, f2⟩
    simp only [s81_0, s81_1, s81_3, s81_6, s81_7, s81_9, s81_10, s81_12, s81_13, s81_14, s81_15, s81_18, s81_19, s81_21, s81_22, s81_24, s81_25, s81_26, s81_27, s81_30, k1, ec, z2, e1, e2, h10, nI_add, qi_c128 (48 + v % 10) (by omega), g2, not_false_eq_true, ne_eq, List.length_cons, List.length_nil, Nat.zero_le, Nat.reduceAdd, Nat.reduceLeDiff, Option.bind_some, qx_kn_v, qx_kn_n, Nat.add_zero, Bool.false_eq_true, ↓reduceIte]
theorem m312 {d x v : Nat} {T : List Nat} {M : qxM} (hT : nTx M T) (hv : v < 14) (hl : T.length + (dg v).length ≤ 64) : ∃ M', Rs L xs (d + 1) 312 0 [some (.ref (400)), some (.int (nI v))] [] (M) x = some (.inl (none), M', x) ∧ nTx M' (T ++ dg v) ∧ nf M M' := by
  obtain ⟨k1, _⟩ := qx_m400
  obtain ⟨e1, e2⟩ := qi_dig (show v < 100 by omega)
  have h10 : ¬ nI 10 = 0 := by decide
  have ec : (nI v ≤ nI 9) = (v ≤ 9) := qi_le (by omega) (by decide)
  unfold dg at hl ⊢
  by_cases z : 10 ≤ v
  · rw [if_pos z] at hl ⊢
    have hl2 : T.length + 2 ≤ 64 := hl
    have z2 : (v ≤ 9) = False := eq_false (by omega)
    obtain ⟨M1, g1, c1, f1⟩ := m311 (L := L) (xs := xs) (d := d) (x := 0) (c := 48 + v / 10) hT (by omega) (by omega)
    obtain ⟨M2, g2, c2, f2⟩ := m311 (L := L) (xs := xs) (d := d) (x := 0) (c := 48 + v % 10) c1 (by rw [List.length_append, List.length_singleton]; omega) (by omega)
    rw [List.append_assoc] at c2
    refine ⟨M2, ?_, c2, nf_trans f1 f2⟩
    simp only [s312_0, s312_1, s312_3, s312_6, s312_7, s312_9, s312_10, s312_12, s312_13, s312_14, s312_17, s312_18, s312_20, s312_21, s312_23, s312_24, s312_25, s312_28, k1, ec, z2, e1, e2, h10, nI_add, g1, g2, not_false_eq_true, ne_eq, List.length_cons, List.length_nil, Nat.zero_le, Nat.reduceAdd, Nat.reduceLeDiff, Option.bind_some, qx_kn_v, qx_kn_n, Nat.add_zero, Bool.false_eq_true, ↓reduceIte]
  · rw [if_neg z] at hl ⊢
    have hl2 : T.length + 1 ≤ 64 := hl
    have z2 : (v ≤ 9) = True := eq_true (by omega)
    obtain ⟨M2, g2, c2, f2⟩ := m311 (L := L) (xs := xs) (d := d) (x := 0) (c := 48 + v % 10) hT (by omega) (by omega)
    refine ⟨M2, ?_, c2, f2⟩
    simp only [s312_0, s312_1, s312_3, s312_6, s312_7, s312_9, s312_10, s312_12, s312_13, s312_14, s312_17, s312_18, s312_20, s312_21, s312_23, s312_24, s312_25, s312_28, k1, ec, z2, e1, e2, h10, nI_add, g2, not_false_eq_true, ne_eq, List.length_cons, List.length_nil, Nat.zero_le, Nat.reduceAdd, Nat.reduceLeDiff, Option.bind_some, qx_kn_v, qx_kn_n, Nat.add_zero, Bool.false_eq_true, ↓reduceIte]
theorem m83 {d x c : Nat} {T : List Nat} {M : qxM} (hT : cTx M T) (hl : T.length < 64) (hc : c < 128) : ∃ M', Rs L xs (d + 1) 83 0 [some (.ref (30)), some (.int (nI c))] [] (M) x = some (.inl (none), M', x) ∧ cTx M' (sepl T c) ∧ qf qTX M M' := by
  obtain ⟨k1, _⟩ := qx_m30
  unfold sepl
  by_cases z : T.length = 0
  · rw [if_pos z]
    have h : (nI T.length ≤ 0) = True := by rw [z]; decide
    refine ⟨M, ?_, hT, qf_refl _ _⟩
    simp only [s83_0, s83_1, s83_4, s83_7, s83_8, s83_9, s83_12, k1, hT.1, h, List.length_cons, List.length_nil, Nat.zero_le, Nat.reduceAdd, Nat.reduceLeDiff, Option.bind_some, qx_kn_v, qx_kn_n, Nat.add_zero, Bool.false_eq_true, ↓reduceIte]
  · rw [if_neg z]
    have h : (nI T.length ≤ 0) = False := eq_false (nI_nle (by omega) (by omega))
    obtain ⟨M2, g2, c2, f2⟩ := m80 (L := L) (xs := xs) (d := d) (x := 0) (c := c) hT hl hc
    refine ⟨M2, ?_, c2, f2⟩
    simp only [s83_0, s83_1, s83_4, s83_7, s83_8, s83_9, s83_12, k1, hT.1, h, g2, List.length_cons, List.length_nil, Nat.zero_le, Nat.reduceAdd, Nat.reduceLeDiff, Option.bind_some, qx_kn_v, qx_kn_n, Nat.add_zero, Bool.false_eq_true, ↓reduceIte]
theorem m84 {d x : Nat} {T : List Nat} {M : qxM} (hT : cTx M T) (hl : T.length < 64) : ∃ M', Rs L xs (d + 1) 84 0 [some (.ref (30))] [] (M) x = some (.inl (some (.int (nI (finl T).length))), M', x) ∧ cTx M' (finl T) ∧ qf qTX M M' := by
  obtain ⟨k1, _⟩ := qx_m30
  unfold finl
  by_cases z : T.length = 0
  · rw [if_pos z]
    have h : (nI T.length = 0) = True := by rw [z]; decide
    obtain ⟨M2, g2, c2, f2⟩ := m80 (L := L) (xs := xs) (d := d) (x := 0) (c := 46) hT hl (by decide)
    refine ⟨M2, ?_, c2, f2⟩
    simp only [s84_0, s84_1, s84_4, s84_7, s84_8, s84_10, s84_13, s84_14, s84_17, k1, hT.1, h, g2, c2.1, List.length_cons, List.length_nil, Nat.zero_le, Nat.reduceAdd, Nat.reduceLeDiff, Option.bind_some, qx_kn_v, qx_kn_n, Nat.add_zero, Bool.false_eq_true, ↓reduceIte]
  · rw [if_neg z]
    have h : (nI T.length = 0) = False := eq_false (nI_ne0 (by omega) (by omega))
    refine ⟨M, ?_, hT, qf_refl _ _⟩
    simp only [s84_0, s84_1, s84_4, s84_7, s84_8, s84_10, s84_13, s84_14, s84_17, k1, hT.1, h, List.length_cons, List.length_nil, Nat.zero_le, Nat.reduceAdd, Nat.reduceLeDiff, Option.bind_some, qx_kn_v, qx_kn_n, Nat.add_zero, Bool.false_eq_true, ↓reduceIte]
end QL
theorem finl_len {T : List Nat} (h : T.length ≤ 63) : (finl T).length ≤ 64 := by
  unfold finl
  split
  · rw [List.length_append, List.length_singleton]
    omega
  · omega
/-- behind a call that writes -/
theorem qPair_tx {L : Nat} {xs : Nat → Int32} {d Y Z : Nat} {as zs : List (Option Value)} {ke : Nat → String} {M M1 : qxM} {T : List Nat} (hR : qREL M) (v : Int32) (hl : T.length ≤ 64)
    (h1 : Rs L xs d Y 0 as [] M 0 = some (.inl (some (.int v)), M1, 0)) (hc : cTx M1 T) (hf : qf qTX M M1)
    (h2 : ∀ o, ∃ M2, Rs L xs d Z 0 zs [] (M1.1, o) 0 = some (.inl (some (.int v)), M2, 0) ∧ nTx M2 T ∧ nf (qx_up (M1.1, o) 400 0 (nI 0)) M2) : qPair L xs d Y as Z zs ke M := by
  refine ⟨0, v, M1, by rw [h1, if_pos rfl], by decide, fun o => ?_⟩
  obtain ⟨M2, e1, e2, e3, e4, e5⟩ := h2 o
  have e6 : ∀ a, a ≠ 400 → a ≠ 410 → M2.1 a = M1.1 a := fun a h1 h2 => by rw [e3 a h1 h2, qx_up_ne _ _ _ h1]
  have e7 : ∀ a, a ≠ 400 → a ≠ 410 → a ≠ 30 → a ≠ 31 → M2.1 a = M.1 a := fun a h1 h2 h3 h4 => by rw [e6 a h1 h2, hf.1 a (by unfold qTX; omega)]
  have e8 : ∀ k, k ≠ 0 → k ≠ 21 → M2.1 400 k = M.1 400 k := fun k h1 h2 => by
    rw [e4 k h2, qx_up_at, if_neg (fun w => h1 w.2)]
    show M1.1 400 k = _
    rw [hf.1 400 (by unfold qTX; omega)]
  refine ⟨v, M2, e1, e5, fun _ => rfl, ?_, ?_, fun a h1 h2 => e7 a (by omega) (by omega) (by omega) (by omega)⟩
  · rw [e4 0 (by decide), qx_up_eq]
  · obtain ⟨⟨b, b1, b2, b0, b3⟩, ⟨⟨g, hg⟩, ⟨g', hg'⟩⟩, ⟨c, E, c1, c2, c3, c4, c5, c6⟩, ⟨sv, v1, v2, v3⟩, ⟨n, n1, n2, n3, n4, n5, n6⟩, _⟩ := hR
    have e10 : M2.1 10 = M.1 10 := e7 10 (by decide) (by decide) (by decide) (by decide)
    have hlow : ∀ a, 100 ≤ a → a < 400 → M2.1 a = M.1 a := fun a ha hb => e7 a (by omega) (by omega) (by omega) (by omega)
    have hfq : qf (fun a => ¬ (100 ≤ a ∧ a < 400)) (M.1, M2.2) M2 := ⟨fun a ha => hlow a (Classical.not_not.mp ha).1 (Classical.not_not.mp ha).2, rfl⟩
    refine ⟨⟨b, ?_, ?_, ?_, ?_⟩, ⟨⟨g, qS_fr (M := (M.1, M2.2)) hg hfq (by omega)⟩, ⟨g', qS_fr (M := (M.1, M2.2)) hg' hfq (by omega)⟩⟩, ⟨c, E, c1, c2, ?_, ?_, ?_, ?_⟩, ⟨sv, v1, ?_, ?_⟩, ⟨n, n1, ?_, ?_, ?_, ?_, ?_⟩, ⟨T.length, hl, ?_, e2.1, fun i hi => ?_⟩⟩
    · rw [e10, b1]
    · rw [e8 6 (by decide) (by decide), b2]
    · rw [e7 401 (by decide) (by decide) (by decide) (by decide), e8 7 (by decide) (by decide), e10, hlow 104 (by decide) (by decide)]
      exact b0
    · intro hb
      exact qKept_fr (b3 hb) (fun a ha hb => hlow a (by omega) (by omega)) (fun k hk => by rw [e7 401 (by decide) (by decide) (by decide) (by decide)])
    · rw [e10, c3]
    · rw [e10, c4]
    · rw [e8 7 (by decide) (by decide), c5]
    · intro j hj
      exact qKept_fr (c6 j hj) (fun a ha hb => hlow a (by omega) (by omega)) (fun k hk => by rw [e7 403 (by decide) (by decide) (by decide) (by decide)])
    · rw [e10, v2]
    · intro k hk
      obtain ⟨w1, w2⟩ := v3 k hk
      refine ⟨by rw [e7 405 (by decide) (by decide) (by decide) (by decide), w1], fun hb => ?_⟩
      exact qKept_fr (w2 hb) (fun a ha hb => hlow a (by omega) (by omega)) (fun k hk => by rw [e7 404 (by decide) (by decide) (by decide) (by decide)])
    · rw [e7 20 (by decide) (by decide) (by decide) (by decide), n2]
    · rw [e8 9 (by decide) (by decide), n3]
    · intro i hi
      rw [e7 21 (by decide) (by decide) (by decide) (by decide), e7 406 (by decide) (by decide) (by decide) (by decide)]
      exact n4 i hi
    · rw [e7 20 (by decide) (by decide) (by decide) (by decide), e8 10 (by decide) (by decide), n5]
    · rw [e7 20 (by decide) (by decide) (by decide) (by decide), e8 11 (by decide) (by decide), n6]
    · rw [e6 30 (by decide) (by decide), hc.1]
    · rw [e6 31 (by decide) (by decide), hc.2 i hi, e2.2 i hi]
