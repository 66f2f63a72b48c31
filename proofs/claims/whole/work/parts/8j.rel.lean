/-! The relation of the memo, and calls that use it. -/
def qTab (B : Nat) (M : qxM) : Prop := ∃ al st, qAl al ∧ st ≤ B ∧ qTc al st M
theorem qTab_fr {B : Nat} {M M1 : qxM} (h : qTab B M) (hm : qMem M M1) : qTab (B + 1) M1 := by
  obtain ⟨al, st, h1, h2, h3⟩ := h
  exact ⟨al, st, h1, by omega, qTc_fr h3 (hm 41 (by decide) (by decide)) (by rw [hm 40 (by decide) (by decide)]) (hm 42 (by decide) (by decide)) (hm 43 (by decide) (by decide))⟩
/-- a call of the class and then of the Model, with answers of any kind; the memo behind it -/
def qPairG {α : Type} (c : α → Value) (B : Nat) (L : Nat) (xs : Nat → Int32) (d Y : Nat) (as : List (Option Value)) (Z : Nat) (zs : List (Option Value)) (ke : Nat → String) (M : qxM) : Prop :=
  ∃ (k : Nat) (v : α) (M1 : qxM), Rs L xs d Y 0 as [] M 0 = (if k = 0 then some (.inl (some (c v)), M1, 0) else some (.inr (ke k), M1, 1)) ∧ k < 4 ∧
    ∀ o, ∃ (v' : α) (M2 : qxM), Rs L xs d Z 0 zs [] (M1.1, o) 0 = some (.inl (some (c v')), M2, 0) ∧ M2.2 = o ∧ (k = 0 → v' = v) ∧ M2.1 400 0 = nI k ∧ qREL M2 ∧ qTab (B + 1) M2
theorem qPairG_ok {B L : Nat} {xs : Nat → Int32} {d Y Z : Nat} {as zs : List (Option Value)} {ke : Nat → String} {M : qxM} (hT : qTab B M) (h : qPair L xs d Y as Z zs ke M) : qPairG Value.int B L xs d Y as Z zs ke M := by
  obtain ⟨k, v, M1, h1, h2, h3⟩ := h
  refine ⟨k, v, M1, h1, h2, fun o => ?_⟩
  obtain ⟨v', M2, e1, e2, e3, e4, e5, e6⟩ := h3 o
  exact ⟨v', M2, e1, e2, e3, e4, e5, qTab_fr hT e6⟩
theorem qPairG_of {α : Type} {c : α → Value} {B L : Nat} {xs : Nat → Int32} {d Y Z : Nat} {as zs : List (Option Value)} {ke : Nat → String} {M : qxM} (hT : qTab B M) (hR : qREL M) (k : Nat) (v : α) (hk : k < 4)
    (h1 : Rs L xs d Y 0 as [] M 0 = (if k = 0 then some (.inl (some (c v)), M, 0) else some (.inr (ke k), M, 1)))
    (h2 : ∀ o, ∃ v', Rs L xs d Z 0 zs [] (M.1, o) 0 = some (.inl (some (c v')), qx_up (M.1, o) 400 0 (nI k), 0) ∧ (k = 0 → v' = v)) : qPairG c B L xs d Y as Z zs ke M := by
  refine ⟨k, v, M, h1, hk, fun o => ?_⟩
  obtain ⟨v', e1, e2⟩ := h2 o
  exact ⟨v', _, e1, rfl, e2, by simp [qx_up_at], qREL_thr (qREL_out hR o) _, qTab_fr hT (fun a h1 h2 => qx_up_ne (M.1, o) 0 (nI k) (by omega))⟩
/-- only the memo has changed -/
def qFm (a : Nat) : Prop := 40 ≤ a ∧ a ≤ 43
theorem qPairG_mem {α : Type} {c : α → Value} {B L : Nat} {xs : Nat → Int32} {d Y Z : Nat} {as zs : List (Option Value)} {ke : Nat → String} {M M1 : qxM} (hR : qREL M) (v : α)
    (h1 : Rs L xs d Y 0 as [] M 0 = some (.inl (some (c v)), M1, 0)) (hF : qf qFm M M1) (hT : qTab (B + 1) M1)
    (h2 : ∀ o, ∃ M2, Rs L xs d Z 0 zs [] (M1.1, o) 0 = some (.inl (some (c v)), M2, 0) ∧ qf qTb (qx_up (M1.1, o) 400 0 (nI 0)) M2) : qPairG c B L xs d Y as Z zs ke M := by
  refine ⟨0, v, M1, by rw [h1, if_pos rfl], by decide, fun o => ?_⟩
  obtain ⟨M2, e1, e2⟩ := h2 o
  have e4 : ∀ k, M2.1 400 k = (qx_up (M1.1, o) 400 0 (nI 0)).1 400 k := fun k => by rw [e2.1 400 (by unfold qTb; omega)]
  have e5 : ∀ a, a ≠ 400 → ¬ qTb a → M2.1 a = M1.1 a := fun a h0 h => by rw [e2.1 a h, qx_up_ne _ _ _ h0]
  refine ⟨v, M2, e1, e2.2, fun _ => rfl, ?_, ?_, ?_⟩
  · rw [e4, qx_up_at, if_pos ⟨rfl, rfl⟩]
  · refine qREL_fr (M := (M.1, o)) (qREL_out hR o) (fun a h0 h => ?_) (fun k hk => ?_)
    · rw [e5 a h0 (by unfold qFree at h; unfold qTb; omega), hF.1 a (by unfold qFree at h; unfold qFm; omega)]
    · rw [e4, qx_up_at, if_neg (by omega)]
      show M1.1 400 k = _
      rw [hF.1 400 (by unfold qFm; omega)]
  · obtain ⟨al, st, t1, t2, t3⟩ := hT
    exact ⟨al, st, t1, t2, qTc_fr t3 (e5 41 (by decide) (by unfold qTb; omega)) (by rw [e5 40 (by decide) (by unfold qTb; omega)]) (e5 42 (by decide) (by unfold qTb; omega)) (e5 43 (by decide) (by unfold qTb; omega))⟩
/-- the friends that RULE allows -/
def qal (r q : Nat) (f : Nat → Nat) (p : Nat) : Nat := qp_al r q (f p) p
theorem qp_ra_comm {r q a b : Nat} : qp_ra r q a b = qp_ra r q b a := by
  unfold qp_ra
  cases q.testBit a <;> cases q.testBit b <;> rfl
section QK
variable {n r q : Nat} {f mt : Nat → Nat}
theorem qal_ok (hp : qp_ok n r q f mt) {r1 : Nat} (hr : r1 ≤ 2) : qAl (qal r1 q f) := by
  refine ⟨fun a b ha hb => ?_, fun p h => qp_al_lt (qp_f14 hp h)⟩
  unfold qe qal
  rw [qp_al_bit hr, qp_al_bit hr, hp.2.2.2.2.1 a b ha hb, qp_ra_comm]
theorem qal_0 (hp : qp_ok n r q f mt) {r1 : Nat} (hr : r1 ≤ 2) {p : Nat} (h : p < 14) (hn : n ≤ p) : qal r1 q f p = 0 := by
  refine qs_eq (fun j => ⟨fun y => ?_, fun y => absurd y zb⟩)
  unfold qal at y
  rw [qp_al_bit hr, Bool.and_eq_true] at y
  have hj : j < 14 := qj (qp_f14 hp h) y.1
  rw [hp.2.2.2.2.1 p j h hj] at y
  have := qj_n (hp.2.2.2.1 j hj).1 y.1
  omega
end QK
theorem qb_pc_all : ∀ n, n < 15 → qb_pc (2 ^ n - 1) = n := by decide +kernel
theorem nPu_F {M M1 : qxM} {n r q : Nat} {f mt : Nat → Nat} (h : nPu M n r q f mt) (hF : qf qFm M M1) (o : (Nat → Int64) × (Nat → UInt64)) (v : Int32) : nPu (qx_up (M1.1, o) 400 0 v) n r q f mt := by
  have e : (qx_up (M1.1, o) 400 0 v).1 401 = M.1 401 := by
    rw [qx_up_ne _ _ _ (by decide)]
    exact hF.1 401 (by unfold qFm; omega)
  unfold nPu nMt
  rw [e]
  exact h
section QL
variable {L : Nat} {xs : Nat → Int32} {d x : Nat}
theorem a168 {n r q B : Nat} {f mt : Nat → Nat} {M : qxM} (hp : qp_ok n r q f mt) (hu : qPu 101 M n r q f mt) (hT : qTab B M) (hB : B < 90000) : ∃ M' st, Rs L xs (d + 3) 168 0 [some (.ref 10)] [] M x = some (.inl (some (.ref 40)), M', x) ∧ st ≤ B + 1 ∧ qTs (qal r q f) st (2 ^ n - 1) M' ∧ qf qFm M M' := by
  obtain ⟨al, st, t1, t2, t3⟩ := hT
  obtain ⟨u0, u1, u2, u3, u4⟩ := hu
  have hP : qx_P 101 := qx_T100.2.1
  obtain ⟨M', st', g, c1, c2, c3⟩ := m0 (L := L) (xs := xs) (d := d) (x := 0) (al1 := qal r q f) u0 hp.1 hp.2.1 u2 hp.2.2.1 u3 (fun p h => qp_f14 hp h) (fun p _ => rfl) (show st < 100000 by omega) t1.2 t3
  refine ⟨M', st', ?_, by omega, c2, qf_mono c3 (fun a h => by unfold qFm; omega)⟩
  simp only [s168_0, s168_1, s168_4, s168_5, s168_8, s168_11, s168_12, s168_15, s168_18, s168_21, s168_24, s168_25, s168_28, qx_m10, qx_T100.1, hP.1, u1, g, List.length_cons, List.length_nil, Nat.zero_le, Nat.reduceAdd, Nat.reduceLeDiff, Option.bind_some, qx_kn_v, qx_kn_n, Nat.add_zero, Bool.false_eq_true, ↓reduceIte]
theorem qF_m {M M1 : qxM} (h : qf qMm M M1) : qf qFm M M1 := qf_mono h (fun a h => by unfold qMm at h; unfold qFm; omega)
/-- what the Model's calls of this sort have: text is loaded, the sets are laid -/
theorem mo263 {M M1 : qxM} (h : M.1 400 6 = bI true) (hF : qf qFm M M1) (o : (Nat → Int64) × (Nat → UInt64)) (d : Nat) : Rs L xs (d + 1) 263 0 [some (.ref 400)] [] (M1.1, o) 0 = some (.inl (some (.int (bI true))), qx_up (M1.1, o) 400 0 (nI 0), 0) :=
  b263c (L := L) (xs := xs) (d := d) (x := 0) (M := (M1.1, o)) (by show M1.1 400 6 = _; rw [hF.1 400 (by unfold qFm; omega), h])
theorem mo226 {M M1 : qxM} {n p : Nat} (h : M.1 400 6 = bI true) (hn : M.1 401 0 = nI n) (hn2 : n ≤ 14) (hp : p < n) (hF : qf qFm M M1) (o : (Nat → Int64) × (Nat → UInt64)) (d : Nat) : Rs L xs (d + 2) 226 0 [some (.ref 400), some (.int (nI p))] [] (M1.1, o) 0 = some (.inl (some (.int (bI true))), qx_up (M1.1, o) 400 0 (nI 0), 0) :=
  b226c (L := L) (xs := xs) (d := d) (x := 0) (M := (M1.1, o)) (by show M1.1 400 6 = _; rw [hF.1 400 (by unfold qFm; omega), h]) (by show M1.1 401 0 = _; rw [hF.1 401 (by unfold qFm; omega), hn]) hn2 hp
theorem mo227 {M M1 : qxM} {n p q : Nat} (h : M.1 400 6 = bI true) (hn : M.1 401 0 = nI n) (hn2 : n ≤ 14) (hp : p < n) (hq : q < n) (hF : qf qFm M M1) (o : (Nat → Int64) × (Nat → UInt64)) (d : Nat) : Rs L xs (d + 2) 227 0 [some (.ref 400), some (.int (nI p)), some (.int (nI q))] [] (M1.1, o) 0 = some (.inl (some (.int (bI true))), qx_up (M1.1, o) 400 0 (nI 0), 0) :=
  b227c (L := L) (xs := xs) (d := d) (x := 0) (M := (M1.1, o)) (by show M1.1 400 6 = _; rw [hF.1 400 (by unfold qFm; omega), h]) (by show M1.1 401 0 = _; rw [hF.1 401 (by unfold qFm; omega), hn]) hn2 hp hq
theorem qTab_s {al : Nat → Nat} {st all B : Nat} {M : qxM} (ha : qAl al) (h : st ≤ B + 1) (hT : qTs al st all M) : qTab (B + 1) M := ⟨al, st, ha, h, hT.1⟩
end QL
