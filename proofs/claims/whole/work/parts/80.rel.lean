/-! The relation of the whole memory. -/
theorem mT_cong {M M' : qxM} {G : qGs} (hG : gG G) (h : mT M G) (he : ∀ k, k < 335 → M'.1 401 k = M.1 401 k) : mT M' G := by
  obtain ⟨⟨u0, u1, u2, u3, u4⟩, ⟨a1, a2, a3, a4⟩, h35, hs⟩ := h
  refine ⟨⟨?_, ?_, ?_, ?_, ?_⟩, ⟨?_, ?_, ?_, ?_⟩, ?_, ?_⟩
  · rw [he 0 (by decide), u0]
  · rw [he 1 (by decide), u1]
  · rw [he 2 (by decide), u2]
  · intro p hp
    rw [he _ (by omega), u3 p hp]
  · intro p hp
    rw [he _ (by omega), u4 p hp]
  · rw [he 3 (by decide), a1]
  · rw [he 4 (by decide), a2]
  · rw [he 5 (by decide), a3]
  · rw [he 6 (by decide), a4]
  · rw [he 35 (by decide), h35]
  · intro hne
    obtain ⟨⟨t0, t1, t2, t3, t4, t5⟩, s2, s3, s4, s5, s6, s7, s8⟩ := hs hne
    have hb := gT_b (hG.2.1.resolve_left hne)
    refine ⟨⟨?_, ?_, ?_, ?_, ?_, ?_⟩, ?_, ?_, ?_, ?_, ?_, ?_, ?_⟩
    · rw [he 35 (by decide), t0]
    · rw [he 36 (by decide), t1]
    · rw [he 37 (by decide), t2]
    · rw [he 38 (by decide), t3]
    · rw [he 39 (by decide), t4]
    · rw [he 40 (by decide), t5]
    · intro j h1 h2
      rw [he _ (by omega)]
      exact s2 j h1 h2
    · intro p hp
      rw [he _ (by omega)]
      exact s3 p hp
    · intro p hp
      rw [he _ (by omega)]
      exact s4 p hp
    · intro p hp
      rw [he _ (by omega)]
      exact s5 p hp
    · intro p hp
      rw [he _ (by omega)]
      exact s6 p hp
    · intro p hp
      rw [he _ (by omega)]
      exact s7 p hp
    · intro p hp
      obtain ⟨w1, w2, w3⟩ := s8 p hp
      refine ⟨w1, by rw [he _ (by omega)]; exact w2, fun i hi => ?_⟩
      rw [he _ (by omega)]
      exact w3 i hi
theorem cT_fr {s : Nat} {M M' : qxM} {G : qGs} (h : cT s M G) (he : ∀ a, s ≤ a → a ≤ s + 12 → M'.1 a = M.1 a) : cT s M' G := by
  have hf : qf (fun a => ¬ (s ≤ a ∧ a ≤ s + 12)) (M.1, M'.2) M' := ⟨fun a ha => he a (by have := Classical.not_not.mp ha; omega) (by have := Classical.not_not.mp ha; omega), rfl⟩
  obtain ⟨a1, a2, a3⟩ := h
  have a1' : qPu (s + 1) (M.1, M'.2) G.1.1 G.1.2.1 G.1.2.2 G.2.1 G.2.2.1 := a1
  have a3' : cS (s + 4) (M.1, M'.2) G.2.2.2.2 := a3
  refine ⟨qPu_step (t := 0) a1' hf (qMt_fr a1'.2.2.2.2 hf (by omega)) (by omega) (by omega), ?_, qS_fr a3' hf (by omega)⟩
  rw [he s (by omega) (by omega)]
  exact a2
/-- a state that the class keeps at s, and the Model in the row b from o on -/
def qKept (M : qxM) (s b o : Nat) : Prop := ∃ G, gG G ∧ 1 ≤ G.1.1 ∧ cT s M G ∧ ∀ M' : qxM, (∀ k, k < 335 → M'.1 401 k = M.1 b (o + k)) → mT M' G
theorem qKept_fr {M M' : qxM} {s b o : Nat} (h : qKept M s b o) (h1 : ∀ a, s ≤ a → a ≤ s + 12 → M'.1 a = M.1 a) (h2 : ∀ k, k < 335 → M'.1 b (o + k) = M.1 b (o + k)) : qKept M' s b o := by
  obtain ⟨G, g1, g2, g3, g4⟩ := h
  exact ⟨G, g1, g2, cT_fr g3 h1, fun A hA => g4 A (fun k hk => by rw [hA k hk, h2 k hk])⟩
theorem qKept_now {M : qxM} {G : qGs} (h1 : gG G) (h2 : 1 ≤ G.1.1) (h3 : cT 100 M G) (h4 : mT M G) : qKept M 100 401 0 :=
  ⟨G, h1, h2, h3, fun A hA => mT_cong h1 h4 (fun k hk => by rw [hA k hk, Nat.zero_add])⟩
def qByte (z : Int32) : Prop := -128 ≤ z.toInt ∧ z.toInt ≤ 127
def rUndo (M : qxM) : Prop := ∃ c E : Nat, c ≤ 8 ∧ E < 8 ∧ M.1 10 7 = nI E ∧ M.1 10 8 = nI c ∧ M.1 400 7 = nI c ∧ ∀ j, j < c → qKept M (140 + 20 * ((E + 8 - c + j) % 8)) 403 (335 * j)
def rSaved (M : qxM) : Prop := ∃ sv, sv < 4 ∧ M.1 10 9 = nI sv ∧ ∀ k, k < 2 → M.1 405 k = bI (sv.testBit k) ∧ (sv.testBit k = true → qKept M (300 + 20 * k) 404 (335 * k))
def rParse (M : qxM) : Prop := ∃ n, n ≤ 500 ∧ M.1 20 2 = nI n ∧ M.1 400 9 = nI n ∧ (∀ i, i < n → M.1 21 i = M.1 406 i ∧ qByte (M.1 21 i)) ∧ M.1 20 3 = M.1 400 10 ∧ M.1 20 4 = M.1 400 11
def rText (M : qxM) : Prop := ∃ k, k ≤ 64 ∧ M.1 30 1 = nI k ∧ M.1 400 21 = nI k ∧ ∀ i, i < k → M.1 31 i = M.1 410 i
def rNow (M : qxM) : Prop := ∃ b, M.1 10 10 = bI b ∧ M.1 400 6 = bI b ∧ (b = false → (M.1 401 0 = nI 0 ∧ M.1 401 35 = nI 0) ∧ M.1 400 7 = nI 0 ∧ M.1 10 9 = nI 0 ∧ M.1 104 4 = nI 0 ∧ M.1 104 5 = nI 0 ∧ M.1 104 7 = nI 0) ∧ (b = true → qKept M 100 401 0)
/-- the relation, but for the class's memo of most pairs -/
def qREL (M : qxM) : Prop := rNow M ∧ ((∃ g, cS 104 M g) ∧ (∃ g, cS 124 M g)) ∧ rUndo M ∧ rSaved M ∧ rParse M ∧ rText M
/-- only thrown, the tables and the aside of the Model, and the memo of the class, may have changed -/
def qFree (a : Nat) : Prop := a = 402 ∨ a = 407 ∨ a = 408 ∨ a = 409 ∨ a = 40 ∨ a = 41 ∨ a = 42 ∨ a = 43
theorem qREL_fr {M M' : qxM} (h : qREL M) (h1 : ∀ a, a ≠ 400 → ¬ qFree a → M'.1 a = M.1 a) (h2 : ∀ k, k ≠ 0 → M'.1 400 k = M.1 400 k) : qREL M' := by
  obtain ⟨⟨b, b1, b2, b0, b3⟩, ⟨⟨g, hg⟩, ⟨g', hg'⟩⟩, ⟨c, E, c1, c2, c3, c4, c5, c6⟩, ⟨sv, v1, v2, v3⟩, ⟨n, n1, n2, n3, n4, n5, n6⟩, ⟨k, k1, k2, k3, k4⟩⟩ := h
  have hlow : ∀ a, 100 ≤ a → a < 400 → M'.1 a = M.1 a := fun a ha hb => h1 a (by omega) (by unfold qFree; omega)
  have e10 : M'.1 10 = M.1 10 := h1 10 (by decide) (by unfold qFree; omega)
  refine ⟨⟨b, ?_, ?_, ?_, ?_⟩, ⟨⟨g, ?_⟩, ⟨g', ?_⟩⟩, ⟨c, E, c1, c2, ?_, ?_, ?_, ?_⟩, ⟨sv, v1, ?_, ?_⟩, ⟨n, n1, ?_, ?_, ?_, ?_, ?_⟩, ⟨k, k1, ?_, ?_, ?_⟩⟩
  · rw [e10, b1]
  · rw [h2 6 (by decide), b2]
  · rw [h1 401 (by decide) (by unfold qFree; omega), h2 7 (by decide), e10, hlow 104 (by decide) (by decide)]
    exact b0
  · intro hb
    exact qKept_fr (b3 hb) (fun a ha hb => hlow a (by omega) (by omega)) (fun k hk => by rw [h1 401 (by decide) (by unfold qFree; omega)])
  · have hf : qf (fun a => ¬ (100 ≤ a ∧ a < 400)) (M.1, M'.2) M' := ⟨fun a ha => hlow a (Classical.not_not.mp ha).1 (Classical.not_not.mp ha).2, rfl⟩
    exact qS_fr (M := (M.1, M'.2)) hg hf (by omega)
  · have hf : qf (fun a => ¬ (100 ≤ a ∧ a < 400)) (M.1, M'.2) M' := ⟨fun a ha => hlow a (Classical.not_not.mp ha).1 (Classical.not_not.mp ha).2, rfl⟩
    exact qS_fr (M := (M.1, M'.2)) hg' hf (by omega)
  · rw [e10, c3]
  · rw [e10, c4]
  · rw [h2 7 (by decide), c5]
  · intro j hj
    exact qKept_fr (c6 j hj) (fun a ha hb => hlow a (by omega) (by omega)) (fun k hk => by rw [h1 403 (by decide) (by unfold qFree; omega)])
  · rw [e10, v2]
  · intro k hk
    obtain ⟨w1, w2⟩ := v3 k hk
    refine ⟨by rw [h1 405 (by decide) (by unfold qFree; omega), w1], fun hb => ?_⟩
    exact qKept_fr (w2 hb) (fun a ha hb => hlow a (by omega) (by omega)) (fun k hk => by rw [h1 404 (by decide) (by unfold qFree; omega)])
  · rw [h1 20 (by decide) (by unfold qFree; omega), n2]
  · rw [h2 9 (by decide), n3]
  · intro i hi
    rw [h1 21 (by decide) (by unfold qFree; omega), h1 406 (by decide) (by unfold qFree; omega)]
    exact n4 i hi
  · rw [h1 20 (by decide) (by unfold qFree; omega), h2 10 (by decide), n5]
  · rw [h1 20 (by decide) (by unfold qFree; omega), h2 11 (by decide), n6]
  · rw [h1 30 (by decide) (by unfold qFree; omega), k2]
  · rw [h2 21 (by decide), k3]
  · intro i hi
    rw [h1 31 (by decide) (by unfold qFree; omega), h1 410 (by decide) (by unfold qFree; omega), k4 i hi]
theorem qREL_thr {M : qxM} (h : qREL M) (v : Int32) : qREL (qx_up M 400 0 v) :=
  qREL_fr h (fun a ha _ => qx_up_ne M 0 v ha) (fun k hk => by rw [qx_up_at, if_neg (by omega)])
theorem qREL_out {M : qxM} (h : qREL M) (o : (Nat → Int64) × (Nat → UInt64)) : qREL (M.1, o) :=
  qREL_fr (M' := (M.1, o)) h (fun _ _ _ => rfl) (fun _ _ => rfl)
/-- the memo of the class stays -/
def qMem (M M1 : qxM) : Prop := ∀ a, 40 ≤ a → a ≤ 43 → M1.1 a = M.1 a
/-- a call of the class, and then of the Model: the same code, the same answer -/
def qPair (L : Nat) (xs : Nat → Int32) (d Y : Nat) (as : List (Option Value)) (Z : Nat) (zs : List (Option Value)) (ke : Nat → String) (M : qxM) : Prop :=
  ∃ (k : Nat) (v : Int32) (M1 : qxM), Rs L xs d Y 0 as [] M 0 = (if k = 0 then some (.inl (some (.int v)), M1, 0) else some (.inr (ke k), M1, 1)) ∧ k < 4 ∧
    ∀ o, ∃ (v' : Int32) (M2 : qxM), Rs L xs d Z 0 zs [] (M1.1, o) 0 = some (.inl (some (.int v')), M2, 0) ∧ M2.2 = o ∧ (k = 0 → v' = v) ∧ M2.1 400 0 = nI k ∧ qREL M2 ∧ qMem M M2
/-- one that changes nothing -/
theorem qPair_of {L : Nat} {xs : Nat → Int32} {d Y Z : Nat} {as zs : List (Option Value)} {ke : Nat → String} {M : qxM} (hR : qREL M) (k : Nat) (v : Int32) (hk : k < 4)
    (h1 : Rs L xs d Y 0 as [] M 0 = (if k = 0 then some (.inl (some (.int v)), M, 0) else some (.inr (ke k), M, 1)))
    (h2 : ∀ o, ∃ v', Rs L xs d Z 0 zs [] (M.1, o) 0 = some (.inl (some (.int v')), qx_up (M.1, o) 400 0 (nI k), 0) ∧ (k = 0 → v' = v)) : qPair L xs d Y as Z zs ke M := by
  refine ⟨k, v, M, h1, hk, fun o => ?_⟩
  obtain ⟨v', e1, e2⟩ := h2 o
  exact ⟨v', _, e1, rfl, e2, by simp [qx_up_at], qREL_thr (qREL_out hR o) _, fun a h1 h2 => qx_up_ne (M.1, o) 0 (nI k) (by omega)⟩
section QL
variable {L : Nat} {xs : Nat → Int32} {d x : Nat} {M : qxM}
/-- mayPupil and its like, case by case -/
theorem b226a {n : Nat} (hb : M.1 400 6 = bI false) (hn : M.1 401 0 = nI n) (hn2 : n ≤ 14) (z : Int32) : Rs L xs (d + 2) 226 0 [some (.ref (400)), some (.int (z))] [] (M) x = some (.inl (some (.int (bI false))), qx_up M 400 0 (nI 1), x) := a226 hb hn hn2 z
theorem b226b {n : Nat} (hb : M.1 400 6 = bI true) (hn : M.1 401 0 = nI n) (hn2 : n ≤ 14) {z : Int32} (h : qOut n z) : Rs L xs (d + 2) 226 0 [some (.ref (400)), some (.int (z))] [] (M) x = some (.inl (some (.int (bI false))), qx_up M 400 0 (nI 2), x) := by
  have := a226 (L := L) (xs := xs) (d := d) (x := x) hb hn hn2 z
  rw [decide_eq_true h] at this
  exact this
theorem b226c {n p : Nat} (hb : M.1 400 6 = bI true) (hn : M.1 401 0 = nI n) (hn2 : n ≤ 14) (h : p < n) : Rs L xs (d + 2) 226 0 [some (.ref (400)), some (.int (nI p))] [] (M) x = some (.inl (some (.int (bI true))), qx_up M 400 0 (nI 0), x) := by
  have := a226 (L := L) (xs := xs) (d := d) (x := x) hb hn hn2 (nI p)
  rw [decide_eq_false (qOut_in (by omega) h)] at this
  exact this
theorem b227a {n : Nat} (hb : M.1 400 6 = bI false) (hn : M.1 401 0 = nI n) (hn2 : n ≤ 14) (z y : Int32) : Rs L xs (d + 2) 227 0 [some (.ref (400)), some (.int (z)), some (.int (y))] [] (M) x = some (.inl (some (.int (bI false))), qx_up M 400 0 (nI 1), x) := a227 hb hn hn2 z y
theorem b227b {n : Nat} (hb : M.1 400 6 = bI true) (hn : M.1 401 0 = nI n) (hn2 : n ≤ 14) {z y : Int32} (h : qOut n z ∨ qOut n y) : Rs L xs (d + 2) 227 0 [some (.ref (400)), some (.int (z)), some (.int (y))] [] (M) x = some (.inl (some (.int (bI false))), qx_up M 400 0 (nI 2), x) := by
  have := a227 (L := L) (xs := xs) (d := d) (x := x) hb hn hn2 z y
  have e : (!decide (qOut n z) && !decide (qOut n y)) = false := by
    rcases h with h | h
    · rw [decide_eq_true h]
      rfl
    · rw [decide_eq_true h, Bool.not_true, Bool.and_false]
  rw [e] at this
  exact this
theorem b227c {n p q : Nat} (hb : M.1 400 6 = bI true) (hn : M.1 401 0 = nI n) (hn2 : n ≤ 14) (h : p < n) (hq : q < n) : Rs L xs (d + 2) 227 0 [some (.ref (400)), some (.int (nI p)), some (.int (nI q))] [] (M) x = some (.inl (some (.int (bI true))), qx_up M 400 0 (nI 0), x) := by
  have := a227 (L := L) (xs := xs) (d := d) (x := x) hb hn hn2 (nI p) (nI q)
  rw [decide_eq_false (qOut_in (by omega) h), decide_eq_false (qOut_in (by omega) hq)] at this
  exact this
theorem b263a (hb : M.1 400 6 = bI false) : Rs L xs (d + 1) 263 0 [some (.ref (400))] [] (M) x = some (.inl (some (.int (bI false))), qx_up M 400 0 (nI 1), x) := a263 hb
theorem b263c (hb : M.1 400 6 = bI true) : Rs L xs (d + 1) 263 0 [some (.ref (400))] [] (M) x = some (.inl (some (.int (bI true))), qx_up M 400 0 (nI 0), x) := a263 hb
end QL
def ke0 (k : Nat) : String := if k = 1 then qx_ex 0 else ""
def ke2 (k : Nat) : String := if k = 1 then qx_ex 2 else ""
def ke02 (k : Nat) : String := if k = 1 then qx_ex 0 else if k = 2 then qx_ex 2 else ""
def ke01 (k : Nat) : String := if k = 1 then qx_ex 0 else if k = 2 then qx_ex 1 else ""
def ke021 (k : Nat) : String := if k = 1 then qx_ex 0 else if k = 2 then qx_ex 2 else if k = 3 then qx_ex 1 else ""
/-- what the relation says of the state that is now -/
theorem qREL_now {M : qxM} (h : qREL M) : (M.1 10 10 = bI false ∧ M.1 400 6 = bI false ∧ M.1 401 0 = nI 0 ∧ M.1 401 35 = nI 0) ∨ (M.1 10 10 = bI true ∧ M.1 400 6 = bI true ∧ ∃ G, gG G ∧ 1 ≤ G.1.1 ∧ cT 100 M G ∧ mT M G) := by
  obtain ⟨b, b1, b2, b0, b3⟩ := h.1
  cases b with
  | false => exact Or.inl ⟨b1, b2, (b0 rfl).1⟩
  | true =>
    obtain ⟨G, g1, g2, g3, g4⟩ := b3 rfl
    exact Or.inr ⟨b1, b2, G, g1, g2, g3, g4 M (fun k _ => by rw [Nat.zero_add])⟩
