/-! Changes: the relation behind one. -/
theorem qKept_of {M : qxM} {s b o : Nat} {G : qGs} (h1 : gG G) (h2 : 1 ≤ G.1.1) (h3 : cT s M G) {M0 : qxM} (h4 : mT M0 G) (he : ∀ k, k < 335 → M.1 b (o + k) = M0.1 401 k) : qKept M s b o :=
  ⟨G, h1, h2, h3, fun A hA => mT_cong h1 h4 (fun k hk => by rw [hA k hk, he k hk])⟩
def qNew (c : Nat) : Nat := if c = 8 then 8 else c + 1
def qRing (E : Nat) : Nat := if E = 7 then 0 else E + 1
theorem qREL_chg {M M1 M2 : qxM} {c E : Nat} {G0 G1 : qGs} (hR : qREL M) (hE8 : E < 8) (hc8 : c ≤ 8) (hE : M.1 10 7 = nI E) (hc : M.1 10 8 = nI c)
    (hld : M.1 10 10 = bI true) (hmt : mT M G0) (hg0 : gG G0) (hn0 : 1 ≤ G0.1.1)
    (c1 : M1.1 10 7 = nI (qRing E)) (c2 : M1.1 10 8 = nI (qNew c)) (c3 : ∀ k, k ≠ 7 → k ≠ 8 → M1.1 10 k = M.1 10 k) (c4 : cT (140 + 20 * E) M1 G0)
    (c5 : ∀ a, a ≠ 10 → ¬ qTf (140 + 20 * E) a → ¬ qTf 100 a → M1.1 a = M.1 a)
    (d1 : M2.1 400 7 = nI (qNew c)) (d2 : ∀ k, k ≠ 0 → k ≠ 7 → M2.1 400 k = M1.1 400 k)
    (d3 : ∀ k, k < 335 → M2.1 403 (335 * (if c = 8 then 7 else c) + k) = M1.1 401 k)
    (d4 : ∀ j k, j < (if c = 8 then 7 else c) → k < 335 → M2.1 403 (335 * j + k) = M1.1 403 (335 * (if c = 8 then j + 1 else j) + k))
    (d5 : ∀ a, a ≠ 400 → a ≠ 401 → a ≠ 403 → M2.1 a = M1.1 a)
    (n1 : cT 100 M1 G1) (n2 : mT M2 G1) (n3 : gG G1) (n4 : 1 ≤ G1.1.1) : qREL M2 := by
  obtain ⟨⟨b, b1, b2, b0, b3⟩, ⟨⟨g, hg⟩, ⟨g', hg'⟩⟩, ⟨c', E', e1, e2, e3, e4, e5, e6⟩, ⟨sv, v1, v2, v3⟩, ⟨n, p1, p2, p3, p4, p5, p6⟩, ⟨k, k1, k2, k3, k4⟩⟩ := hR
  have hcc : c' = c := (nI_eq (by omega) (by omega)).mp (e4.symm.trans hc)
  have hEE : E' = E := (nI_eq (by omega) (by omega)).mp (e3.symm.trans hE)
  subst hcc hEE
  have hbt : b = true := by
    cases b with
    | true => rfl
    | false =>
      rw [b1] at hld
      exact absurd hld (by decide)
  subst hbt
  have low : ∀ a, a < 400 → M2.1 a = M1.1 a := fun a ha => d5 a (by omega) (by omega) (by omega)
  have far : ∀ a, a ≠ 10 → ¬ qTf (140 + 20 * E') a → ¬ qTf 100 a → a < 400 → M2.1 a = M.1 a := fun a h1 h2 h3 h4 => by rw [low a h4, c5 a h1 h2 h3]
  have m1 : ∀ a, 400 ≤ a → M1.1 a = M.1 a := fun a ha => c5 a (by omega) (by unfold qTf; omega) (by unfold qTf; omega)
  have hcT1 : cT 100 M2 G1 := cT_fr n1 (fun a ha hb => low a (by omega))
  have hcT0 : cT (140 + 20 * E') M2 G0 := cT_fr c4 (fun a ha hb => low a (by omega))
  refine ⟨⟨true, ?_, ?_, ?_, ?_⟩, ⟨⟨G1.2.2.2.2, hcT1.2.2⟩, ⟨g', ?_⟩⟩, ⟨qNew c', qRing E', ?_, ?_, ?_, ?_, ?_, ?_⟩, ⟨sv, v1, ?_, ?_⟩, ⟨n, p1, ?_, ?_, ?_, ?_, ?_⟩, ⟨k, k1, ?_, ?_, ?_⟩⟩
  · rw [low 10 (by decide), c3 10 (by decide) (by decide), hld]
  · rw [d2 6 (by decide) (by decide), m1 400 (by decide), b2]
  · intro h
    exact absurd h (by decide)
  · intro _
    exact qKept_now n3 n4 hcT1 n2
  · have hf : qf (fun a => ¬ (113 ≤ a ∧ a < 140)) (M.1, M2.2) M2 := ⟨fun a ha => by
      have := Classical.not_not.mp ha
      exact far a (by omega) (by unfold qTf; omega) (by unfold qTf; omega) (by omega), rfl⟩
    exact qS_fr (M := (M.1, M2.2)) hg' hf (by omega)
  · unfold qNew
    split <;> omega
  · unfold qRing
    split <;> omega
  · rw [low 10 (by decide), c1]
  · rw [low 10 (by decide), c2]
  · exact d1
  · intro j hj
    by_cases hl : j = (if c' = 8 then 7 else c')
    · have hslot : (qRing E' + 8 - qNew c' + j) % 8 = E' := by
        unfold qRing qNew
        unfold qNew at hj
        by_cases h8 : c' = 8
        · rw [if_pos h8] at hl hj ⊢
          split <;> omega
        · rw [if_neg h8] at hl hj ⊢
          split <;> omega
      rw [hslot]
      refine qKept_of hg0 hn0 hcT0 hmt (fun k hk => ?_)
      rw [hl, d3 k hk, m1 401 (by decide)]
    · have hj2 : j < (if c' = 8 then 7 else c') := by
        unfold qNew at hj
        by_cases h8 : c' = 8
        · rw [if_pos h8] at hl hj ⊢
          omega
        · rw [if_neg h8] at hl hj ⊢
          omega
      have hold := e6 (if c' = 8 then j + 1 else j) (by
        by_cases h8 : c' = 8
        · rw [if_pos h8] at hj2 ⊢
          omega
        · rw [if_neg h8] at hj2 ⊢
          omega)
      have hslot : (E' + 8 - c' + (if c' = 8 then j + 1 else j)) % 8 = (qRing E' + 8 - qNew c' + j) % 8 := by
        unfold qRing qNew
        by_cases h8 : c' = 8
        · rw [if_pos h8, if_pos h8]
          split <;> omega
        · rw [if_neg h8, if_neg h8]
          split <;> omega
      have hne : (qRing E' + 8 - qNew c' + j) % 8 ≠ E' := by
        unfold qRing qNew
        by_cases h8 : c' = 8
        · rw [if_pos h8] at hj2 ⊢
          split <;> omega
        · rw [if_neg h8] at hj2 ⊢
          split <;> omega
      rw [hslot] at hold
      obtain ⟨G, g1, g2, g3, g4⟩ := hold
      have hlt : (qRing E' + 8 - qNew c' + j) % 8 < 8 := Nat.mod_lt _ (by decide)
      refine ⟨G, g1, g2, cT_fr g3 (fun a ha hb => far a (by omega) (by unfold qTf; omega) (by unfold qTf; omega) (by omega)), fun A hA => g4 A (fun k hk => ?_)⟩
      rw [hA k hk, d4 j k hj2 hk, m1 403 (by decide)]
  · rw [low 10 (by decide), c3 9 (by decide) (by decide), v2]
  · intro k hk
    obtain ⟨w1, w2⟩ := v3 k hk
    refine ⟨by rw [d5 405 (by decide) (by decide) (by decide), m1 405 (by decide), w1], fun hb => ?_⟩
    exact qKept_fr (w2 hb) (fun a ha hb => far a (by omega) (by unfold qTf; omega) (by unfold qTf; omega) (by omega)) (fun k hk => by rw [d5 404 (by decide) (by decide) (by decide), m1 404 (by decide)])
  · rw [far 20 (by decide) (by unfold qTf; omega) (by unfold qTf; omega) (by decide), p2]
  · rw [d2 9 (by decide) (by decide), m1 400 (by decide), p3]
  · intro i hi
    rw [far 21 (by decide) (by unfold qTf; omega) (by unfold qTf; omega) (by decide), d5 406 (by decide) (by decide) (by decide), m1 406 (by decide)]
    exact p4 i hi
  · rw [far 20 (by decide) (by unfold qTf; omega) (by unfold qTf; omega) (by decide), d2 10 (by decide) (by decide), m1 400 (by decide), p5]
  · rw [far 20 (by decide) (by unfold qTf; omega) (by unfold qTf; omega) (by decide), d2 11 (by decide) (by decide), m1 400 (by decide), p6]
  · rw [far 30 (by decide) (by unfold qTf; omega) (by unfold qTf; omega) (by decide), k2]
  · rw [d2 21 (by decide) (by decide), m1 400 (by decide), k3]
  · intro i hi
    rw [far 31 (by decide) (by unfold qTf; omega) (by unfold qTf; omega) (by decide), d5 410 (by decide) (by decide) (by decide), m1 410 (by decide), k4 i hi]
/-- what the relation says of the ring -/
theorem qREL_ring {M : qxM} (h : qREL M) : ∃ c E, c ≤ 8 ∧ E < 8 ∧ M.1 10 7 = nI E ∧ M.1 10 8 = nI c ∧ M.1 400 7 = nI c := by
  obtain ⟨c, E, c1, c2, c3, c4, c5, _⟩ := h.2.2.1
  exact ⟨c, E, c1, c2, c3, c4, c5⟩
