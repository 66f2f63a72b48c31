/-! What a run throws; what a boolean method answers. -/
theorem act_thr {L : Nat} {xs : Nat → Int32} {rt : Option FieldType} {e : qxE} {ls : qxL} {st : List Value} {M : qxM} {E : String} (h : qx_act L xs rt e ls st M = some (.inr (.inr (.inl E)))) : ∃ a, a < 3 ∧ E = qx_ex a := by
  obtain ⟨pc, ins, np, a, b, c⟩ := e
  unfold qx_act at h
  cases ins <;> simp only [qx_go, qx_sI, qx_s2] at h <;> (repeat' split at h) <;> simp_all
  exact ⟨a, by omega, h.symm⟩
theorem Rs_bool {L : Nat} {xs : Nat → Int32} : ∀ (d y pc : Nat) (ls : qxL) (st : List Value) (M : qxM) (x : Nat) (r : qxO), Rs L xs d y pc ls st M x = some r → qx_rt y = some .boolean → ∀ v, r.1 = .inl (some (.int v)) → v = 0 ∨ v = 1 := by
  refine Rs.partial_correctness L xs (fun d y pc ls st M x r => qx_rt y = some .boolean → ∀ v, r.1 = .inl (some (.int v)) → v = 0 ∨ v = 1) ?_
  intro f hf d y pc ls st M x r h hb v hv
  revert h
  cases hc : qx_code y pc with
  | none => intro h; exact absurd h (by simp)
  | some e =>
    cases ha : qx_act L xs (qx_rt y) e ls st M with
    | none => simp [ha]
    | some a =>
      rcases a with q | w | E | c
      · simp only [ha]
        exact fun h => hf _ _ _ _ _ _ _ _ h hb v hv
      · simp only [ha]
        intro h
        injection h with h
        subst h
        injection hv with hv
        subst hv
        rw [hb] at ha
        exact act_bool ha
      · simp only [ha]
        intro h
        split at h
        · injection h with h
          subst h
          exact absurd hv (by simp)
        · exact absurd h (by simp)
      · simp only [ha]
        cases d with
        | zero => intro h; exact absurd h (by simp)
        | succ d1 =>
          dsimp only
          split
          · intro h
            obtain ⟨r0, h0, h1⟩ := Option.bind_eq_some_iff.mp h
            revert h1
            cases r0.1 with
            | inl w => exact fun h => hf _ _ _ _ _ _ _ _ h hb v hv
            | inr E =>
              dsimp only
              split
              · intro h; exact absurd h (by simp)
              · split
                · split
                  · exact fun h => hf _ _ _ _ _ _ _ _ h hb v hv
                  · intro h; exact absurd h (by simp)
                · split
                  · intro h
                    injection h with h
                    subst h
                    exact absurd hv (by simp)
                  · intro h; exact absurd h (by simp)
          · intro h; exact absurd h (by simp)
theorem Rs_exc {L : Nat} {xs : Nat → Int32} : ∀ (d y pc : Nat) (ls : qxL) (st : List Value) (M : qxM) (x : Nat) (r : qxO), Rs L xs d y pc ls st M x = some r → ∀ E, r.1 = .inr E → ∃ a, a < 3 ∧ E = qx_ex a := by
  refine Rs.partial_correctness L xs (fun d y pc ls st M x r => ∀ E, r.1 = .inr E → ∃ a, a < 3 ∧ E = qx_ex a) ?_
  intro f hf d y pc ls st M x r h E hv
  revert h
  cases hc : qx_code y pc with
  | none => intro h; exact absurd h (by simp)
  | some e =>
    cases ha : qx_act L xs (qx_rt y) e ls st M with
    | none => simp [ha]
    | some a =>
      rcases a with q | w | E1 | c
      · simp only [ha]
        exact fun h => hf _ _ _ _ _ _ _ _ h E hv
      · simp only [ha]
        intro h
        injection h with h
        subst h
        exact absurd hv (by simp)
      · simp only [ha]
        intro h
        split at h
        · injection h with h
          subst h
          injection hv with hv
          subst hv
          exact act_thr ha
        · exact absurd h (by simp)
      · simp only [ha]
        cases d with
        | zero => intro h; exact absurd h (by simp)
        | succ d1 =>
          dsimp only
          split
          · intro h
            obtain ⟨r0, h0, h1⟩ := Option.bind_eq_some_iff.mp h
            have hr0 := hf _ _ _ _ _ _ _ _ h0
            revert h1 hr0
            cases r0.1 with
            | inl w => exact fun h _ => hf _ _ _ _ _ _ _ _ h E hv
            | inr E1 =>
              intro h hr0
              revert h
              dsimp only
              split
              · intro h; exact absurd h (by simp)
              · split
                · split
                  · exact fun h => hf _ _ _ _ _ _ _ _ h E hv
                  · intro h; exact absurd h (by simp)
                · split
                  · intro h
                    injection h with h
                    subst h
                    injection hv with hv
                    subst hv
                    exact hr0 _ rfl
                  · intro h; exact absurd h (by simp)
          · intro h; exact absurd h (by simp)
