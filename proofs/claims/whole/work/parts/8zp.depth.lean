/-! A greater depth: the same run. -/
theorem Rs_mono {L : Nat} {xs : Nat → Int32} : ∀ (d y pc : Nat) (ls : qxL) (st : List Value) (M : qxM) (x : Nat) (r : qxO), Rs L xs d y pc ls st M x = some r → Rs L xs (d + 1) y pc ls st M x = some r := by
  refine Rs.partial_correctness L xs (fun d y pc ls st M x r => Rs L xs (d + 1) y pc ls st M x = some r) ?_
  intro f hf d y pc ls st M x r h
  rw [Rs]
  revert h
  cases hc : qx_code y pc with
  | none => intro h; exact h
  | some e =>
    cases ha : qx_act L xs (qx_rt y) e ls st M with
    | none => simp [ha]
    | some a =>
      rcases a with q | v | E | c
      · simp only [ha]
        exact hf _ _ _ _ _ _ _ _
      · simp only [ha]
        exact id
      · simp only [ha]
        exact id
      · simp only [ha]
        cases d with
        | zero => intro h; exact absurd h (by simp)
        | succ d1 =>
          dsimp only
          split
          · intro h
            obtain ⟨r0, h0, h1⟩ := Option.bind_eq_some_iff.mp h
            refine Option.bind_eq_some_iff.mpr ⟨r0, hf _ _ _ _ _ _ _ _ h0, ?_⟩
            revert h1
            cases r0.1 with
            | inl v => exact hf _ _ _ _ _ _ _ _
            | inr E =>
              dsimp only
              split
              · exact id
              · split
                · split
                  · exact hf _ _ _ _ _ _ _ _
                  · exact id
                · exact id
          · exact id
