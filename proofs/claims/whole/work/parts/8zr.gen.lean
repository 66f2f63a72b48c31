/-! What a run throws, what a boolean method answers, what a handler takes. -/
theorem qx_kn_c {L : Nat} {xs : Nat → Int32} {d1 y pc np y1 x : Nat} {ls : qxL} {st : List Value} {E : String} {M1 : qxM} {x1 : Nat} {h : Nat × Nat} (h1 : qx_ss y1 = false) (h2 : qx_hd y pc E = some h) (h3 : qx_c1 ls h.2 = true ∧ h.2 < ls.length) : qx_kn L xs d1 y pc np y1 ls st x (.inr E, M1, x1) = Rs L xs d1 y h.1 (ls.set h.2 none) [] M1 (x + x1) := by
  unfold qx_kn
  simp only [h1, h2, if_pos h3, Bool.false_eq_true, if_false]
theorem act_bool {L : Nat} {xs : Nat → Int32} {e : qxE} {ls : qxL} {st : List Value} {M : qxM} {v : Int32} (h : qx_act L xs (some .boolean) e ls st M = some (.inr (.inl (some (.int v))))) : v = 0 ∨ v = 1 := by
  obtain ⟨pc, ins, np, a, b, c⟩ := e
  unfold qx_act at h
  cases ins <;> simp only [qx_go, qx_sI, qx_s2] at h <;> (repeat' split at h) <;> simp_all
