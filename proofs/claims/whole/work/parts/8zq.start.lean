/-! The start: the relation holds, the memo is empty. -/
theorem qM0_z {a k : Nat} (h1 : a ≠ 40) (h2 : a ≠ 20) (h3 : a ≠ 400) : qx_M0.1 a k = nI 0 := by
  show (if a = 40 ∧ k = 4 then (1 : Int32) else if (a = 20 ∧ k = 4) ∨ (a = 400 ∧ k = 11) then -1 else 0) = nI 0
  rw [if_neg (fun w => h1 w.1), if_neg (fun w => w.elim (fun v => h2 v.1) (fun v => h3 v.1))]
  rfl
theorem cS_0 {t : Nat} (h : t = 104 ∨ t = 124) : cS t qx_M0 ((0, 0, 0, 0), (0, 0, 0, 0, 0), fun _ => 0, fun _ => 0, fun _ => 0, fun _ => 0, fun _ => 0, fun _ => []) := by
  have z : ∀ j k, j ≤ 8 → qx_M0.1 (t + j) k = nI 0 := fun j k hj => qM0_z (by omega) (by omega) (by omega)
  have z0 : ∀ k, qx_M0.1 t k = nI 0 := fun k => z 0 k (by decide)
  refine ⟨⟨z0 0, z0 1, z0 2, z0 3, z0 4, z0 5, z0 6, z0 7, z0 8⟩, fun i hi => absurd hi (Nat.not_lt_zero i), fun p hp => ?_, fun p hp => ?_, fun p hp => ?_, fun p hp => ?_, fun p hp => ?_⟩
  · exact z _ _ (by decide)
  · exact z _ _ (by decide)
  · exact z _ _ (by decide)
  · exact z _ _ (by decide)
  · exact ⟨Nat.zero_le _, qM0_z (by omega) (by omega) (by omega), fun i hi => absurd hi (Nat.not_lt_zero i)⟩
theorem qREL_0 : qREL qx_M0 := by
  refine ⟨⟨false, by decide, by decide, fun _ => ⟨⟨by decide, by decide⟩, by decide, by decide, by decide, by decide, by decide⟩, fun h => absurd h (by decide)⟩, ⟨⟨_, cS_0 (Or.inl rfl)⟩, ⟨_, cS_0 (Or.inr rfl)⟩⟩, ⟨0, 0, by decide, by decide, by decide, by decide, by decide, fun j hj => absurd hj (Nat.not_lt_zero j)⟩, ⟨0, by decide, by decide, fun k hk => ⟨?_, fun h => ?_⟩⟩, ⟨0, by decide, by decide, by decide, fun i hi => absurd hi (Nat.not_lt_zero i), by decide, by decide⟩, ⟨0, by decide, by decide, by decide, fun i hi => absurd hi (Nat.not_lt_zero i)⟩⟩
  · rw [Nat.zero_testBit, qM0_z (by decide) (by decide) (by decide)]
    rfl
  · rw [Nat.zero_testBit] at h
    exact absurd h (by decide)
theorem qTab_0 : qTab 1 qx_M0 := by
  refine ⟨fun _ => 0, 1, ⟨fun a b _ _ => ?_, fun p _ => (show 0 < 16384 by decide)⟩, Nat.le_refl _, fun p _ => qM0_z (by decide) (by decide) (by decide), by decide, fun j _ => ⟨0, by decide, qM0_z (by decide) (by decide) (by decide), fun h => absurd h (by decide)⟩⟩
  unfold qe
  simp
