/-! All that was to be checked of the tables. -/
theorem qx_okM_all : ∀ y, y < 394 → qx_okM y = true := by
  intro y hy
  by_cases h0 : y < 20
  · have h := List.all_eq_true.mp qx_ck0 (y - 0) (List.mem_range.mpr (by omega))
    rwa [show 0 + (y - 0) = y by omega] at h
  by_cases h20 : y < 40
  · have h := List.all_eq_true.mp qx_ck20 (y - 20) (List.mem_range.mpr (by omega))
    rwa [show 20 + (y - 20) = y by omega] at h
  by_cases h40 : y < 60
  · have h := List.all_eq_true.mp qx_ck40 (y - 40) (List.mem_range.mpr (by omega))
    rwa [show 40 + (y - 40) = y by omega] at h
  by_cases h60 : y < 80
  · have h := List.all_eq_true.mp qx_ck60 (y - 60) (List.mem_range.mpr (by omega))
    rwa [show 60 + (y - 60) = y by omega] at h
  by_cases h80 : y < 100
  · have h := List.all_eq_true.mp qx_ck80 (y - 80) (List.mem_range.mpr (by omega))
    rwa [show 80 + (y - 80) = y by omega] at h
  by_cases h100 : y < 120
  · have h := List.all_eq_true.mp qx_ck100 (y - 100) (List.mem_range.mpr (by omega))
    rwa [show 100 + (y - 100) = y by omega] at h
  by_cases h120 : y < 140
  · have h := List.all_eq_true.mp qx_ck120 (y - 120) (List.mem_range.mpr (by omega))
    rwa [show 120 + (y - 120) = y by omega] at h
  by_cases h140 : y < 160
  · have h := List.all_eq_true.mp qx_ck140 (y - 140) (List.mem_range.mpr (by omega))
    rwa [show 140 + (y - 140) = y by omega] at h
  by_cases h160 : y < 180
  · have h := List.all_eq_true.mp qx_ck160 (y - 160) (List.mem_range.mpr (by omega))
    rwa [show 160 + (y - 160) = y by omega] at h
  by_cases h180 : y < 200
  · have h := List.all_eq_true.mp qx_ck180 (y - 180) (List.mem_range.mpr (by omega))
    rwa [show 180 + (y - 180) = y by omega] at h
  by_cases h200 : y < 220
  · have h := List.all_eq_true.mp qx_ck200 (y - 200) (List.mem_range.mpr (by omega))
    rwa [show 200 + (y - 200) = y by omega] at h
  by_cases h220 : y < 240
  · have h := List.all_eq_true.mp qx_ck220 (y - 220) (List.mem_range.mpr (by omega))
    rwa [show 220 + (y - 220) = y by omega] at h
  by_cases h240 : y < 260
  · have h := List.all_eq_true.mp qx_ck240 (y - 240) (List.mem_range.mpr (by omega))
    rwa [show 240 + (y - 240) = y by omega] at h
  by_cases h260 : y < 280
  · have h := List.all_eq_true.mp qx_ck260 (y - 260) (List.mem_range.mpr (by omega))
    rwa [show 260 + (y - 260) = y by omega] at h
  by_cases h280 : y < 300
  · have h := List.all_eq_true.mp qx_ck280 (y - 280) (List.mem_range.mpr (by omega))
    rwa [show 280 + (y - 280) = y by omega] at h
  by_cases h300 : y < 320
  · have h := List.all_eq_true.mp qx_ck300 (y - 300) (List.mem_range.mpr (by omega))
    rwa [show 300 + (y - 300) = y by omega] at h
  by_cases h320 : y < 340
  · have h := List.all_eq_true.mp qx_ck320 (y - 320) (List.mem_range.mpr (by omega))
    rwa [show 320 + (y - 320) = y by omega] at h
  by_cases h340 : y < 360
  · have h := List.all_eq_true.mp qx_ck340 (y - 340) (List.mem_range.mpr (by omega))
    rwa [show 340 + (y - 340) = y by omega] at h
  by_cases h360 : y < 380
  · have h := List.all_eq_true.mp qx_ck360 (y - 360) (List.mem_range.mpr (by omega))
    rwa [show 360 + (y - 360) = y by omega] at h
  by_cases h380 : y < 394
  · have h := List.all_eq_true.mp qx_ck380 (y - 380) (List.mem_range.mpr (by omega))
    rwa [show 380 + (y - 380) = y by omega] at h
  omega
theorem qx_okL : qk_L_law.all (qx_okE RL cL_law) = true := by
  unfold qk_L_law
  simp only [List.all_append, Bool.and_eq_true]
  exact ⟨qx_cl0, qx_cl1, qx_cl2, qx_cl3, qx_cl4, qx_cl5, qx_cl6, qx_cl7, qx_cl8, qx_cl9, qx_cl10, qx_cl11, qx_cl12, qx_cl13, qx_cl14, qx_cl15, qx_cl16, qx_cl17, qx_cl18, qx_cl19, qx_cl20, qx_cl21⟩
theorem qx_OK_ok : qx_OK := by
  refine ⟨?_, ?_, ?_⟩
  · intro y ci k hci hk
    by_cases hy : y < 394
    · have h := qx_okM_all y hy
      unfold qx_okM at h
      rw [hci, hk] at h
      simp only [Bool.and_eq_true] at h
      exact h.2
    · have h1 : y < 395 := by
        have h7 := (List.getElem?_eq_some_iff.mp hci).1
        rw [qx_mis_len] at h7
        exact h7
      obtain rfl : y = 394 := by omega
      have e1 : qx_kcs[394]? = some qk_L_law := rfl
      have e2 : ∃ c9, qx_mis[394]? = some c9 ∧ c9.1 = RL ∧ c9.2.2.1 = cL_law := ⟨_, rfl, rfl, rfl⟩
      obtain ⟨c9, e2, e3, e4⟩ := e2
      rw [e1] at hk
      rw [e2] at hci
      cases hk
      cases hci
      rw [e3, e4]
      exact qx_okL
  · intro y ci hy hci
    have h := qx_okM_all y hy
    unfold qx_okM at h
    rw [hci] at h
    cases hk : qx_kcs[y]? with
    | none => rw [hk] at h; cases h
    | some k =>
      rw [hk] at h
      simp only [Bool.and_eq_true] at h
      exact h.1
  · intro y hy
    exact List.all_eq_true.mp qx_ckH y (List.mem_range.mpr hy)
