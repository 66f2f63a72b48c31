/-! Steps. -/
theorem c92_0 : qx_code 92 0 = some (0, .aload_n 0, 1, 0, 0, 0) := by decide +kernel
theorem s92_0 {L : Nat} {xs : Nat → Int32} {d x : Nat} {M : qxM} {st : List Value} {a1 a2 a3 a4 a5 : Option Value} {z : Nat} : Rs L xs (d) 92 0 [some (.ref z), a1, a2, a3, a4, a5] st M x = Rs L xs (d) 92 1 [some (.ref z), a1, a2, a3, a4, a5] (.ref z :: st) M x := Rs_next c92_0 rfl
theorem c92_1 : qx_code 92 1 = some (1, .getfield 10, 4, 7, 0, 381) := by decide +kernel
theorem s92_1 {L : Nat} {xs : Nat → Int32} {d x : Nat} {M : qxM} {st : List Value} {ls : qxL} {t : Nat} (hk : qx_kd t = 17) : Rs L xs (d) 92 1 ls (.ref t :: st) M x = Rs L xs (d) 92 4 ls (.ref (t + 10) :: st) M x := Rs_when (qx_kd_obj (k := 7) (by decide) hk) c92_1 rfl
theorem c92_4 : qx_code 92 4 = some (4, .invokevirtual 47, 7, 19, 1, 419) := by decide +kernel
theorem s92_4 {L : Nat} {xs : Nat → Int32} {d x : Nat} {M : qxM} {st : List Value} {ls : qxL} {t : Nat} (hk : qx_kd t = 11) (hs : st.length ≤ 4) : Rs L xs (d + 1) 92 4 ls (.ref t :: st) M x = (Rs L xs d 19 0 [some (.ref t)] [] M 0).bind (qx_kn L xs (d + 1) 92 4 7 19 ls st x) := by
  have h1 : qx_act L xs (qx_rt 92) (4, .invokevirtual 47, 7, 19, 1, 419) ls (.ref t :: st) M = if 1 ≤ (.ref t :: st).length ∧ st.length ≤ 4 then some (.inr (.inr (.inr (19, [.ref t], st)))) else none := rfl
  rw [if_pos ⟨by simp [List.length_cons]; try omega, hs⟩] at h1
  have h2 := qx_kd_obj (k := 1) (by decide) hk
  exact Rs_call c92_4 h1 (by rw [show qx_args 19 [.ref t] = decide (qx_sh t = some (.inl 1)) from rfl]; exact decide_eq_true h2)
theorem c92_7 : qx_code 92 7 = some (7, .ifCond .ne 5, 10, 12, 0, 0) := by decide +kernel
theorem s92_7 {L : Nat} {xs : Nat → Int32} {d x : Nat} {M : qxM} {st : List Value} {ls : qxL} {z : Int32} : Rs L xs (d) 92 7 ls (.int z :: st) M x = if z = 0 then Rs L xs (d) 92 10 ls st M x else Rs L xs (d) 92 12 ls st M x := Rs_ite c92_7 rfl
theorem c92_10 : qx_code 92 10 = some (10, .iconst (-1), 11, 0, 0, 0) := by decide +kernel
theorem s92_10 {L : Nat} {xs : Nat → Int32} {d x : Nat} {M : qxM} {st : List Value} {ls : qxL} : Rs L xs (d) 92 10 ls st M x = Rs L xs (d) 92 11 ls (.int (-1) :: st) M x := Rs_next c92_10 rfl
theorem c92_11 : qx_code 92 11 = some (11, .ireturn, 12, 0, 0, 0) := by decide +kernel
theorem s92_11 {L : Nat} {xs : Nat → Int32} {d x : Nat} {M : qxM} {ls : qxL} {z : Int32} : Rs L xs (d) 92 11 ls [.int z] M x = some (.inl (some (.int z)), M, x) := Rs_ret c92_11 rfl
theorem c92_12 : qx_code 92 12 = some (12, .aload_n 0, 13, 0, 0, 0) := by decide +kernel
theorem s92_12 {L : Nat} {xs : Nat → Int32} {d x : Nat} {M : qxM} {st : List Value} {a1 a2 a3 a4 a5 : Option Value} {z : Nat} : Rs L xs (d) 92 12 [some (.ref z), a1, a2, a3, a4, a5] st M x = Rs L xs (d) 92 13 [some (.ref z), a1, a2, a3, a4, a5] (.ref z :: st) M x := Rs_next c92_12 rfl
theorem c92_13 : qx_code 92 13 = some (13, .getfield 10, 16, 7, 0, 381) := by decide +kernel
theorem s92_13 {L : Nat} {xs : Nat → Int32} {d x : Nat} {M : qxM} {st : List Value} {ls : qxL} {t : Nat} (hk : qx_kd t = 17) : Rs L xs (d) 92 13 ls (.ref t :: st) M x = Rs L xs (d) 92 16 ls (.ref (t + 10) :: st) M x := Rs_when (qx_kd_obj (k := 7) (by decide) hk) c92_13 rfl
theorem c92_16 : qx_code 92 16 = some (16, .iload_n 1, 17, 0, 0, 0) := by decide +kernel
theorem s92_16 {L : Nat} {xs : Nat → Int32} {d x : Nat} {M : qxM} {st : List Value} {a0 a2 a3 a4 a5 : Option Value} {z : Int32} : Rs L xs (d) 92 16 [a0, some (.int z), a2, a3, a4, a5] st M x = Rs L xs (d) 92 17 [a0, some (.int z), a2, a3, a4, a5] (.int z :: st) M x := Rs_next c92_16 rfl
theorem c92_17 : qx_code 92 17 = some (17, .invokevirtual 51, 20, 20, 2, 423) := by decide +kernel
theorem s92_17 {L : Nat} {xs : Nat → Int32} {d x : Nat} {M : qxM} {st : List Value} {ls : qxL} {t : Nat} {z0 : Int32} (hk : qx_kd t = 11) (hs : st.length ≤ 4) : Rs L xs (d + 1) 92 17 ls (.int z0 :: .ref t :: st) M x = (Rs L xs d 20 0 [some (.ref t), some (.int z0), none] [] M 0).bind (qx_kn L xs (d + 1) 92 17 20 20 ls st x) := by
  have h1 : qx_act L xs (qx_rt 92) (17, .invokevirtual 51, 20, 20, 2, 423) ls (.int z0 :: .ref t :: st) M = if 2 ≤ (.int z0 :: .ref t :: st).length ∧ st.length ≤ 4 then some (.inr (.inr (.inr (20, [.ref t, .int z0], st)))) else none := rfl
  rw [if_pos ⟨by simp [List.length_cons]; try omega, hs⟩] at h1
  have h2 := qx_kd_obj (k := 1) (by decide) hk
  exact Rs_call c92_17 h1 (by rw [show qx_args 20 [.ref t, .int z0] = decide (qx_sh t = some (.inl 1)) from rfl]; exact decide_eq_true h2)
theorem c92_20 : qx_code 92 20 = some (20, .aload_n 0, 21, 0, 0, 0) := by decide +kernel
theorem s92_20 {L : Nat} {xs : Nat → Int32} {d x : Nat} {M : qxM} {st : List Value} {a1 a2 a3 a4 a5 : Option Value} {z : Nat} : Rs L xs (d) 92 20 [some (.ref z), a1, a2, a3, a4, a5] st M x = Rs L xs (d) 92 21 [some (.ref z), a1, a2, a3, a4, a5] (.ref z :: st) M x := Rs_next c92_20 rfl
theorem c92_21 : qx_code 92 21 = some (21, .getfield 10, 24, 7, 0, 381) := by decide +kernel
theorem s92_21 {L : Nat} {xs : Nat → Int32} {d x : Nat} {M : qxM} {st : List Value} {ls : qxL} {t : Nat} (hk : qx_kd t = 17) : Rs L xs (d) 92 21 ls (.ref t :: st) M x = Rs L xs (d) 92 24 ls (.ref (t + 10) :: st) M x := Rs_when (qx_kd_obj (k := 7) (by decide) hk) c92_21 rfl
theorem c92_24 : qx_code 92 24 = some (24, .iload_n 2, 25, 0, 0, 0) := by decide +kernel
theorem s92_24 {L : Nat} {xs : Nat → Int32} {d x : Nat} {M : qxM} {st : List Value} {a0 a1 a3 a4 a5 : Option Value} {z : Int32} : Rs L xs (d) 92 24 [a0, a1, some (.int z), a3, a4, a5] st M x = Rs L xs (d) 92 25 [a0, a1, some (.int z), a3, a4, a5] (.int z :: st) M x := Rs_next c92_24 rfl
theorem c92_25 : qx_code 92 25 = some (25, .invokevirtual 51, 28, 20, 2, 423) := by decide +kernel
theorem s92_25 {L : Nat} {xs : Nat → Int32} {d x : Nat} {M : qxM} {st : List Value} {ls : qxL} {t : Nat} {z0 : Int32} (hk : qx_kd t = 11) (hs : st.length ≤ 4) : Rs L xs (d + 1) 92 25 ls (.int z0 :: .ref t :: st) M x = (Rs L xs d 20 0 [some (.ref t), some (.int z0), none] [] M 0).bind (qx_kn L xs (d + 1) 92 25 28 20 ls st x) := by
  have h1 : qx_act L xs (qx_rt 92) (25, .invokevirtual 51, 28, 20, 2, 423) ls (.int z0 :: .ref t :: st) M = if 2 ≤ (.int z0 :: .ref t :: st).length ∧ st.length ≤ 4 then some (.inr (.inr (.inr (20, [.ref t, .int z0], st)))) else none := rfl
  rw [if_pos ⟨by simp [List.length_cons]; try omega, hs⟩] at h1
  have h2 := qx_kd_obj (k := 1) (by decide) hk
  exact Rs_call c92_25 h1 (by rw [show qx_args 20 [.ref t, .int z0] = decide (qx_sh t = some (.inl 1)) from rfl]; exact decide_eq_true h2)
theorem c92_28 : qx_code 92 28 = some (28, .aload_n 0, 29, 0, 0, 0) := by decide +kernel
theorem s92_28 {L : Nat} {xs : Nat → Int32} {d x : Nat} {M : qxM} {st : List Value} {a1 a2 a3 a4 a5 : Option Value} {z : Nat} : Rs L xs (d) 92 28 [some (.ref z), a1, a2, a3, a4, a5] st M x = Rs L xs (d) 92 29 [some (.ref z), a1, a2, a3, a4, a5] (.ref z :: st) M x := Rs_next c92_28 rfl
theorem c92_29 : qx_code 92 29 = some (29, .getfield 10, 32, 7, 0, 381) := by decide +kernel
theorem s92_29 {L : Nat} {xs : Nat → Int32} {d x : Nat} {M : qxM} {st : List Value} {ls : qxL} {t : Nat} (hk : qx_kd t = 17) : Rs L xs (d) 92 29 ls (.ref t :: st) M x = Rs L xs (d) 92 32 ls (.ref (t + 10) :: st) M x := Rs_when (qx_kd_obj (k := 7) (by decide) hk) c92_29 rfl
theorem c92_32 : qx_code 92 32 = some (32, .iload_n 3, 33, 0, 0, 0) := by decide +kernel
theorem s92_32 {L : Nat} {xs : Nat → Int32} {d x : Nat} {M : qxM} {st : List Value} {a0 a1 a2 a4 a5 : Option Value} {z : Int32} : Rs L xs (d) 92 32 [a0, a1, a2, some (.int z), a4, a5] st M x = Rs L xs (d) 92 33 [a0, a1, a2, some (.int z), a4, a5] (.int z :: st) M x := Rs_next c92_32 rfl
theorem c92_33 : qx_code 92 33 = some (33, .invokevirtual 51, 36, 20, 2, 423) := by decide +kernel
theorem s92_33 {L : Nat} {xs : Nat → Int32} {d x : Nat} {M : qxM} {st : List Value} {ls : qxL} {t : Nat} {z0 : Int32} (hk : qx_kd t = 11) (hs : st.length ≤ 4) : Rs L xs (d + 1) 92 33 ls (.int z0 :: .ref t :: st) M x = (Rs L xs d 20 0 [some (.ref t), some (.int z0), none] [] M 0).bind (qx_kn L xs (d + 1) 92 33 36 20 ls st x) := by
  have h1 : qx_act L xs (qx_rt 92) (33, .invokevirtual 51, 36, 20, 2, 423) ls (.int z0 :: .ref t :: st) M = if 2 ≤ (.int z0 :: .ref t :: st).length ∧ st.length ≤ 4 then some (.inr (.inr (.inr (20, [.ref t, .int z0], st)))) else none := rfl
  rw [if_pos ⟨by simp [List.length_cons]; try omega, hs⟩] at h1
  have h2 := qx_kd_obj (k := 1) (by decide) hk
  exact Rs_call c92_33 h1 (by rw [show qx_args 20 [.ref t, .int z0] = decide (qx_sh t = some (.inl 1)) from rfl]; exact decide_eq_true h2)
theorem c92_36 : qx_code 92 36 = some (36, .aload_n 0, 37, 0, 0, 0) := by decide +kernel
theorem s92_36 {L : Nat} {xs : Nat → Int32} {d x : Nat} {M : qxM} {st : List Value} {a1 a2 a3 a4 a5 : Option Value} {z : Nat} : Rs L xs (d) 92 36 [some (.ref z), a1, a2, a3, a4, a5] st M x = Rs L xs (d) 92 37 [some (.ref z), a1, a2, a3, a4, a5] (.ref z :: st) M x := Rs_next c92_36 rfl
theorem c92_37 : qx_code 92 37 = some (37, .getfield 10, 40, 7, 0, 381) := by decide +kernel
theorem s92_37 {L : Nat} {xs : Nat → Int32} {d x : Nat} {M : qxM} {st : List Value} {ls : qxL} {t : Nat} (hk : qx_kd t = 17) : Rs L xs (d) 92 37 ls (.ref t :: st) M x = Rs L xs (d) 92 40 ls (.ref (t + 10) :: st) M x := Rs_when (qx_kd_obj (k := 7) (by decide) hk) c92_37 rfl
theorem c92_40 : qx_code 92 40 = some (40, .iload 4, 42, 0, 0, 0) := by decide +kernel
theorem s92_40 {L : Nat} {xs : Nat → Int32} {d x : Nat} {M : qxM} {st : List Value} {a0 a1 a2 a3 a5 : Option Value} {z : Int32} : Rs L xs (d) 92 40 [a0, a1, a2, a3, some (.int z), a5] st M x = Rs L xs (d) 92 42 [a0, a1, a2, a3, some (.int z), a5] (.int z :: st) M x := Rs_next c92_40 rfl
theorem c92_42 : qx_code 92 42 = some (42, .invokevirtual 51, 45, 20, 2, 423) := by decide +kernel
theorem s92_42 {L : Nat} {xs : Nat → Int32} {d x : Nat} {M : qxM} {st : List Value} {ls : qxL} {t : Nat} {z0 : Int32} (hk : qx_kd t = 11) (hs : st.length ≤ 4) : Rs L xs (d + 1) 92 42 ls (.int z0 :: .ref t :: st) M x = (Rs L xs d 20 0 [some (.ref t), some (.int z0), none] [] M 0).bind (qx_kn L xs (d + 1) 92 42 45 20 ls st x) := by
  have h1 : qx_act L xs (qx_rt 92) (42, .invokevirtual 51, 45, 20, 2, 423) ls (.int z0 :: .ref t :: st) M = if 2 ≤ (.int z0 :: .ref t :: st).length ∧ st.length ≤ 4 then some (.inr (.inr (.inr (20, [.ref t, .int z0], st)))) else none := rfl
  rw [if_pos ⟨by simp [List.length_cons]; try omega, hs⟩] at h1
  have h2 := qx_kd_obj (k := 1) (by decide) hk
  exact Rs_call c92_42 h1 (by rw [show qx_args 20 [.ref t, .int z0] = decide (qx_sh t = some (.inl 1)) from rfl]; exact decide_eq_true h2)
theorem c92_45 : qx_code 92 45 = some (45, .aload_n 0, 46, 0, 0, 0) := by decide +kernel
theorem s92_45 {L : Nat} {xs : Nat → Int32} {d x : Nat} {M : qxM} {st : List Value} {a1 a2 a3 a4 a5 : Option Value} {z : Nat} : Rs L xs (d) 92 45 [some (.ref z), a1, a2, a3, a4, a5] st M x = Rs L xs (d) 92 46 [some (.ref z), a1, a2, a3, a4, a5] (.ref z :: st) M x := Rs_next c92_45 rfl
theorem c92_46 : qx_code 92 46 = some (46, .getfield 10, 49, 7, 0, 381) := by decide +kernel
theorem s92_46 {L : Nat} {xs : Nat → Int32} {d x : Nat} {M : qxM} {st : List Value} {ls : qxL} {t : Nat} (hk : qx_kd t = 17) : Rs L xs (d) 92 46 ls (.ref t :: st) M x = Rs L xs (d) 92 49 ls (.ref (t + 10) :: st) M x := Rs_when (qx_kd_obj (k := 7) (by decide) hk) c92_46 rfl
theorem c92_49 : qx_code 92 49 = some (49, .iload 5, 51, 0, 0, 0) := by decide +kernel
theorem s92_49 {L : Nat} {xs : Nat → Int32} {d x : Nat} {M : qxM} {st : List Value} {a0 a1 a2 a3 a4 : Option Value} {z : Int32} : Rs L xs (d) 92 49 [a0, a1, a2, a3, a4, some (.int z)] st M x = Rs L xs (d) 92 51 [a0, a1, a2, a3, a4, some (.int z)] (.int z :: st) M x := Rs_next c92_49 rfl
theorem c92_51 : qx_code 92 51 = some (51, .invokevirtual 51, 54, 20, 2, 423) := by decide +kernel
theorem s92_51 {L : Nat} {xs : Nat → Int32} {d x : Nat} {M : qxM} {st : List Value} {ls : qxL} {t : Nat} {z0 : Int32} (hk : qx_kd t = 11) (hs : st.length ≤ 4) : Rs L xs (d + 1) 92 51 ls (.int z0 :: .ref t :: st) M x = (Rs L xs d 20 0 [some (.ref t), some (.int z0), none] [] M 0).bind (qx_kn L xs (d + 1) 92 51 54 20 ls st x) := by
  have h1 : qx_act L xs (qx_rt 92) (51, .invokevirtual 51, 54, 20, 2, 423) ls (.int z0 :: .ref t :: st) M = if 2 ≤ (.int z0 :: .ref t :: st).length ∧ st.length ≤ 4 then some (.inr (.inr (.inr (20, [.ref t, .int z0], st)))) else none := rfl
  rw [if_pos ⟨by simp [List.length_cons]; try omega, hs⟩] at h1
  have h2 := qx_kd_obj (k := 1) (by decide) hk
  exact Rs_call c92_51 h1 (by rw [show qx_args 20 [.ref t, .int z0] = decide (qx_sh t = some (.inl 1)) from rfl]; exact decide_eq_true h2)
theorem c92_54 : qx_code 92 54 = some (54, .aload_n 0, 55, 0, 0, 0) := by decide +kernel
theorem s92_54 {L : Nat} {xs : Nat → Int32} {d x : Nat} {M : qxM} {st : List Value} {a1 a2 a3 a4 a5 : Option Value} {z : Nat} : Rs L xs (d) 92 54 [some (.ref z), a1, a2, a3, a4, a5] st M x = Rs L xs (d) 92 55 [some (.ref z), a1, a2, a3, a4, a5] (.ref z :: st) M x := Rs_next c92_54 rfl
theorem c92_55 : qx_code 92 55 = some (55, .getfield 10, 58, 7, 0, 381) := by decide +kernel
theorem s92_55 {L : Nat} {xs : Nat → Int32} {d x : Nat} {M : qxM} {st : List Value} {ls : qxL} {t : Nat} (hk : qx_kd t = 17) : Rs L xs (d) 92 55 ls (.ref t :: st) M x = Rs L xs (d) 92 58 ls (.ref (t + 10) :: st) M x := Rs_when (qx_kd_obj (k := 7) (by decide) hk) c92_55 rfl
theorem c92_58 : qx_code 92 58 = some (58, .getfield 55, 61, 1, 2, 192) := by decide +kernel
theorem s92_58 {L : Nat} {xs : Nat → Int32} {d x : Nat} {M : qxM} {st : List Value} {ls : qxL} {t : Nat} (hk : qx_kd t = 11) : Rs L xs (d) 92 58 ls (.ref t :: st) M x = Rs L xs (d) 92 61 ls (.int (M.1 t 2) :: st) M x := Rs_when (qx_kd_obj (k := 1) (by decide) hk) c92_58 rfl
theorem c92_61 : qx_code 92 61 = some (61, .ireturn, 62, 0, 0, 0) := by decide +kernel
theorem s92_61 {L : Nat} {xs : Nat → Int32} {d x : Nat} {M : qxM} {ls : qxL} {z : Int32} : Rs L xs (d) 92 61 ls [.int z] M x = some (.inl (some (.int z)), M, x) := Rs_ret c92_61 rfl
theorem c93_0 : qx_code 93 0 = some (0, .iload_n 1, 1, 0, 0, 0) := by decide +kernel
theorem s93_0 {L : Nat} {xs : Nat → Int32} {d x : Nat} {M : qxM} {st : List Value} {a0 : Option Value} {z : Int32} : Rs L xs (d) 93 0 [a0, some (.int z)] st M x = Rs L xs (d) 93 1 [a0, some (.int z)] (.int z :: st) M x := Rs_next c93_0 rfl
theorem c93_1 : qx_code 93 1 = some (1, .ifCond .lt 14, 4, 15, 0, 0) := by decide +kernel
theorem s93_1 {L : Nat} {xs : Nat → Int32} {d x : Nat} {M : qxM} {st : List Value} {ls : qxL} {z : Int32} : Rs L xs (d) 93 1 ls (.int z :: st) M x = if z < 0 then Rs L xs (d) 93 15 ls st M x else Rs L xs (d) 93 4 ls st M x := Rs_ite c93_1 rfl
theorem c93_4 : qx_code 93 4 = some (4, .iload_n 1, 5, 0, 0, 0) := by decide +kernel
theorem s93_4 {L : Nat} {xs : Nat → Int32} {d x : Nat} {M : qxM} {st : List Value} {a0 : Option Value} {z : Int32} : Rs L xs (d) 93 4 [a0, some (.int z)] st M x = Rs L xs (d) 93 5 [a0, some (.int z)] (.int z :: st) M x := Rs_next c93_4 rfl
theorem c93_5 : qx_code 93 5 = some (5, .aload_n 0, 6, 0, 0, 0) := by decide +kernel
theorem s93_5 {L : Nat} {xs : Nat → Int32} {d x : Nat} {M : qxM} {st : List Value} {a1 : Option Value} {z : Nat} : Rs L xs (d) 93 5 [some (.ref z), a1] st M x = Rs L xs (d) 93 6 [some (.ref z), a1] (.ref z :: st) M x := Rs_next c93_5 rfl
theorem c93_6 : qx_code 93 6 = some (6, .getfield 10, 9, 7, 0, 381) := by decide +kernel
theorem s93_6 {L : Nat} {xs : Nat → Int32} {d x : Nat} {M : qxM} {st : List Value} {ls : qxL} {t : Nat} (hk : qx_kd t = 17) : Rs L xs (d) 93 6 ls (.ref t :: st) M x = Rs L xs (d) 93 9 ls (.ref (t + 10) :: st) M x := Rs_when (qx_kd_obj (k := 7) (by decide) hk) c93_6 rfl
theorem c93_9 : qx_code 93 9 = some (9, .getfield 55, 12, 1, 2, 192) := by decide +kernel
theorem s93_9 {L : Nat} {xs : Nat → Int32} {d x : Nat} {M : qxM} {st : List Value} {ls : qxL} {t : Nat} (hk : qx_kd t = 11) : Rs L xs (d) 93 9 ls (.ref t :: st) M x = Rs L xs (d) 93 12 ls (.int (M.1 t 2) :: st) M x := Rs_when (qx_kd_obj (k := 1) (by decide) hk) c93_9 rfl
theorem c93_12 : qx_code 93 12 = some (12, .if_icmp .le 13, 15, 25, 0, 0) := by decide +kernel
theorem s93_12 {L : Nat} {xs : Nat → Int32} {d x : Nat} {M : qxM} {st : List Value} {ls : qxL} {z y : Int32} : Rs L xs (d) 93 12 ls (.int y :: .int z :: st) M x = if z ≤ y then Rs L xs (d) 93 25 ls st M x else Rs L xs (d) 93 15 ls st M x := Rs_ite c93_12 rfl
theorem c93_15 : qx_code 93 15 = some (15, .new 59, 18, 2, 0, 4940452) := by decide +kernel
theorem s93_15 {L : Nat} {xs : Nat → Int32} {d x : Nat} {M : qxM} {ls : qxL} : Rs L xs (d) 93 15 ls [] M x = some (.inr (qx_ex 2), M, x + 1) := Rs_thr rfl c93_15 rfl
theorem c93_18 : qx_code 93 18 = some (18, .dup, 19, 0, 0, 0) := by decide +kernel
theorem s93_18r {L : Nat} {xs : Nat → Int32} {d x : Nat} {M : qxM} {st : List Value} {ls : qxL} {z : Nat} : Rs L xs (d) 93 18 ls (.ref z :: st) M x = Rs L xs (d) 93 19 ls (.ref z :: .ref z :: st) M x := Rs_next c93_18 rfl
theorem s93_18i {L : Nat} {xs : Nat → Int32} {d x : Nat} {M : qxM} {st : List Value} {ls : qxL} {z : Int32} : Rs L xs (d) 93 18 ls (.int z :: st) M x = Rs L xs (d) 93 19 ls (.int z :: .int z :: st) M x := Rs_next c93_18 rfl
theorem c93_19 : qx_code 93 19 = some (19, .ldc 61, 21, 0, 1, 0) := by decide +kernel
theorem s93_19 {L : Nat} {xs : Nat → Int32} {d x : Nat} {M : qxM} {st : List Value} {ls : qxL} : Rs L xs (d) 93 19 ls st M x = Rs L xs (d) 93 21 ls (.ref (500 + 0) :: st) M x := Rs_next c93_19 rfl
theorem c93_21 : qx_code 93 21 = some (21, .invokespecial 63, 24, 9999, 2, 494) := by decide +kernel
theorem c93_24 : qx_code 93 24 = some (24, .athrow, 25, 0, 0, 0) := by decide +kernel
theorem c93_25 : qx_code 93 25 = some (25, .aload_n 0, 26, 0, 0, 0) := by decide +kernel
theorem s93_25 {L : Nat} {xs : Nat → Int32} {d x : Nat} {M : qxM} {st : List Value} {a1 : Option Value} {z : Nat} : Rs L xs (d) 93 25 [some (.ref z), a1] st M x = Rs L xs (d) 93 26 [some (.ref z), a1] (.ref z :: st) M x := Rs_next c93_25 rfl
theorem c93_26 : qx_code 93 26 = some (26, .getfield 10, 29, 7, 0, 381) := by decide +kernel
theorem s93_26 {L : Nat} {xs : Nat → Int32} {d x : Nat} {M : qxM} {st : List Value} {ls : qxL} {t : Nat} (hk : qx_kd t = 17) : Rs L xs (d) 93 26 ls (.ref t :: st) M x = Rs L xs (d) 93 29 ls (.ref (t + 10) :: st) M x := Rs_when (qx_kd_obj (k := 7) (by decide) hk) c93_26 rfl
theorem c93_29 : qx_code 93 29 = some (29, .iload_n 1, 30, 0, 0, 0) := by decide +kernel
theorem s93_29 {L : Nat} {xs : Nat → Int32} {d x : Nat} {M : qxM} {st : List Value} {a0 : Option Value} {z : Int32} : Rs L xs (d) 93 29 [a0, some (.int z)] st M x = Rs L xs (d) 93 30 [a0, some (.int z)] (.int z :: st) M x := Rs_next c93_29 rfl
theorem c93_30 : qx_code 93 30 = some (30, .invokevirtual 66, 33, 21, 2, 519) := by decide +kernel
theorem s93_30 {L : Nat} {xs : Nat → Int32} {d x : Nat} {M : qxM} {st : List Value} {ls : qxL} {t : Nat} {z0 : Int32} (hk : qx_kd t = 11) (hs : st.length ≤ 4) : Rs L xs (d + 1) 93 30 ls (.int z0 :: .ref t :: st) M x = (Rs L xs d 21 0 [some (.ref t), some (.int z0), none] [] M 0).bind (qx_kn L xs (d + 1) 93 30 33 21 ls st x) := by
  have h1 : qx_act L xs (qx_rt 93) (30, .invokevirtual 66, 33, 21, 2, 519) ls (.int z0 :: .ref t :: st) M = if 2 ≤ (.int z0 :: .ref t :: st).length ∧ st.length ≤ 4 then some (.inr (.inr (.inr (21, [.ref t, .int z0], st)))) else none := rfl
  rw [if_pos ⟨by simp [List.length_cons]; try omega, hs⟩] at h1
  have h2 := qx_kd_obj (k := 1) (by decide) hk
  exact Rs_call c93_30 h1 (by rw [show qx_args 21 [.ref t, .int z0] = decide (qx_sh t = some (.inl 1)) from rfl]; exact decide_eq_true h2)
theorem c93_33 : qx_code 93 33 = some (33, .ifCond .ne 13, 36, 46, 0, 0) := by decide +kernel
theorem s93_33 {L : Nat} {xs : Nat → Int32} {d x : Nat} {M : qxM} {st : List Value} {ls : qxL} {z : Int32} : Rs L xs (d) 93 33 ls (.int z :: st) M x = if z = 0 then Rs L xs (d) 93 36 ls st M x else Rs L xs (d) 93 46 ls st M x := Rs_ite c93_33 rfl
theorem c93_36 : qx_code 93 36 = some (36, .new 70, 39, 1, 6, 6930683) := by decide +kernel
theorem s93_36 {L : Nat} {xs : Nat → Int32} {d x : Nat} {M : qxM} {ls : qxL} : Rs L xs (d) 93 36 ls [] M x = some (.inr (qx_ex 1), M, x + 1) := Rs_thr rfl c93_36 rfl
theorem c93_39 : qx_code 93 39 = some (39, .dup, 40, 0, 0, 0) := by decide +kernel
theorem s93_39r {L : Nat} {xs : Nat → Int32} {d x : Nat} {M : qxM} {st : List Value} {ls : qxL} {z : Nat} : Rs L xs (d) 93 39 ls (.ref z :: st) M x = Rs L xs (d) 93 40 ls (.ref z :: .ref z :: st) M x := Rs_next c93_39 rfl
theorem s93_39i {L : Nat} {xs : Nat → Int32} {d x : Nat} {M : qxM} {st : List Value} {ls : qxL} {z : Int32} : Rs L xs (d) 93 39 ls (.int z :: st) M x = Rs L xs (d) 93 40 ls (.int z :: .int z :: st) M x := Rs_next c93_39 rfl
theorem c93_40 : qx_code 93 40 = some (40, .ldc 72, 42, 6, 1, 0) := by decide +kernel
theorem s93_40 {L : Nat} {xs : Nat → Int32} {d x : Nat} {M : qxM} {st : List Value} {ls : qxL} : Rs L xs (d) 93 40 ls st M x = Rs L xs (d) 93 42 ls (.ref (500 + 6) :: st) M x := Rs_next c93_40 rfl
theorem c93_42 : qx_code 93 42 = some (42, .invokespecial 74, 45, 9999, 2, 693) := by decide +kernel
theorem c93_45 : qx_code 93 45 = some (45, .athrow, 46, 0, 0, 0) := by decide +kernel
theorem c93_46 : qx_code 93 46 = some (46, .aload_n 0, 47, 0, 0, 0) := by decide +kernel
theorem s93_46 {L : Nat} {xs : Nat → Int32} {d x : Nat} {M : qxM} {st : List Value} {a1 : Option Value} {z : Nat} : Rs L xs (d) 93 46 [some (.ref z), a1] st M x = Rs L xs (d) 93 47 [some (.ref z), a1] (.ref z :: st) M x := Rs_next c93_46 rfl
theorem c93_47 : qx_code 93 47 = some (47, .getfield 33, 50, 7, 3, 384) := by decide +kernel
theorem s93_47 {L : Nat} {xs : Nat → Int32} {d x : Nat} {M : qxM} {st : List Value} {ls : qxL} {t : Nat} (hk : qx_kd t = 17) : Rs L xs (d) 93 47 ls (.ref t :: st) M x = Rs L xs (d) 93 50 ls (.ref (t + 90) :: st) M x := Rs_when (qx_kd_obj (k := 7) (by decide) hk) c93_47 rfl
theorem c93_50 : qx_code 93 50 = some (50, .aload_n 0, 51, 0, 0, 0) := by decide +kernel
theorem s93_50 {L : Nat} {xs : Nat → Int32} {d x : Nat} {M : qxM} {st : List Value} {a1 : Option Value} {z : Nat} : Rs L xs (d) 93 50 [some (.ref z), a1] st M x = Rs L xs (d) 93 51 [some (.ref z), a1] (.ref z :: st) M x := Rs_next c93_50 rfl
theorem c93_51 : qx_code 93 51 = some (51, .getfield 10, 54, 7, 0, 381) := by decide +kernel
theorem s93_51 {L : Nat} {xs : Nat → Int32} {d x : Nat} {M : qxM} {st : List Value} {ls : qxL} {t : Nat} (hk : qx_kd t = 17) : Rs L xs (d) 93 51 ls (.ref t :: st) M x = Rs L xs (d) 93 54 ls (.ref (t + 10) :: st) M x := Rs_when (qx_kd_obj (k := 7) (by decide) hk) c93_51 rfl
theorem c93_54 : qx_code 93 54 = some (54, .getfield 75, 57, 1, 1, 190) := by decide +kernel
theorem s93_54 {L : Nat} {xs : Nat → Int32} {d x : Nat} {M : qxM} {st : List Value} {ls : qxL} {t : Nat} (hk : qx_kd t = 11) : Rs L xs (d) 93 54 ls (.ref t :: st) M x = Rs L xs (d) 93 57 ls (.ref (t + 2) :: st) M x := Rs_when (qx_kd_obj (k := 1) (by decide) hk) c93_54 rfl
theorem c93_57 : qx_code 93 57 = some (57, .invokevirtual 79, 60, 73, 2, 699) := by decide +kernel
theorem s93_57 {L : Nat} {xs : Nat → Int32} {d x : Nat} {M : qxM} {st : List Value} {ls : qxL} {t : Nat} {z0 : Nat} (hk : qx_kd t = 14) (hs : st.length ≤ 4) : Rs L xs (d + 1) 93 57 ls (.ref z0 :: .ref t :: st) M x = (Rs L xs d 73 0 [some (.ref t), some (.ref z0)] [] M 0).bind (qx_kn L xs (d + 1) 93 57 60 73 ls st x) := by
  have h1 : qx_act L xs (qx_rt 93) (57, .invokevirtual 79, 60, 73, 2, 699) ls (.ref z0 :: .ref t :: st) M = if 2 ≤ (.ref z0 :: .ref t :: st).length ∧ st.length ≤ 4 then some (.inr (.inr (.inr (73, [.ref t, .ref z0], st)))) else none := rfl
  rw [if_pos ⟨by simp [List.length_cons]; try omega, hs⟩] at h1
  have h2 := qx_kd_obj (k := 4) (by decide) hk
  exact Rs_call c93_57 h1 (by rw [show qx_args 73 [.ref t, .ref z0] = decide (qx_sh t = some (.inl 4)) from rfl]; exact decide_eq_true h2)
theorem c93_60 : qx_code 93 60 = some (60, .aload_n 0, 61, 0, 0, 0) := by decide +kernel
theorem s93_60 {L : Nat} {xs : Nat → Int32} {d x : Nat} {M : qxM} {st : List Value} {a1 : Option Value} {z : Nat} : Rs L xs (d) 93 60 [some (.ref z), a1] st M x = Rs L xs (d) 93 61 [some (.ref z), a1] (.ref z :: st) M x := Rs_next c93_60 rfl
theorem c93_61 : qx_code 93 61 = some (61, .iconst 1, 62, 0, 0, 0) := by decide +kernel
theorem s93_61 {L : Nat} {xs : Nat → Int32} {d x : Nat} {M : qxM} {st : List Value} {ls : qxL} : Rs L xs (d) 93 61 ls st M x = Rs L xs (d) 93 62 ls (.int (nI 1) :: st) M x := Rs_next c93_61 rfl
theorem c93_62 : qx_code 93 62 = some (62, .putfield 83, 65, 7, 10, 391) := by decide +kernel
theorem s93_62 {L : Nat} {xs : Nat → Int32} {d x : Nat} {M : qxM} {st : List Value} {ls : qxL} {t : Nat} {z : Int32} (hk : qx_kd t = 17) (h01 : z = 0 ∨ z = 1) : Rs L xs (d) 93 62 ls (.int z :: .ref t :: st) M x = Rs L xs (d) 93 65 ls st (qx_up M t 10 z) x := Rs_when (cnd := qx_sh t = some (.inl 7) ∧ qx_fo 7 10 = none ∧ (qx_bf 7 10 = true → z = 0 ∨ z = 1)) ⟨qx_kd_obj (k := 7) (by decide) hk, rfl, fun _ => h01⟩ c93_62 rfl
theorem c93_65 : qx_code 93 65 = some (65, .aload_n 0, 66, 0, 0, 0) := by decide +kernel
theorem s93_65 {L : Nat} {xs : Nat → Int32} {d x : Nat} {M : qxM} {st : List Value} {a1 : Option Value} {z : Nat} : Rs L xs (d) 93 65 [some (.ref z), a1] st M x = Rs L xs (d) 93 66 [some (.ref z), a1] (.ref z :: st) M x := Rs_next c93_65 rfl
theorem c93_66 : qx_code 93 66 = some (66, .iconst 0, 67, 0, 0, 0) := by decide +kernel
theorem s93_66 {L : Nat} {xs : Nat → Int32} {d x : Nat} {M : qxM} {st : List Value} {ls : qxL} : Rs L xs (d) 93 66 ls st M x = Rs L xs (d) 93 67 ls (.int (nI 0) :: st) M x := Rs_next c93_66 rfl
theorem c93_67 : qx_code 93 67 = some (67, .putfield 87, 70, 7, 8, 389) := by decide +kernel
theorem s93_67 {L : Nat} {xs : Nat → Int32} {d x : Nat} {M : qxM} {st : List Value} {ls : qxL} {t : Nat} {z : Int32} (hk : qx_kd t = 17) : Rs L xs (d) 93 67 ls (.int z :: .ref t :: st) M x = Rs L xs (d) 93 70 ls st (qx_up M t 8 z) x := Rs_when (cnd := qx_sh t = some (.inl 7) ∧ qx_fo 7 8 = none ∧ (qx_bf 7 8 = true → z = 0 ∨ z = 1)) ⟨qx_kd_obj (k := 7) (by decide) hk, rfl, fun h => nomatch h⟩ c93_67 rfl
theorem c93_70 : qx_code 93 70 = some (70, .aload_n 0, 71, 0, 0, 0) := by decide +kernel
theorem s93_70 {L : Nat} {xs : Nat → Int32} {d x : Nat} {M : qxM} {st : List Value} {a1 : Option Value} {z : Nat} : Rs L xs (d) 93 70 [some (.ref z), a1] st M x = Rs L xs (d) 93 71 [some (.ref z), a1] (.ref z :: st) M x := Rs_next c93_70 rfl
theorem c93_71 : qx_code 93 71 = some (71, .iconst 0, 72, 0, 0, 0) := by decide +kernel
theorem s93_71 {L : Nat} {xs : Nat → Int32} {d x : Nat} {M : qxM} {st : List Value} {ls : qxL} : Rs L xs (d) 93 71 ls st M x = Rs L xs (d) 93 72 ls (.int (nI 0) :: st) M x := Rs_next c93_71 rfl
theorem c93_72 : qx_code 93 72 = some (72, .putfield 90, 75, 7, 9, 390) := by decide +kernel
theorem s93_72 {L : Nat} {xs : Nat → Int32} {d x : Nat} {M : qxM} {st : List Value} {ls : qxL} {t : Nat} {z : Int32} (hk : qx_kd t = 17) : Rs L xs (d) 93 72 ls (.int z :: .ref t :: st) M x = Rs L xs (d) 93 75 ls st (qx_up M t 9 z) x := Rs_when (cnd := qx_sh t = some (.inl 7) ∧ qx_fo 7 9 = none ∧ (qx_bf 7 9 = true → z = 0 ∨ z = 1)) ⟨qx_kd_obj (k := 7) (by decide) hk, rfl, fun h => nomatch h⟩ c93_72 rfl
theorem c93_75 : qx_code 93 75 = some (75, .aload_n 0, 76, 0, 0, 0) := by decide +kernel
theorem s93_75 {L : Nat} {xs : Nat → Int32} {d x : Nat} {M : qxM} {st : List Value} {a1 : Option Value} {z : Nat} : Rs L xs (d) 93 75 [some (.ref z), a1] st M x = Rs L xs (d) 93 76 [some (.ref z), a1] (.ref z :: st) M x := Rs_next c93_75 rfl
theorem c93_76 : qx_code 93 76 = some (76, .getfield 33, 79, 7, 3, 384) := by decide +kernel
theorem s93_76 {L : Nat} {xs : Nat → Int32} {d x : Nat} {M : qxM} {st : List Value} {ls : qxL} {t : Nat} (hk : qx_kd t = 17) : Rs L xs (d) 93 76 ls (.ref t :: st) M x = Rs L xs (d) 93 79 ls (.ref (t + 90) :: st) M x := Rs_when (qx_kd_obj (k := 7) (by decide) hk) c93_76 rfl
theorem c93_79 : qx_code 93 79 = some (79, .getfield 93, 82, 4, 0, 356) := by decide +kernel
theorem s93_79 {L : Nat} {xs : Nat → Int32} {d x : Nat} {M : qxM} {st : List Value} {ls : qxL} {t : Nat} (hk : qx_kd t = 14) : Rs L xs (d) 93 79 ls (.ref t :: st) M x = Rs L xs (d) 93 82 ls (.ref (t + 1) :: st) M x := Rs_when (qx_kd_obj (k := 4) (by decide) hk) c93_79 rfl
theorem c93_82 : qx_code 93 82 = some (82, .getfield 96, 85, 2, 0, 166) := by decide +kernel
theorem s93_82 {L : Nat} {xs : Nat → Int32} {d x : Nat} {M : qxM} {st : List Value} {ls : qxL} {t : Nat} (hk : qx_kd t = 12) : Rs L xs (d) 93 82 ls (.ref t :: st) M x = Rs L xs (d) 93 85 ls (.int (M.1 t 0) :: st) M x := Rs_when (qx_kd_obj (k := 2) (by decide) hk) c93_82 rfl
theorem c93_85 : qx_code 93 85 = some (85, .ireturn, 86, 0, 0, 0) := by decide +kernel
theorem s93_85 {L : Nat} {xs : Nat → Int32} {d x : Nat} {M : qxM} {ls : qxL} {z : Int32} : Rs L xs (d) 93 85 ls [.int z] M x = some (.inl (some (.int z)), M, x) := Rs_ret c93_85 rfl
theorem c94_0 : qx_code 94 0 = some (0, .aload_n 0, 1, 0, 0, 0) := by decide +kernel
theorem s94_0 {L : Nat} {xs : Nat → Int32} {d x : Nat} {M : qxM} {st : List Value} {z : Nat} : Rs L xs (d) 94 0 [some (.ref z)] st M x = Rs L xs (d) 94 1 [some (.ref z)] (.ref z :: st) M x := Rs_next c94_0 rfl
theorem c94_1 : qx_code 94 1 = some (1, .getfield 10, 4, 7, 0, 381) := by decide +kernel
theorem s94_1 {L : Nat} {xs : Nat → Int32} {d x : Nat} {M : qxM} {st : List Value} {ls : qxL} {t : Nat} (hk : qx_kd t = 17) : Rs L xs (d) 94 1 ls (.ref t :: st) M x = Rs L xs (d) 94 4 ls (.ref (t + 10) :: st) M x := Rs_when (qx_kd_obj (k := 7) (by decide) hk) c94_1 rfl
theorem c94_4 : qx_code 94 4 = some (4, .getfield 101, 7, 1, 3, 193) := by decide +kernel
theorem s94_4 {L : Nat} {xs : Nat → Int32} {d x : Nat} {M : qxM} {st : List Value} {ls : qxL} {t : Nat} (hk : qx_kd t = 11) : Rs L xs (d) 94 4 ls (.ref t :: st) M x = Rs L xs (d) 94 7 ls (.int (M.1 t 3) :: st) M x := Rs_when (qx_kd_obj (k := 1) (by decide) hk) c94_4 rfl
theorem c94_7 : qx_code 94 7 = some (7, .ireturn, 8, 0, 0, 0) := by decide +kernel
theorem s94_7 {L : Nat} {xs : Nat → Int32} {d x : Nat} {M : qxM} {ls : qxL} {z : Int32} : Rs L xs (d) 94 7 ls [.int z] M x = some (.inl (some (.int z)), M, x) := Rs_ret c94_7 rfl
theorem c95_0 : qx_code 95 0 = some (0, .aload_n 0, 1, 0, 0, 0) := by decide +kernel
theorem s95_0 {L : Nat} {xs : Nat → Int32} {d x : Nat} {M : qxM} {st : List Value} {z : Nat} : Rs L xs (d) 95 0 [some (.ref z)] st M x = Rs L xs (d) 95 1 [some (.ref z)] (.ref z :: st) M x := Rs_next c95_0 rfl
theorem c95_1 : qx_code 95 1 = some (1, .getfield 10, 4, 7, 0, 381) := by decide +kernel
theorem s95_1 {L : Nat} {xs : Nat → Int32} {d x : Nat} {M : qxM} {st : List Value} {ls : qxL} {t : Nat} (hk : qx_kd t = 17) : Rs L xs (d) 95 1 ls (.ref t :: st) M x = Rs L xs (d) 95 4 ls (.ref (t + 10) :: st) M x := Rs_when (qx_kd_obj (k := 7) (by decide) hk) c95_1 rfl
theorem c95_4 : qx_code 95 4 = some (4, .getfield 104, 7, 1, 4, 196) := by decide +kernel
theorem s95_4 {L : Nat} {xs : Nat → Int32} {d x : Nat} {M : qxM} {st : List Value} {ls : qxL} {t : Nat} (hk : qx_kd t = 11) : Rs L xs (d) 95 4 ls (.ref t :: st) M x = Rs L xs (d) 95 7 ls (.int (M.1 t 4) :: st) M x := Rs_when (qx_kd_obj (k := 1) (by decide) hk) c95_4 rfl
theorem c95_7 : qx_code 95 7 = some (7, .ireturn, 8, 0, 0, 0) := by decide +kernel
theorem s95_7 {L : Nat} {xs : Nat → Int32} {d x : Nat} {M : qxM} {ls : qxL} {z : Int32} : Rs L xs (d) 95 7 ls [.int z] M x = some (.inl (some (.int z)), M, x) := Rs_ret c95_7 rfl
theorem c96_0 : qx_code 96 0 = some (0, .aload_n 0, 1, 0, 0, 0) := by decide +kernel
theorem s96_0 {L : Nat} {xs : Nat → Int32} {d x : Nat} {M : qxM} {st : List Value} {z : Nat} : Rs L xs (d) 96 0 [some (.ref z)] st M x = Rs L xs (d) 96 1 [some (.ref z)] (.ref z :: st) M x := Rs_next c96_0 rfl
theorem c96_1 : qx_code 96 1 = some (1, .getfield 10, 4, 7, 0, 381) := by decide +kernel
theorem s96_1 {L : Nat} {xs : Nat → Int32} {d x : Nat} {M : qxM} {st : List Value} {ls : qxL} {t : Nat} (hk : qx_kd t = 17) : Rs L xs (d) 96 1 ls (.ref t :: st) M x = Rs L xs (d) 96 4 ls (.ref (t + 10) :: st) M x := Rs_when (qx_kd_obj (k := 7) (by decide) hk) c96_1 rfl
theorem c96_4 : qx_code 96 4 = some (4, .getfield 55, 7, 1, 2, 192) := by decide +kernel
theorem s96_4 {L : Nat} {xs : Nat → Int32} {d x : Nat} {M : qxM} {st : List Value} {ls : qxL} {t : Nat} (hk : qx_kd t = 11) : Rs L xs (d) 96 4 ls (.ref t :: st) M x = Rs L xs (d) 96 7 ls (.int (M.1 t 2) :: st) M x := Rs_when (qx_kd_obj (k := 1) (by decide) hk) c96_4 rfl
theorem c96_7 : qx_code 96 7 = some (7, .ireturn, 8, 0, 0, 0) := by decide +kernel
theorem s96_7 {L : Nat} {xs : Nat → Int32} {d x : Nat} {M : qxM} {ls : qxL} {z : Int32} : Rs L xs (d) 96 7 ls [.int z] M x = some (.inl (some (.int z)), M, x) := Rs_ret c96_7 rfl
theorem c97_0 : qx_code 97 0 = some (0, .aload_n 0, 1, 0, 0, 0) := by decide +kernel
theorem s97_0 {L : Nat} {xs : Nat → Int32} {d x : Nat} {M : qxM} {st : List Value} {a1 a2 : Option Value} {z : Nat} : Rs L xs (d) 97 0 [some (.ref z), a1, a2] st M x = Rs L xs (d) 97 1 [some (.ref z), a1, a2] (.ref z :: st) M x := Rs_next c97_0 rfl
theorem c97_1 : qx_code 97 1 = some (1, .invokevirtual 107, 4, 159, 1, 728) := by decide +kernel
theorem s97_1 {L : Nat} {xs : Nat → Int32} {d x : Nat} {M : qxM} {st : List Value} {ls : qxL} {t : Nat} (hk : qx_kd t = 17) (hs : st.length ≤ 4) : Rs L xs (d + 1) 97 1 ls (.ref t :: st) M x = (Rs L xs d 159 0 [some (.ref t)] [] M 0).bind (qx_kn L xs (d + 1) 97 1 4 159 ls st x) := by
  have h1 : qx_act L xs (qx_rt 97) (1, .invokevirtual 107, 4, 159, 1, 728) ls (.ref t :: st) M = if 1 ≤ (.ref t :: st).length ∧ st.length ≤ 4 then some (.inr (.inr (.inr (159, [.ref t], st)))) else none := rfl
  rw [if_pos ⟨by simp [List.length_cons]; try omega, hs⟩] at h1
  have h2 := qx_kd_obj (k := 7) (by decide) hk
  exact Rs_call c97_1 h1 (by rw [show qx_args 159 [.ref t] = decide (qx_sh t = some (.inl 7)) from rfl]; exact decide_eq_true h2)
theorem c97_4 : qx_code 97 4 = some (4, .aload_n 0, 5, 0, 0, 0) := by decide +kernel
theorem s97_4 {L : Nat} {xs : Nat → Int32} {d x : Nat} {M : qxM} {st : List Value} {a1 a2 : Option Value} {z : Nat} : Rs L xs (d) 97 4 [some (.ref z), a1, a2] st M x = Rs L xs (d) 97 5 [some (.ref z), a1, a2] (.ref z :: st) M x := Rs_next c97_4 rfl
theorem c97_5 : qx_code 97 5 = some (5, .iload_n 1, 6, 0, 0, 0) := by decide +kernel
theorem s97_5 {L : Nat} {xs : Nat → Int32} {d x : Nat} {M : qxM} {st : List Value} {a0 a2 : Option Value} {z : Int32} : Rs L xs (d) 97 5 [a0, some (.int z), a2] st M x = Rs L xs (d) 97 6 [a0, some (.int z), a2] (.int z :: st) M x := Rs_next c97_5 rfl
theorem c97_6 : qx_code 97 6 = some (6, .bipush 10, 8, 0, 0, 0) := by decide +kernel
theorem s97_6 {L : Nat} {xs : Nat → Int32} {d x : Nat} {M : qxM} {st : List Value} {ls : qxL} : Rs L xs (d) 97 6 ls st M x = Rs L xs (d) 97 8 ls (.int (nI 10) :: st) M x := Rs_next c97_6 rfl
theorem c97_8 : qx_code 97 8 = some (8, .invokevirtual 110, 11, 162, 3, 748) := by decide +kernel
theorem s97_8 {L : Nat} {xs : Nat → Int32} {d x : Nat} {M : qxM} {st : List Value} {ls : qxL} {t : Nat} {z0 : Int32} {z1 : Int32} (hk : qx_kd t = 17) (hs : st.length ≤ 4) : Rs L xs (d + 1) 97 8 ls (.int z1 :: .int z0 :: .ref t :: st) M x = (Rs L xs d 162 0 [some (.ref t), some (.int z0), some (.int z1)] [] M 0).bind (qx_kn L xs (d + 1) 97 8 11 162 ls st x) := by
  have h1 : qx_act L xs (qx_rt 97) (8, .invokevirtual 110, 11, 162, 3, 748) ls (.int z1 :: .int z0 :: .ref t :: st) M = if 3 ≤ (.int z1 :: .int z0 :: .ref t :: st).length ∧ st.length ≤ 4 then some (.inr (.inr (.inr (162, [.ref t, .int z0, .int z1], st)))) else none := rfl
  rw [if_pos ⟨by simp [List.length_cons]; try omega, hs⟩] at h1
  have h2 := qx_kd_obj (k := 7) (by decide) hk
  exact Rs_call c97_8 h1 (by rw [show qx_args 162 [.ref t, .int z0, .int z1] = decide (qx_sh t = some (.inl 7)) from rfl]; exact decide_eq_true h2)
theorem c97_11 : qx_code 97 11 = some (11, .aload_n 0, 12, 0, 0, 0) := by decide +kernel
theorem s97_11 {L : Nat} {xs : Nat → Int32} {d x : Nat} {M : qxM} {st : List Value} {a1 a2 : Option Value} {z : Nat} : Rs L xs (d) 97 11 [some (.ref z), a1, a2] st M x = Rs L xs (d) 97 12 [some (.ref z), a1, a2] (.ref z :: st) M x := Rs_next c97_11 rfl
theorem c97_12 : qx_code 97 12 = some (12, .getfield 33, 15, 7, 3, 384) := by decide +kernel
theorem s97_12 {L : Nat} {xs : Nat → Int32} {d x : Nat} {M : qxM} {st : List Value} {ls : qxL} {t : Nat} (hk : qx_kd t = 17) : Rs L xs (d) 97 12 ls (.ref t :: st) M x = Rs L xs (d) 97 15 ls (.ref (t + 90) :: st) M x := Rs_when (qx_kd_obj (k := 7) (by decide) hk) c97_12 rfl
theorem c97_15 : qx_code 97 15 = some (15, .getfield 93, 18, 4, 0, 356) := by decide +kernel
theorem s97_15 {L : Nat} {xs : Nat → Int32} {d x : Nat} {M : qxM} {st : List Value} {ls : qxL} {t : Nat} (hk : qx_kd t = 14) : Rs L xs (d) 97 15 ls (.ref t :: st) M x = Rs L xs (d) 97 18 ls (.ref (t + 1) :: st) M x := Rs_when (qx_kd_obj (k := 4) (by decide) hk) c97_15 rfl
theorem c97_18 : qx_code 97 18 = some (18, .astore_n 2, 19, 0, 0, 0) := by decide +kernel
theorem s97_18i {L : Nat} {xs : Nat → Int32} {d x : Nat} {M : qxM} {st : List Value} {a0 a2 : Option Value} {z : Nat} {y : Int32} : Rs L xs (d) 97 18 [a0, some (.int y), a2] (.ref z :: st) M x = Rs L xs (d) 97 19 [a0, some (.int y), some (.ref z)] st M x := Rs_next c97_18 rfl
theorem s97_18r {L : Nat} {xs : Nat → Int32} {d x : Nat} {M : qxM} {st : List Value} {a0 a2 : Option Value} {z : Nat} {y : Nat} : Rs L xs (d) 97 18 [a0, some (.ref y), a2] (.ref z :: st) M x = Rs L xs (d) 97 19 [a0, some (.ref y), some (.ref z)] st M x := Rs_next c97_18 rfl
theorem s97_18n {L : Nat} {xs : Nat → Int32} {d x : Nat} {M : qxM} {st : List Value} {a0 a2 : Option Value} {z : Nat} : Rs L xs (d) 97 18 [a0, none, a2] (.ref z :: st) M x = Rs L xs (d) 97 19 [a0, none, some (.ref z)] st M x := Rs_next c97_18 rfl
theorem c97_19 : qx_code 97 19 = some (19, .iload_n 1, 20, 0, 0, 0) := by decide +kernel
theorem s97_19 {L : Nat} {xs : Nat → Int32} {d x : Nat} {M : qxM} {st : List Value} {a0 a2 : Option Value} {z : Int32} : Rs L xs (d) 97 19 [a0, some (.int z), a2] st M x = Rs L xs (d) 97 20 [a0, some (.int z), a2] (.int z :: st) M x := Rs_next c97_19 rfl
theorem c97_20 : qx_code 97 20 = some (20, .tableswitch 125 0 9 #[56, 61, 66, 71, 76, 88, 93, 101, 109, 117], 76, 0, 0, 0) := by decide +kernel
theorem s97_20_0 {L : Nat} {xs : Nat → Int32} {d x : Nat} {M : qxM} {st : List Value} {ls : qxL} : Rs L xs (d) 97 20 ls (.int (nI 0) :: st) M x = Rs L xs (d) 97 76 ls st M x := Rs_next c97_20 rfl
theorem s97_20_1 {L : Nat} {xs : Nat → Int32} {d x : Nat} {M : qxM} {st : List Value} {ls : qxL} : Rs L xs (d) 97 20 ls (.int (nI 1) :: st) M x = Rs L xs (d) 97 81 ls st M x := Rs_next c97_20 rfl
theorem s97_20_2 {L : Nat} {xs : Nat → Int32} {d x : Nat} {M : qxM} {st : List Value} {ls : qxL} : Rs L xs (d) 97 20 ls (.int (nI 2) :: st) M x = Rs L xs (d) 97 86 ls st M x := Rs_next c97_20 rfl
theorem s97_20_3 {L : Nat} {xs : Nat → Int32} {d x : Nat} {M : qxM} {st : List Value} {ls : qxL} : Rs L xs (d) 97 20 ls (.int (nI 3) :: st) M x = Rs L xs (d) 97 91 ls st M x := Rs_next c97_20 rfl
theorem s97_20_4 {L : Nat} {xs : Nat → Int32} {d x : Nat} {M : qxM} {st : List Value} {ls : qxL} : Rs L xs (d) 97 20 ls (.int (nI 4) :: st) M x = Rs L xs (d) 97 96 ls st M x := Rs_next c97_20 rfl
theorem s97_20_5 {L : Nat} {xs : Nat → Int32} {d x : Nat} {M : qxM} {st : List Value} {ls : qxL} : Rs L xs (d) 97 20 ls (.int (nI 5) :: st) M x = Rs L xs (d) 97 108 ls st M x := Rs_next c97_20 rfl
theorem s97_20_6 {L : Nat} {xs : Nat → Int32} {d x : Nat} {M : qxM} {st : List Value} {ls : qxL} : Rs L xs (d) 97 20 ls (.int (nI 6) :: st) M x = Rs L xs (d) 97 113 ls st M x := Rs_next c97_20 rfl
theorem s97_20_7 {L : Nat} {xs : Nat → Int32} {d x : Nat} {M : qxM} {st : List Value} {ls : qxL} : Rs L xs (d) 97 20 ls (.int (nI 7) :: st) M x = Rs L xs (d) 97 121 ls st M x := Rs_next c97_20 rfl
theorem s97_20_8 {L : Nat} {xs : Nat → Int32} {d x : Nat} {M : qxM} {st : List Value} {ls : qxL} : Rs L xs (d) 97 20 ls (.int (nI 8) :: st) M x = Rs L xs (d) 97 129 ls st M x := Rs_next c97_20 rfl
theorem s97_20_9 {L : Nat} {xs : Nat → Int32} {d x : Nat} {M : qxM} {st : List Value} {ls : qxL} : Rs L xs (d) 97 20 ls (.int (nI 9) :: st) M x = Rs L xs (d) 97 137 ls st M x := Rs_next c97_20 rfl
theorem s97_20_10 {L : Nat} {xs : Nat → Int32} {d x : Nat} {M : qxM} {st : List Value} {ls : qxL} : Rs L xs (d) 97 20 ls (.int (nI 10) :: st) M x = Rs L xs (d) 97 145 ls st M x := Rs_next c97_20 rfl
theorem c97_76 : qx_code 97 76 = some (76, .aload_n 2, 77, 0, 0, 0) := by decide +kernel
theorem s97_76 {L : Nat} {xs : Nat → Int32} {d x : Nat} {M : qxM} {st : List Value} {a0 a1 : Option Value} {z : Nat} : Rs L xs (d) 97 76 [a0, a1, some (.ref z)] st M x = Rs L xs (d) 97 77 [a0, a1, some (.ref z)] (.ref z :: st) M x := Rs_next c97_76 rfl
theorem c97_77 : qx_code 97 77 = some (77, .getfield 96, 80, 2, 0, 166) := by decide +kernel
theorem s97_77 {L : Nat} {xs : Nat → Int32} {d x : Nat} {M : qxM} {st : List Value} {ls : qxL} {t : Nat} (hk : qx_kd t = 12) : Rs L xs (d) 97 77 ls (.ref t :: st) M x = Rs L xs (d) 97 80 ls (.int (M.1 t 0) :: st) M x := Rs_when (qx_kd_obj (k := 2) (by decide) hk) c97_77 rfl
theorem c97_80 : qx_code 97 80 = some (80, .ireturn, 81, 0, 0, 0) := by decide +kernel
theorem s97_80 {L : Nat} {xs : Nat → Int32} {d x : Nat} {M : qxM} {ls : qxL} {z : Int32} : Rs L xs (d) 97 80 ls [.int z] M x = some (.inl (some (.int z)), M, x) := Rs_ret c97_80 rfl
theorem c97_81 : qx_code 97 81 = some (81, .aload_n 2, 82, 0, 0, 0) := by decide +kernel
theorem s97_81 {L : Nat} {xs : Nat → Int32} {d x : Nat} {M : qxM} {st : List Value} {a0 a1 : Option Value} {z : Nat} : Rs L xs (d) 97 81 [a0, a1, some (.ref z)] st M x = Rs L xs (d) 97 82 [a0, a1, some (.ref z)] (.ref z :: st) M x := Rs_next c97_81 rfl
theorem c97_82 : qx_code 97 82 = some (82, .invokevirtual 114, 85, 44, 1, 753) := by decide +kernel
theorem s97_82 {L : Nat} {xs : Nat → Int32} {d x : Nat} {M : qxM} {st : List Value} {ls : qxL} {t : Nat} (hk : qx_kd t = 12) (hs : st.length ≤ 4) : Rs L xs (d + 1) 97 82 ls (.ref t :: st) M x = (Rs L xs d 44 0 [some (.ref t), none, none] [] M 0).bind (qx_kn L xs (d + 1) 97 82 85 44 ls st x) := by
  have h1 : qx_act L xs (qx_rt 97) (82, .invokevirtual 114, 85, 44, 1, 753) ls (.ref t :: st) M = if 1 ≤ (.ref t :: st).length ∧ st.length ≤ 4 then some (.inr (.inr (.inr (44, [.ref t], st)))) else none := rfl
  rw [if_pos ⟨by simp [List.length_cons]; try omega, hs⟩] at h1
  have h2 := qx_kd_obj (k := 2) (by decide) hk
  exact Rs_call c97_82 h1 (by rw [show qx_args 44 [.ref t] = decide (qx_sh t = some (.inl 2)) from rfl]; exact decide_eq_true h2)
theorem c97_85 : qx_code 97 85 = some (85, .ireturn, 86, 0, 0, 0) := by decide +kernel
theorem s97_85 {L : Nat} {xs : Nat → Int32} {d x : Nat} {M : qxM} {ls : qxL} {z : Int32} : Rs L xs (d) 97 85 ls [.int z] M x = some (.inl (some (.int z)), M, x) := Rs_ret c97_85 rfl
theorem c97_86 : qx_code 97 86 = some (86, .aload_n 2, 87, 0, 0, 0) := by decide +kernel
theorem s97_86 {L : Nat} {xs : Nat → Int32} {d x : Nat} {M : qxM} {st : List Value} {a0 a1 : Option Value} {z : Nat} : Rs L xs (d) 97 86 [a0, a1, some (.ref z)] st M x = Rs L xs (d) 97 87 [a0, a1, some (.ref z)] (.ref z :: st) M x := Rs_next c97_86 rfl
theorem c97_87 : qx_code 97 87 = some (87, .invokevirtual 118, 90, 45, 1, 763) := by decide +kernel
theorem s97_87 {L : Nat} {xs : Nat → Int32} {d x : Nat} {M : qxM} {st : List Value} {ls : qxL} {t : Nat} (hk : qx_kd t = 12) (hs : st.length ≤ 4) : Rs L xs (d + 1) 97 87 ls (.ref t :: st) M x = (Rs L xs d 45 0 [some (.ref t), none, none] [] M 0).bind (qx_kn L xs (d + 1) 97 87 90 45 ls st x) := by
  have h1 : qx_act L xs (qx_rt 97) (87, .invokevirtual 118, 90, 45, 1, 763) ls (.ref t :: st) M = if 1 ≤ (.ref t :: st).length ∧ st.length ≤ 4 then some (.inr (.inr (.inr (45, [.ref t], st)))) else none := rfl
  rw [if_pos ⟨by simp [List.length_cons]; try omega, hs⟩] at h1
  have h2 := qx_kd_obj (k := 2) (by decide) hk
  exact Rs_call c97_87 h1 (by rw [show qx_args 45 [.ref t] = decide (qx_sh t = some (.inl 2)) from rfl]; exact decide_eq_true h2)
theorem c97_90 : qx_code 97 90 = some (90, .ireturn, 91, 0, 0, 0) := by decide +kernel
theorem s97_90 {L : Nat} {xs : Nat → Int32} {d x : Nat} {M : qxM} {ls : qxL} {z : Int32} : Rs L xs (d) 97 90 ls [.int z] M x = some (.inl (some (.int z)), M, x) := Rs_ret c97_90 rfl
theorem c97_91 : qx_code 97 91 = some (91, .aload_n 2, 92, 0, 0, 0) := by decide +kernel
theorem s97_91 {L : Nat} {xs : Nat → Int32} {d x : Nat} {M : qxM} {st : List Value} {a0 a1 : Option Value} {z : Nat} : Rs L xs (d) 97 91 [a0, a1, some (.ref z)] st M x = Rs L xs (d) 97 92 [a0, a1, some (.ref z)] (.ref z :: st) M x := Rs_next c97_91 rfl
theorem c97_92 : qx_code 97 92 = some (92, .invokevirtual 121, 95, 48, 1, 767) := by decide +kernel
theorem s97_92 {L : Nat} {xs : Nat → Int32} {d x : Nat} {M : qxM} {st : List Value} {ls : qxL} {t : Nat} (hk : qx_kd t = 12) (hs : st.length ≤ 4) : Rs L xs (d + 1) 97 92 ls (.ref t :: st) M x = (Rs L xs d 48 0 [some (.ref t), none, none] [] M 0).bind (qx_kn L xs (d + 1) 97 92 95 48 ls st x) := by
  have h1 : qx_act L xs (qx_rt 97) (92, .invokevirtual 121, 95, 48, 1, 767) ls (.ref t :: st) M = if 1 ≤ (.ref t :: st).length ∧ st.length ≤ 4 then some (.inr (.inr (.inr (48, [.ref t], st)))) else none := rfl
  rw [if_pos ⟨by simp [List.length_cons]; try omega, hs⟩] at h1
  have h2 := qx_kd_obj (k := 2) (by decide) hk
  exact Rs_call c97_92 h1 (by rw [show qx_args 48 [.ref t] = decide (qx_sh t = some (.inl 2)) from rfl]; exact decide_eq_true h2)
theorem c97_95 : qx_code 97 95 = some (95, .ireturn, 96, 0, 0, 0) := by decide +kernel
theorem s97_95 {L : Nat} {xs : Nat → Int32} {d x : Nat} {M : qxM} {ls : qxL} {z : Int32} : Rs L xs (d) 97 95 ls [.int z] M x = some (.inl (some (.int z)), M, x) := Rs_ret c97_95 rfl
theorem c97_96 : qx_code 97 96 = some (96, .aload_n 2, 97, 0, 0, 0) := by decide +kernel
theorem s97_96 {L : Nat} {xs : Nat → Int32} {d x : Nat} {M : qxM} {st : List Value} {a0 a1 : Option Value} {z : Nat} : Rs L xs (d) 97 96 [a0, a1, some (.ref z)] st M x = Rs L xs (d) 97 97 [a0, a1, some (.ref z)] (.ref z :: st) M x := Rs_next c97_96 rfl
theorem c97_97 : qx_code 97 97 = some (97, .getfield 96, 100, 2, 0, 166) := by decide +kernel
theorem s97_97 {L : Nat} {xs : Nat → Int32} {d x : Nat} {M : qxM} {st : List Value} {ls : qxL} {t : Nat} (hk : qx_kd t = 12) : Rs L xs (d) 97 97 ls (.ref t :: st) M x = Rs L xs (d) 97 100 ls (.int (M.1 t 0) :: st) M x := Rs_when (qx_kd_obj (k := 2) (by decide) hk) c97_97 rfl
theorem c97_100 : qx_code 97 100 = some (100, .iconst 2, 101, 0, 0, 0) := by decide +kernel
theorem s97_100 {L : Nat} {xs : Nat → Int32} {d x : Nat} {M : qxM} {st : List Value} {ls : qxL} : Rs L xs (d) 97 100 ls st M x = Rs L xs (d) 97 101 ls (.int (nI 2) :: st) M x := Rs_next c97_100 rfl
theorem c97_101 : qx_code 97 101 = some (101, .aload_n 2, 102, 0, 0, 0) := by decide +kernel
theorem s97_101 {L : Nat} {xs : Nat → Int32} {d x : Nat} {M : qxM} {st : List Value} {a0 a1 : Option Value} {z : Nat} : Rs L xs (d) 97 101 [a0, a1, some (.ref z)] st M x = Rs L xs (d) 97 102 [a0, a1, some (.ref z)] (.ref z :: st) M x := Rs_next c97_101 rfl
theorem c97_102 : qx_code 97 102 = some (102, .invokevirtual 121, 105, 48, 1, 767) := by decide +kernel
theorem s97_102 {L : Nat} {xs : Nat → Int32} {d x : Nat} {M : qxM} {st : List Value} {ls : qxL} {t : Nat} (hk : qx_kd t = 12) (hs : st.length ≤ 4) : Rs L xs (d + 1) 97 102 ls (.ref t :: st) M x = (Rs L xs d 48 0 [some (.ref t), none, none] [] M 0).bind (qx_kn L xs (d + 1) 97 102 105 48 ls st x) := by
  have h1 : qx_act L xs (qx_rt 97) (102, .invokevirtual 121, 105, 48, 1, 767) ls (.ref t :: st) M = if 1 ≤ (.ref t :: st).length ∧ st.length ≤ 4 then some (.inr (.inr (.inr (48, [.ref t], st)))) else none := rfl
  rw [if_pos ⟨by simp [List.length_cons]; try omega, hs⟩] at h1
  have h2 := qx_kd_obj (k := 2) (by decide) hk
  exact Rs_call c97_102 h1 (by rw [show qx_args 48 [.ref t] = decide (qx_sh t = some (.inl 2)) from rfl]; exact decide_eq_true h2)
theorem c97_105 : qx_code 97 105 = some (105, .imul, 106, 0, 0, 0) := by decide +kernel
theorem s97_105 {L : Nat} {xs : Nat → Int32} {d x : Nat} {M : qxM} {st : List Value} {ls : qxL} {z y : Int32} : Rs L xs (d) 97 105 ls (.int y :: .int z :: st) M x = Rs L xs (d) 97 106 ls (.int (z * y) :: st) M x := Rs_next c97_105 rfl
theorem c97_106 : qx_code 97 106 = some (106, .isub, 107, 0, 0, 0) := by decide +kernel
theorem s97_106 {L : Nat} {xs : Nat → Int32} {d x : Nat} {M : qxM} {st : List Value} {ls : qxL} {z y : Int32} : Rs L xs (d) 97 106 ls (.int y :: .int z :: st) M x = Rs L xs (d) 97 107 ls (.int (z - y) :: st) M x := Rs_next c97_106 rfl
theorem c97_107 : qx_code 97 107 = some (107, .ireturn, 108, 0, 0, 0) := by decide +kernel
theorem s97_107 {L : Nat} {xs : Nat → Int32} {d x : Nat} {M : qxM} {ls : qxL} {z : Int32} : Rs L xs (d) 97 107 ls [.int z] M x = some (.inl (some (.int z)), M, x) := Rs_ret c97_107 rfl
theorem c97_108 : qx_code 97 108 = some (108, .aload_n 2, 109, 0, 0, 0) := by decide +kernel
theorem s97_108 {L : Nat} {xs : Nat → Int32} {d x : Nat} {M : qxM} {st : List Value} {a0 a1 : Option Value} {z : Nat} : Rs L xs (d) 97 108 [a0, a1, some (.ref z)] st M x = Rs L xs (d) 97 109 [a0, a1, some (.ref z)] (.ref z :: st) M x := Rs_next c97_108 rfl
theorem c97_109 : qx_code 97 109 = some (109, .getfield 124, 112, 2, 1, 170) := by decide +kernel
theorem s97_109 {L : Nat} {xs : Nat → Int32} {d x : Nat} {M : qxM} {st : List Value} {ls : qxL} {t : Nat} (hk : qx_kd t = 12) : Rs L xs (d) 97 109 ls (.ref t :: st) M x = Rs L xs (d) 97 112 ls (.int (M.1 t 1) :: st) M x := Rs_when (qx_kd_obj (k := 2) (by decide) hk) c97_109 rfl
theorem c97_112 : qx_code 97 112 = some (112, .ireturn, 113, 0, 0, 0) := by decide +kernel
theorem s97_112 {L : Nat} {xs : Nat → Int32} {d x : Nat} {M : qxM} {ls : qxL} {z : Int32} : Rs L xs (d) 97 112 ls [.int z] M x = some (.inl (some (.int z)), M, x) := Rs_ret c97_112 rfl
theorem c97_113 : qx_code 97 113 = some (113, .aload_n 2, 114, 0, 0, 0) := by decide +kernel
theorem s97_113 {L : Nat} {xs : Nat → Int32} {d x : Nat} {M : qxM} {st : List Value} {a0 a1 : Option Value} {z : Nat} : Rs L xs (d) 97 113 [a0, a1, some (.ref z)] st M x = Rs L xs (d) 97 114 [a0, a1, some (.ref z)] (.ref z :: st) M x := Rs_next c97_113 rfl
theorem c97_114 : qx_code 97 114 = some (114, .getfield 127, 117, 2, 2, 172) := by decide +kernel
theorem s97_114 {L : Nat} {xs : Nat → Int32} {d x : Nat} {M : qxM} {st : List Value} {ls : qxL} {t : Nat} (hk : qx_kd t = 12) : Rs L xs (d) 97 114 ls (.ref t :: st) M x = Rs L xs (d) 97 117 ls (.int (M.1 t 2) :: st) M x := Rs_when (qx_kd_obj (k := 2) (by decide) hk) c97_114 rfl
theorem c97_117 : qx_code 97 117 = some (117, .invokestatic 130, 120, 334, 1, 772) := by decide +kernel
theorem s97_117 {L : Nat} {xs : Nat → Int32} {d x : Nat} {M : qxM} {st : List Value} {ls : qxL} {z0 : Int32} (hs : st.length ≤ 4) : Rs L xs (d + 1) 97 117 ls (.int z0 :: st) M x = (Rs L xs d 334 0 [some (.int z0)] [] M 0).bind (qx_kn L xs (d + 1) 97 117 120 334 ls st x) := by
  have h1 : qx_act L xs (qx_rt 97) (117, .invokestatic 130, 120, 334, 1, 772) ls (.int z0 :: st) M = if 1 ≤ (.int z0 :: st).length ∧ st.length ≤ 4 then some (.inr (.inr (.inr (334, [.int z0], st)))) else none := rfl
  rw [if_pos ⟨by simp [List.length_cons]; try omega, hs⟩] at h1
  exact Rs_call c97_117 h1 rfl
theorem c97_120 : qx_code 97 120 = some (120, .ireturn, 121, 0, 0, 0) := by decide +kernel
theorem s97_120 {L : Nat} {xs : Nat → Int32} {d x : Nat} {M : qxM} {ls : qxL} {z : Int32} : Rs L xs (d) 97 120 ls [.int z] M x = some (.inl (some (.int z)), M, x) := Rs_ret c97_120 rfl
theorem c97_121 : qx_code 97 121 = some (121, .aload_n 0, 122, 0, 0, 0) := by decide +kernel
theorem s97_121 {L : Nat} {xs : Nat → Int32} {d x : Nat} {M : qxM} {st : List Value} {a1 a2 : Option Value} {z : Nat} : Rs L xs (d) 97 121 [some (.ref z), a1, a2] st M x = Rs L xs (d) 97 122 [some (.ref z), a1, a2] (.ref z :: st) M x := Rs_next c97_121 rfl
theorem c97_122 : qx_code 97 122 = some (122, .getfield 33, 125, 7, 3, 384) := by decide +kernel
theorem s97_122 {L : Nat} {xs : Nat → Int32} {d x : Nat} {M : qxM} {st : List Value} {ls : qxL} {t : Nat} (hk : qx_kd t = 17) : Rs L xs (d) 97 122 ls (.ref t :: st) M x = Rs L xs (d) 97 125 ls (.ref (t + 90) :: st) M x := Rs_when (qx_kd_obj (k := 7) (by decide) hk) c97_122 rfl
theorem c97_125 : qx_code 97 125 = some (125, .getfield 136, 128, 4, 2, 360) := by decide +kernel
theorem s97_125 {L : Nat} {xs : Nat → Int32} {d x : Nat} {M : qxM} {st : List Value} {ls : qxL} {t : Nat} (hk : qx_kd t = 14) : Rs L xs (d) 97 125 ls (.ref t :: st) M x = Rs L xs (d) 97 128 ls (.int (M.1 t 2) :: st) M x := Rs_when (qx_kd_obj (k := 4) (by decide) hk) c97_125 rfl
theorem c97_128 : qx_code 97 128 = some (128, .ireturn, 129, 0, 0, 0) := by decide +kernel
theorem s97_128 {L : Nat} {xs : Nat → Int32} {d x : Nat} {M : qxM} {ls : qxL} {z : Int32} : Rs L xs (d) 97 128 ls [.int z] M x = some (.inl (some (.int z)), M, x) := Rs_ret c97_128 rfl
theorem c97_129 : qx_code 97 129 = some (129, .aload_n 0, 130, 0, 0, 0) := by decide +kernel
theorem s97_129 {L : Nat} {xs : Nat → Int32} {d x : Nat} {M : qxM} {st : List Value} {a1 a2 : Option Value} {z : Nat} : Rs L xs (d) 97 129 [some (.ref z), a1, a2] st M x = Rs L xs (d) 97 130 [some (.ref z), a1, a2] (.ref z :: st) M x := Rs_next c97_129 rfl
theorem c97_130 : qx_code 97 130 = some (130, .getfield 33, 133, 7, 3, 384) := by decide +kernel
theorem s97_130 {L : Nat} {xs : Nat → Int32} {d x : Nat} {M : qxM} {st : List Value} {ls : qxL} {t : Nat} (hk : qx_kd t = 17) : Rs L xs (d) 97 130 ls (.ref t :: st) M x = Rs L xs (d) 97 133 ls (.ref (t + 90) :: st) M x := Rs_when (qx_kd_obj (k := 7) (by decide) hk) c97_130 rfl
theorem c97_133 : qx_code 97 133 = some (133, .getfield 139, 136, 4, 3, 362) := by decide +kernel
theorem s97_133 {L : Nat} {xs : Nat → Int32} {d x : Nat} {M : qxM} {st : List Value} {ls : qxL} {t : Nat} (hk : qx_kd t = 14) : Rs L xs (d) 97 133 ls (.ref t :: st) M x = Rs L xs (d) 97 136 ls (.int (M.1 t 3) :: st) M x := Rs_when (qx_kd_obj (k := 4) (by decide) hk) c97_133 rfl
theorem c97_136 : qx_code 97 136 = some (136, .ireturn, 137, 0, 0, 0) := by decide +kernel
theorem s97_136 {L : Nat} {xs : Nat → Int32} {d x : Nat} {M : qxM} {ls : qxL} {z : Int32} : Rs L xs (d) 97 136 ls [.int z] M x = some (.inl (some (.int z)), M, x) := Rs_ret c97_136 rfl
theorem c97_137 : qx_code 97 137 = some (137, .aload_n 0, 138, 0, 0, 0) := by decide +kernel
theorem s97_137 {L : Nat} {xs : Nat → Int32} {d x : Nat} {M : qxM} {st : List Value} {a1 a2 : Option Value} {z : Nat} : Rs L xs (d) 97 137 [some (.ref z), a1, a2] st M x = Rs L xs (d) 97 138 [some (.ref z), a1, a2] (.ref z :: st) M x := Rs_next c97_137 rfl
theorem c97_138 : qx_code 97 138 = some (138, .getfield 33, 141, 7, 3, 384) := by decide +kernel
theorem s97_138 {L : Nat} {xs : Nat → Int32} {d x : Nat} {M : qxM} {st : List Value} {ls : qxL} {t : Nat} (hk : qx_kd t = 17) : Rs L xs (d) 97 138 ls (.ref t :: st) M x = Rs L xs (d) 97 141 ls (.ref (t + 90) :: st) M x := Rs_when (qx_kd_obj (k := 7) (by decide) hk) c97_138 rfl
theorem c97_141 : qx_code 97 141 = some (141, .getfield 142, 144, 4, 4, 364) := by decide +kernel
theorem s97_141 {L : Nat} {xs : Nat → Int32} {d x : Nat} {M : qxM} {st : List Value} {ls : qxL} {t : Nat} (hk : qx_kd t = 14) : Rs L xs (d) 97 141 ls (.ref t :: st) M x = Rs L xs (d) 97 144 ls (.int (M.1 t 4) :: st) M x := Rs_when (qx_kd_obj (k := 4) (by decide) hk) c97_141 rfl
theorem c97_144 : qx_code 97 144 = some (144, .ireturn, 145, 0, 0, 0) := by decide +kernel
theorem s97_144 {L : Nat} {xs : Nat → Int32} {d x : Nat} {M : qxM} {ls : qxL} {z : Int32} : Rs L xs (d) 97 144 ls [.int z] M x = some (.inl (some (.int z)), M, x) := Rs_ret c97_144 rfl
theorem c97_145 : qx_code 97 145 = some (145, .aload_n 0, 146, 0, 0, 0) := by decide +kernel
theorem s97_145 {L : Nat} {xs : Nat → Int32} {d x : Nat} {M : qxM} {st : List Value} {a1 a2 : Option Value} {z : Nat} : Rs L xs (d) 97 145 [some (.ref z), a1, a2] st M x = Rs L xs (d) 97 146 [some (.ref z), a1, a2] (.ref z :: st) M x := Rs_next c97_145 rfl
theorem c97_146 : qx_code 97 146 = some (146, .getfield 33, 149, 7, 3, 384) := by decide +kernel
theorem s97_146 {L : Nat} {xs : Nat → Int32} {d x : Nat} {M : qxM} {st : List Value} {ls : qxL} {t : Nat} (hk : qx_kd t = 17) : Rs L xs (d) 97 146 ls (.ref t :: st) M x = Rs L xs (d) 97 149 ls (.ref (t + 90) :: st) M x := Rs_when (qx_kd_obj (k := 7) (by decide) hk) c97_146 rfl
theorem c97_149 : qx_code 97 149 = some (149, .getfield 145, 152, 4, 5, 366) := by decide +kernel
theorem s97_149 {L : Nat} {xs : Nat → Int32} {d x : Nat} {M : qxM} {st : List Value} {ls : qxL} {t : Nat} (hk : qx_kd t = 14) : Rs L xs (d) 97 149 ls (.ref t :: st) M x = Rs L xs (d) 97 152 ls (.int (M.1 t 5) :: st) M x := Rs_when (qx_kd_obj (k := 4) (by decide) hk) c97_149 rfl
theorem c97_152 : qx_code 97 152 = some (152, .ireturn, 153, 0, 0, 0) := by decide +kernel
theorem s97_152 {L : Nat} {xs : Nat → Int32} {d x : Nat} {M : qxM} {ls : qxL} {z : Int32} : Rs L xs (d) 97 152 ls [.int z] M x = some (.inl (some (.int z)), M, x) := Rs_ret c97_152 rfl
theorem c98_0 : qx_code 98 0 = some (0, .aload_n 0, 1, 0, 0, 0) := by decide +kernel
theorem s98_0 {L : Nat} {xs : Nat → Int32} {d x : Nat} {M : qxM} {st : List Value} {a1 a2 a3 : Option Value} {z : Nat} : Rs L xs (d) 98 0 [some (.ref z), a1, a2, a3] st M x = Rs L xs (d) 98 1 [some (.ref z), a1, a2, a3] (.ref z :: st) M x := Rs_next c98_0 rfl
theorem c98_1 : qx_code 98 1 = some (1, .iload_n 1, 2, 0, 0, 0) := by decide +kernel
theorem s98_1 {L : Nat} {xs : Nat → Int32} {d x : Nat} {M : qxM} {st : List Value} {a0 a2 a3 : Option Value} {z : Int32} : Rs L xs (d) 98 1 [a0, some (.int z), a2, a3] st M x = Rs L xs (d) 98 2 [a0, some (.int z), a2, a3] (.int z :: st) M x := Rs_next c98_1 rfl
theorem c98_2 : qx_code 98 2 = some (2, .invokevirtual 148, 5, 160, 2, 780) := by decide +kernel
theorem s98_2 {L : Nat} {xs : Nat → Int32} {d x : Nat} {M : qxM} {st : List Value} {ls : qxL} {t : Nat} {z0 : Int32} (hk : qx_kd t = 17) (hs : st.length ≤ 4) : Rs L xs (d + 1) 98 2 ls (.int z0 :: .ref t :: st) M x = (Rs L xs d 160 0 [some (.ref t), some (.int z0)] [] M 0).bind (qx_kn L xs (d + 1) 98 2 5 160 ls st x) := by
  have h1 : qx_act L xs (qx_rt 98) (2, .invokevirtual 148, 5, 160, 2, 780) ls (.int z0 :: .ref t :: st) M = if 2 ≤ (.int z0 :: .ref t :: st).length ∧ st.length ≤ 4 then some (.inr (.inr (.inr (160, [.ref t, .int z0], st)))) else none := rfl
  rw [if_pos ⟨by simp [List.length_cons]; try omega, hs⟩] at h1
  have h2 := qx_kd_obj (k := 7) (by decide) hk
  exact Rs_call c98_2 h1 (by rw [show qx_args 160 [.ref t, .int z0] = decide (qx_sh t = some (.inl 7)) from rfl]; exact decide_eq_true h2)
theorem c98_5 : qx_code 98 5 = some (5, .aload_n 0, 6, 0, 0, 0) := by decide +kernel
theorem s98_5 {L : Nat} {xs : Nat → Int32} {d x : Nat} {M : qxM} {st : List Value} {a1 a2 a3 : Option Value} {z : Nat} : Rs L xs (d) 98 5 [some (.ref z), a1, a2, a3] st M x = Rs L xs (d) 98 6 [some (.ref z), a1, a2, a3] (.ref z :: st) M x := Rs_next c98_5 rfl
theorem c98_6 : qx_code 98 6 = some (6, .iload_n 2, 7, 0, 0, 0) := by decide +kernel
theorem s98_6 {L : Nat} {xs : Nat → Int32} {d x : Nat} {M : qxM} {st : List Value} {a0 a1 a3 : Option Value} {z : Int32} : Rs L xs (d) 98 6 [a0, a1, some (.int z), a3] st M x = Rs L xs (d) 98 7 [a0, a1, some (.int z), a3] (.int z :: st) M x := Rs_next c98_6 rfl
theorem c98_7 : qx_code 98 7 = some (7, .iconst 3, 8, 0, 0, 0) := by decide +kernel
theorem s98_7 {L : Nat} {xs : Nat → Int32} {d x : Nat} {M : qxM} {st : List Value} {ls : qxL} : Rs L xs (d) 98 7 ls st M x = Rs L xs (d) 98 8 ls (.int (nI 3) :: st) M x := Rs_next c98_7 rfl
theorem c98_8 : qx_code 98 8 = some (8, .invokevirtual 110, 11, 162, 3, 748) := by decide +kernel
theorem s98_8 {L : Nat} {xs : Nat → Int32} {d x : Nat} {M : qxM} {st : List Value} {ls : qxL} {t : Nat} {z0 : Int32} {z1 : Int32} (hk : qx_kd t = 17) (hs : st.length ≤ 4) : Rs L xs (d + 1) 98 8 ls (.int z1 :: .int z0 :: .ref t :: st) M x = (Rs L xs d 162 0 [some (.ref t), some (.int z0), some (.int z1)] [] M 0).bind (qx_kn L xs (d + 1) 98 8 11 162 ls st x) := by
  have h1 : qx_act L xs (qx_rt 98) (8, .invokevirtual 110, 11, 162, 3, 748) ls (.int z1 :: .int z0 :: .ref t :: st) M = if 3 ≤ (.int z1 :: .int z0 :: .ref t :: st).length ∧ st.length ≤ 4 then some (.inr (.inr (.inr (162, [.ref t, .int z0, .int z1], st)))) else none := rfl
  rw [if_pos ⟨by simp [List.length_cons]; try omega, hs⟩] at h1
  have h2 := qx_kd_obj (k := 7) (by decide) hk
  exact Rs_call c98_8 h1 (by rw [show qx_args 162 [.ref t, .int z0, .int z1] = decide (qx_sh t = some (.inl 7)) from rfl]; exact decide_eq_true h2)
theorem c98_11 : qx_code 98 11 = some (11, .aload_n 0, 12, 0, 0, 0) := by decide +kernel
theorem s98_11 {L : Nat} {xs : Nat → Int32} {d x : Nat} {M : qxM} {st : List Value} {a1 a2 a3 : Option Value} {z : Nat} : Rs L xs (d) 98 11 [some (.ref z), a1, a2, a3] st M x = Rs L xs (d) 98 12 [some (.ref z), a1, a2, a3] (.ref z :: st) M x := Rs_next c98_11 rfl
theorem c98_12 : qx_code 98 12 = some (12, .getfield 33, 15, 7, 3, 384) := by decide +kernel
theorem s98_12 {L : Nat} {xs : Nat → Int32} {d x : Nat} {M : qxM} {st : List Value} {ls : qxL} {t : Nat} (hk : qx_kd t = 17) : Rs L xs (d) 98 12 ls (.ref t :: st) M x = Rs L xs (d) 98 15 ls (.ref (t + 90) :: st) M x := Rs_when (qx_kd_obj (k := 7) (by decide) hk) c98_12 rfl
theorem c98_15 : qx_code 98 15 = some (15, .getfield 93, 18, 4, 0, 356) := by decide +kernel
theorem s98_15 {L : Nat} {xs : Nat → Int32} {d x : Nat} {M : qxM} {st : List Value} {ls : qxL} {t : Nat} (hk : qx_kd t = 14) : Rs L xs (d) 98 15 ls (.ref t :: st) M x = Rs L xs (d) 98 18 ls (.ref (t + 1) :: st) M x := Rs_when (qx_kd_obj (k := 4) (by decide) hk) c98_15 rfl
theorem c98_18 : qx_code 98 18 = some (18, .astore_n 3, 19, 0, 0, 0) := by decide +kernel
theorem s98_18i {L : Nat} {xs : Nat → Int32} {d x : Nat} {M : qxM} {st : List Value} {a0 a1 a3 : Option Value} {z : Nat} {y : Int32} : Rs L xs (d) 98 18 [a0, a1, some (.int y), a3] (.ref z :: st) M x = Rs L xs (d) 98 19 [a0, a1, some (.int y), some (.ref z)] st M x := Rs_next c98_18 rfl
theorem s98_18r {L : Nat} {xs : Nat → Int32} {d x : Nat} {M : qxM} {st : List Value} {a0 a1 a3 : Option Value} {z : Nat} {y : Nat} : Rs L xs (d) 98 18 [a0, a1, some (.ref y), a3] (.ref z :: st) M x = Rs L xs (d) 98 19 [a0, a1, some (.ref y), some (.ref z)] st M x := Rs_next c98_18 rfl
theorem s98_18n {L : Nat} {xs : Nat → Int32} {d x : Nat} {M : qxM} {st : List Value} {a0 a1 a3 : Option Value} {z : Nat} : Rs L xs (d) 98 18 [a0, a1, none, a3] (.ref z :: st) M x = Rs L xs (d) 98 19 [a0, a1, none, some (.ref z)] st M x := Rs_next c98_18 rfl
theorem c98_19 : qx_code 98 19 = some (19, .iload_n 2, 20, 0, 0, 0) := by decide +kernel
theorem s98_19 {L : Nat} {xs : Nat → Int32} {d x : Nat} {M : qxM} {st : List Value} {a0 a1 a3 : Option Value} {z : Int32} : Rs L xs (d) 98 19 [a0, a1, some (.int z), a3] st M x = Rs L xs (d) 98 20 [a0, a1, some (.int z), a3] (.int z :: st) M x := Rs_next c98_19 rfl
theorem c98_20 : qx_code 98 20 = some (20, .tableswitch 52 0 2 #[28, 34, 43], 48, 0, 0, 0) := by decide +kernel
theorem s98_20_0 {L : Nat} {xs : Nat → Int32} {d x : Nat} {M : qxM} {st : List Value} {ls : qxL} : Rs L xs (d) 98 20 ls (.int (nI 0) :: st) M x = Rs L xs (d) 98 48 ls st M x := Rs_next c98_20 rfl
theorem s98_20_1 {L : Nat} {xs : Nat → Int32} {d x : Nat} {M : qxM} {st : List Value} {ls : qxL} : Rs L xs (d) 98 20 ls (.int (nI 1) :: st) M x = Rs L xs (d) 98 54 ls st M x := Rs_next c98_20 rfl
theorem s98_20_2 {L : Nat} {xs : Nat → Int32} {d x : Nat} {M : qxM} {st : List Value} {ls : qxL} : Rs L xs (d) 98 20 ls (.int (nI 2) :: st) M x = Rs L xs (d) 98 63 ls st M x := Rs_next c98_20 rfl
theorem s98_20_3 {L : Nat} {xs : Nat → Int32} {d x : Nat} {M : qxM} {st : List Value} {ls : qxL} : Rs L xs (d) 98 20 ls (.int (nI 3) :: st) M x = Rs L xs (d) 98 72 ls st M x := Rs_next c98_20 rfl
theorem c98_48 : qx_code 98 48 = some (48, .aload_n 3, 49, 0, 0, 0) := by decide +kernel
theorem s98_48 {L : Nat} {xs : Nat → Int32} {d x : Nat} {M : qxM} {st : List Value} {a0 a1 a2 : Option Value} {z : Nat} : Rs L xs (d) 98 48 [a0, a1, a2, some (.ref z)] st M x = Rs L xs (d) 98 49 [a0, a1, a2, some (.ref z)] (.ref z :: st) M x := Rs_next c98_48 rfl
theorem c98_49 : qx_code 98 49 = some (49, .iload_n 1, 50, 0, 0, 0) := by decide +kernel
theorem s98_49 {L : Nat} {xs : Nat → Int32} {d x : Nat} {M : qxM} {st : List Value} {a0 a2 a3 : Option Value} {z : Int32} : Rs L xs (d) 98 49 [a0, some (.int z), a2, a3] st M x = Rs L xs (d) 98 50 [a0, some (.int z), a2, a3] (.int z :: st) M x := Rs_next c98_49 rfl
theorem c98_50 : qx_code 98 50 = some (50, .invokevirtual 151, 53, 37, 2, 785) := by decide +kernel
theorem s98_50 {L : Nat} {xs : Nat → Int32} {d x : Nat} {M : qxM} {st : List Value} {ls : qxL} {t : Nat} {z0 : Int32} (hk : qx_kd t = 12) (hs : st.length ≤ 4) : Rs L xs (d + 1) 98 50 ls (.int z0 :: .ref t :: st) M x = (Rs L xs d 37 0 [some (.ref t), some (.int z0)] [] M 0).bind (qx_kn L xs (d + 1) 98 50 53 37 ls st x) := by
  have h1 : qx_act L xs (qx_rt 98) (50, .invokevirtual 151, 53, 37, 2, 785) ls (.int z0 :: .ref t :: st) M = if 2 ≤ (.int z0 :: .ref t :: st).length ∧ st.length ≤ 4 then some (.inr (.inr (.inr (37, [.ref t, .int z0], st)))) else none := rfl
  rw [if_pos ⟨by simp [List.length_cons]; try omega, hs⟩] at h1
  have h2 := qx_kd_obj (k := 2) (by decide) hk
  exact Rs_call c98_50 h1 (by rw [show qx_args 37 [.ref t, .int z0] = decide (qx_sh t = some (.inl 2)) from rfl]; exact decide_eq_true h2)
theorem c98_53 : qx_code 98 53 = some (53, .ireturn, 54, 0, 0, 0) := by decide +kernel
theorem s98_53 {L : Nat} {xs : Nat → Int32} {d x : Nat} {M : qxM} {ls : qxL} {z : Int32} : Rs L xs (d) 98 53 ls [.int z] M x = some (.inl (some (.int z)), M, x) := Rs_ret c98_53 rfl
theorem c98_54 : qx_code 98 54 = some (54, .aload_n 3, 55, 0, 0, 0) := by decide +kernel
theorem s98_54 {L : Nat} {xs : Nat → Int32} {d x : Nat} {M : qxM} {st : List Value} {a0 a1 a2 : Option Value} {z : Nat} : Rs L xs (d) 98 54 [a0, a1, a2, some (.ref z)] st M x = Rs L xs (d) 98 55 [a0, a1, a2, some (.ref z)] (.ref z :: st) M x := Rs_next c98_54 rfl
theorem c98_55 : qx_code 98 55 = some (55, .iload_n 1, 56, 0, 0, 0) := by decide +kernel
theorem s98_55 {L : Nat} {xs : Nat → Int32} {d x : Nat} {M : qxM} {st : List Value} {a0 a2 a3 : Option Value} {z : Int32} : Rs L xs (d) 98 55 [a0, some (.int z), a2, a3] st M x = Rs L xs (d) 98 56 [a0, some (.int z), a2, a3] (.int z :: st) M x := Rs_next c98_55 rfl
theorem c98_56 : qx_code 98 56 = some (56, .invokevirtual 154, 59, 39, 2, 789) := by decide +kernel
theorem s98_56 {L : Nat} {xs : Nat → Int32} {d x : Nat} {M : qxM} {st : List Value} {ls : qxL} {t : Nat} {z0 : Int32} (hk : qx_kd t = 12) (hs : st.length ≤ 4) : Rs L xs (d + 1) 98 56 ls (.int z0 :: .ref t :: st) M x = (Rs L xs d 39 0 [some (.ref t), some (.int z0)] [] M 0).bind (qx_kn L xs (d + 1) 98 56 59 39 ls st x) := by
  have h1 : qx_act L xs (qx_rt 98) (56, .invokevirtual 154, 59, 39, 2, 789) ls (.int z0 :: .ref t :: st) M = if 2 ≤ (.int z0 :: .ref t :: st).length ∧ st.length ≤ 4 then some (.inr (.inr (.inr (39, [.ref t, .int z0], st)))) else none := rfl
  rw [if_pos ⟨by simp [List.length_cons]; try omega, hs⟩] at h1
  have h2 := qx_kd_obj (k := 2) (by decide) hk
  exact Rs_call c98_56 h1 (by rw [show qx_args 39 [.ref t, .int z0] = decide (qx_sh t = some (.inl 2)) from rfl]; exact decide_eq_true h2)
theorem c98_59 : qx_code 98 59 = some (59, .invokestatic 130, 62, 334, 1, 772) := by decide +kernel
theorem s98_59 {L : Nat} {xs : Nat → Int32} {d x : Nat} {M : qxM} {st : List Value} {ls : qxL} {z0 : Int32} (hs : st.length ≤ 4) : Rs L xs (d + 1) 98 59 ls (.int z0 :: st) M x = (Rs L xs d 334 0 [some (.int z0)] [] M 0).bind (qx_kn L xs (d + 1) 98 59 62 334 ls st x) := by
  have h1 : qx_act L xs (qx_rt 98) (59, .invokestatic 130, 62, 334, 1, 772) ls (.int z0 :: st) M = if 1 ≤ (.int z0 :: st).length ∧ st.length ≤ 4 then some (.inr (.inr (.inr (334, [.int z0], st)))) else none := rfl
  rw [if_pos ⟨by simp [List.length_cons]; try omega, hs⟩] at h1
  exact Rs_call c98_59 h1 rfl
theorem c98_62 : qx_code 98 62 = some (62, .ireturn, 63, 0, 0, 0) := by decide +kernel
theorem s98_62 {L : Nat} {xs : Nat → Int32} {d x : Nat} {M : qxM} {ls : qxL} {z : Int32} : Rs L xs (d) 98 62 ls [.int z] M x = some (.inl (some (.int z)), M, x) := Rs_ret c98_62 rfl
theorem c98_63 : qx_code 98 63 = some (63, .aload_n 3, 64, 0, 0, 0) := by decide +kernel
theorem s98_63 {L : Nat} {xs : Nat → Int32} {d x : Nat} {M : qxM} {st : List Value} {a0 a1 a2 : Option Value} {z : Nat} : Rs L xs (d) 98 63 [a0, a1, a2, some (.ref z)] st M x = Rs L xs (d) 98 64 [a0, a1, a2, some (.ref z)] (.ref z :: st) M x := Rs_next c98_63 rfl
theorem c98_64 : qx_code 98 64 = some (64, .iload_n 1, 65, 0, 0, 0) := by decide +kernel
theorem s98_64 {L : Nat} {xs : Nat → Int32} {d x : Nat} {M : qxM} {st : List Value} {a0 a2 a3 : Option Value} {z : Int32} : Rs L xs (d) 98 64 [a0, some (.int z), a2, a3] st M x = Rs L xs (d) 98 65 [a0, some (.int z), a2, a3] (.int z :: st) M x := Rs_next c98_64 rfl
theorem c98_65 : qx_code 98 65 = some (65, .invokevirtual 157, 68, 42, 2, 790) := by decide +kernel
theorem s98_65 {L : Nat} {xs : Nat → Int32} {d x : Nat} {M : qxM} {st : List Value} {ls : qxL} {t : Nat} {z0 : Int32} (hk : qx_kd t = 12) (hs : st.length ≤ 4) : Rs L xs (d + 1) 98 65 ls (.int z0 :: .ref t :: st) M x = (Rs L xs d 42 0 [some (.ref t), some (.int z0)] [] M 0).bind (qx_kn L xs (d + 1) 98 65 68 42 ls st x) := by
  have h1 : qx_act L xs (qx_rt 98) (65, .invokevirtual 157, 68, 42, 2, 790) ls (.int z0 :: .ref t :: st) M = if 2 ≤ (.int z0 :: .ref t :: st).length ∧ st.length ≤ 4 then some (.inr (.inr (.inr (42, [.ref t, .int z0], st)))) else none := rfl
  rw [if_pos ⟨by simp [List.length_cons]; try omega, hs⟩] at h1
  have h2 := qx_kd_obj (k := 2) (by decide) hk
  exact Rs_call c98_65 h1 (by rw [show qx_args 42 [.ref t, .int z0] = decide (qx_sh t = some (.inl 2)) from rfl]; exact decide_eq_true h2)
theorem c98_68 : qx_code 98 68 = some (68, .invokestatic 130, 71, 334, 1, 772) := by decide +kernel
theorem s98_68 {L : Nat} {xs : Nat → Int32} {d x : Nat} {M : qxM} {st : List Value} {ls : qxL} {z0 : Int32} (hs : st.length ≤ 4) : Rs L xs (d + 1) 98 68 ls (.int z0 :: st) M x = (Rs L xs d 334 0 [some (.int z0)] [] M 0).bind (qx_kn L xs (d + 1) 98 68 71 334 ls st x) := by
  have h1 : qx_act L xs (qx_rt 98) (68, .invokestatic 130, 71, 334, 1, 772) ls (.int z0 :: st) M = if 1 ≤ (.int z0 :: st).length ∧ st.length ≤ 4 then some (.inr (.inr (.inr (334, [.int z0], st)))) else none := rfl
  rw [if_pos ⟨by simp [List.length_cons]; try omega, hs⟩] at h1
  exact Rs_call c98_68 h1 rfl
theorem c98_71 : qx_code 98 71 = some (71, .ireturn, 72, 0, 0, 0) := by decide +kernel
theorem s98_71 {L : Nat} {xs : Nat → Int32} {d x : Nat} {M : qxM} {ls : qxL} {z : Int32} : Rs L xs (d) 98 71 ls [.int z] M x = some (.inl (some (.int z)), M, x) := Rs_ret c98_71 rfl
theorem c98_72 : qx_code 98 72 = some (72, .aload_n 3, 73, 0, 0, 0) := by decide +kernel
theorem s98_72 {L : Nat} {xs : Nat → Int32} {d x : Nat} {M : qxM} {st : List Value} {a0 a1 a2 : Option Value} {z : Nat} : Rs L xs (d) 98 72 [a0, a1, a2, some (.ref z)] st M x = Rs L xs (d) 98 73 [a0, a1, a2, some (.ref z)] (.ref z :: st) M x := Rs_next c98_72 rfl
theorem c98_73 : qx_code 98 73 = some (73, .iload_n 1, 74, 0, 0, 0) := by decide +kernel
theorem s98_73 {L : Nat} {xs : Nat → Int32} {d x : Nat} {M : qxM} {st : List Value} {a0 a2 a3 : Option Value} {z : Int32} : Rs L xs (d) 98 73 [a0, some (.int z), a2, a3] st M x = Rs L xs (d) 98 74 [a0, some (.int z), a2, a3] (.int z :: st) M x := Rs_next c98_73 rfl
theorem c98_74 : qx_code 98 74 = some (74, .invokevirtual 160, 77, 46, 2, 791) := by decide +kernel
theorem s98_74 {L : Nat} {xs : Nat → Int32} {d x : Nat} {M : qxM} {st : List Value} {ls : qxL} {t : Nat} {z0 : Int32} (hk : qx_kd t = 12) (hs : st.length ≤ 4) : Rs L xs (d + 1) 98 74 ls (.int z0 :: .ref t :: st) M x = (Rs L xs d 46 0 [some (.ref t), some (.int z0)] [] M 0).bind (qx_kn L xs (d + 1) 98 74 77 46 ls st x) := by
  have h1 : qx_act L xs (qx_rt 98) (74, .invokevirtual 160, 77, 46, 2, 791) ls (.int z0 :: .ref t :: st) M = if 2 ≤ (.int z0 :: .ref t :: st).length ∧ st.length ≤ 4 then some (.inr (.inr (.inr (46, [.ref t, .int z0], st)))) else none := rfl
  rw [if_pos ⟨by simp [List.length_cons]; try omega, hs⟩] at h1
  have h2 := qx_kd_obj (k := 2) (by decide) hk
  exact Rs_call c98_74 h1 (by rw [show qx_args 46 [.ref t, .int z0] = decide (qx_sh t = some (.inl 2)) from rfl]; exact decide_eq_true h2)
theorem c98_77 : qx_code 98 77 = some (77, .ireturn, 78, 0, 0, 0) := by decide +kernel
theorem s98_77 {L : Nat} {xs : Nat → Int32} {d x : Nat} {M : qxM} {ls : qxL} {z : Int32} : Rs L xs (d) 98 77 ls [.int z] M x = some (.inl (some (.int z)), M, x) := Rs_ret c98_77 rfl
theorem c99_0 : qx_code 99 0 = some (0, .aload_n 0, 1, 0, 0, 0) := by decide +kernel
theorem s99_0 {L : Nat} {xs : Nat → Int32} {d x : Nat} {M : qxM} {st : List Value} {a1 a2 : Option Value} {z : Nat} : Rs L xs (d) 99 0 [some (.ref z), a1, a2] st M x = Rs L xs (d) 99 1 [some (.ref z), a1, a2] (.ref z :: st) M x := Rs_next c99_0 rfl
theorem c99_1 : qx_code 99 1 = some (1, .iload_n 1, 2, 0, 0, 0) := by decide +kernel
theorem s99_1 {L : Nat} {xs : Nat → Int32} {d x : Nat} {M : qxM} {st : List Value} {a0 a2 : Option Value} {z : Int32} : Rs L xs (d) 99 1 [a0, some (.int z), a2] st M x = Rs L xs (d) 99 2 [a0, some (.int z), a2] (.int z :: st) M x := Rs_next c99_1 rfl
theorem c99_2 : qx_code 99 2 = some (2, .iload_n 2, 3, 0, 0, 0) := by decide +kernel
theorem s99_2 {L : Nat} {xs : Nat → Int32} {d x : Nat} {M : qxM} {st : List Value} {a0 a1 : Option Value} {z : Int32} : Rs L xs (d) 99 2 [a0, a1, some (.int z)] st M x = Rs L xs (d) 99 3 [a0, a1, some (.int z)] (.int z :: st) M x := Rs_next c99_2 rfl
theorem c99_3 : qx_code 99 3 = some (3, .invokevirtual 163, 6, 161, 3, 799) := by decide +kernel
theorem s99_3 {L : Nat} {xs : Nat → Int32} {d x : Nat} {M : qxM} {st : List Value} {ls : qxL} {t : Nat} {z0 : Int32} {z1 : Int32} (hk : qx_kd t = 17) (hs : st.length ≤ 4) : Rs L xs (d + 1) 99 3 ls (.int z1 :: .int z0 :: .ref t :: st) M x = (Rs L xs d 161 0 [some (.ref t), some (.int z0), some (.int z1)] [] M 0).bind (qx_kn L xs (d + 1) 99 3 6 161 ls st x) := by
  have h1 : qx_act L xs (qx_rt 99) (3, .invokevirtual 163, 6, 161, 3, 799) ls (.int z1 :: .int z0 :: .ref t :: st) M = if 3 ≤ (.int z1 :: .int z0 :: .ref t :: st).length ∧ st.length ≤ 4 then some (.inr (.inr (.inr (161, [.ref t, .int z0, .int z1], st)))) else none := rfl
  rw [if_pos ⟨by simp [List.length_cons]; try omega, hs⟩] at h1
  have h2 := qx_kd_obj (k := 7) (by decide) hk
  exact Rs_call c99_3 h1 (by rw [show qx_args 161 [.ref t, .int z0, .int z1] = decide (qx_sh t = some (.inl 7)) from rfl]; exact decide_eq_true h2)
theorem c99_6 : qx_code 99 6 = some (6, .aload_n 0, 7, 0, 0, 0) := by decide +kernel
theorem s99_6 {L : Nat} {xs : Nat → Int32} {d x : Nat} {M : qxM} {st : List Value} {a1 a2 : Option Value} {z : Nat} : Rs L xs (d) 99 6 [some (.ref z), a1, a2] st M x = Rs L xs (d) 99 7 [some (.ref z), a1, a2] (.ref z :: st) M x := Rs_next c99_6 rfl
theorem c99_7 : qx_code 99 7 = some (7, .getfield 33, 10, 7, 3, 384) := by decide +kernel
theorem s99_7 {L : Nat} {xs : Nat → Int32} {d x : Nat} {M : qxM} {st : List Value} {ls : qxL} {t : Nat} (hk : qx_kd t = 17) : Rs L xs (d) 99 7 ls (.ref t :: st) M x = Rs L xs (d) 99 10 ls (.ref (t + 90) :: st) M x := Rs_when (qx_kd_obj (k := 7) (by decide) hk) c99_7 rfl
theorem c99_10 : qx_code 99 10 = some (10, .getfield 93, 13, 4, 0, 356) := by decide +kernel
theorem s99_10 {L : Nat} {xs : Nat → Int32} {d x : Nat} {M : qxM} {st : List Value} {ls : qxL} {t : Nat} (hk : qx_kd t = 14) : Rs L xs (d) 99 10 ls (.ref t :: st) M x = Rs L xs (d) 99 13 ls (.ref (t + 1) :: st) M x := Rs_when (qx_kd_obj (k := 4) (by decide) hk) c99_10 rfl
theorem c99_13 : qx_code 99 13 = some (13, .iload_n 1, 14, 0, 0, 0) := by decide +kernel
theorem s99_13 {L : Nat} {xs : Nat → Int32} {d x : Nat} {M : qxM} {st : List Value} {a0 a2 : Option Value} {z : Int32} : Rs L xs (d) 99 13 [a0, some (.int z), a2] st M x = Rs L xs (d) 99 14 [a0, some (.int z), a2] (.int z :: st) M x := Rs_next c99_13 rfl
theorem c99_14 : qx_code 99 14 = some (14, .invokevirtual 154, 17, 39, 2, 789) := by decide +kernel
theorem s99_14 {L : Nat} {xs : Nat → Int32} {d x : Nat} {M : qxM} {st : List Value} {ls : qxL} {t : Nat} {z0 : Int32} (hk : qx_kd t = 12) (hs : st.length ≤ 4) : Rs L xs (d + 1) 99 14 ls (.int z0 :: .ref t :: st) M x = (Rs L xs d 39 0 [some (.ref t), some (.int z0)] [] M 0).bind (qx_kn L xs (d + 1) 99 14 17 39 ls st x) := by
  have h1 : qx_act L xs (qx_rt 99) (14, .invokevirtual 154, 17, 39, 2, 789) ls (.int z0 :: .ref t :: st) M = if 2 ≤ (.int z0 :: .ref t :: st).length ∧ st.length ≤ 4 then some (.inr (.inr (.inr (39, [.ref t, .int z0], st)))) else none := rfl
  rw [if_pos ⟨by simp [List.length_cons]; try omega, hs⟩] at h1
  have h2 := qx_kd_obj (k := 2) (by decide) hk
  exact Rs_call c99_14 h1 (by rw [show qx_args 39 [.ref t, .int z0] = decide (qx_sh t = some (.inl 2)) from rfl]; exact decide_eq_true h2)
theorem c99_17 : qx_code 99 17 = some (17, .iload_n 2, 18, 0, 0, 0) := by decide +kernel
theorem s99_17 {L : Nat} {xs : Nat → Int32} {d x : Nat} {M : qxM} {st : List Value} {a0 a1 : Option Value} {z : Int32} : Rs L xs (d) 99 17 [a0, a1, some (.int z)] st M x = Rs L xs (d) 99 18 [a0, a1, some (.int z)] (.int z :: st) M x := Rs_next c99_17 rfl
theorem c99_18 : qx_code 99 18 = some (18, .invokestatic 166, 21, 170, 2, 803) := by decide +kernel
theorem s99_18 {L : Nat} {xs : Nat → Int32} {d x : Nat} {M : qxM} {st : List Value} {ls : qxL} {z0 : Int32} {z1 : Int32} (hs : st.length ≤ 4) : Rs L xs (d + 1) 99 18 ls (.int z1 :: .int z0 :: st) M x = (Rs L xs d 170 0 [some (.int z0), some (.int z1)] [] M 0).bind (qx_kn L xs (d + 1) 99 18 21 170 ls st x) := by
  have h1 : qx_act L xs (qx_rt 99) (18, .invokestatic 166, 21, 170, 2, 803) ls (.int z1 :: .int z0 :: st) M = if 2 ≤ (.int z1 :: .int z0 :: st).length ∧ st.length ≤ 4 then some (.inr (.inr (.inr (170, [.int z0, .int z1], st)))) else none := rfl
  rw [if_pos ⟨by simp [List.length_cons]; try omega, hs⟩] at h1
  exact Rs_call c99_18 h1 rfl
theorem c99_21 : qx_code 99 21 = some (21, .ireturn, 22, 0, 0, 0) := by decide +kernel
theorem s99_21 {L : Nat} {xs : Nat → Int32} {d x : Nat} {M : qxM} {ls : qxL} {z : Int32} (h01 : z = 0 ∨ z = 1) : Rs L xs (d) 99 21 ls [.int z] M x = some (.inl (some (.int z)), M, x) := Rs_retw h01 c99_21 rfl
theorem c100_0 : qx_code 100 0 = some (0, .aload_n 0, 1, 0, 0, 0) := by decide +kernel
theorem s100_0 {L : Nat} {xs : Nat → Int32} {d x : Nat} {M : qxM} {st : List Value} {a1 a2 a3 a4 a5 : Option Value} {z : Nat} : Rs L xs (d) 100 0 [some (.ref z), a1, a2, a3, a4, a5] st M x = Rs L xs (d) 100 1 [some (.ref z), a1, a2, a3, a4, a5] (.ref z :: st) M x := Rs_next c100_0 rfl
theorem c100_1 : qx_code 100 1 = some (1, .iload_n 1, 2, 0, 0, 0) := by decide +kernel
theorem s100_1 {L : Nat} {xs : Nat → Int32} {d x : Nat} {M : qxM} {st : List Value} {a0 a2 a3 a4 a5 : Option Value} {z : Int32} : Rs L xs (d) 100 1 [a0, some (.int z), a2, a3, a4, a5] st M x = Rs L xs (d) 100 2 [a0, some (.int z), a2, a3, a4, a5] (.int z :: st) M x := Rs_next c100_1 rfl
theorem c100_2 : qx_code 100 2 = some (2, .invokevirtual 148, 5, 160, 2, 780) := by decide +kernel
theorem s100_2 {L : Nat} {xs : Nat → Int32} {d x : Nat} {M : qxM} {st : List Value} {ls : qxL} {t : Nat} {z0 : Int32} (hk : qx_kd t = 17) (hs : st.length ≤ 4) : Rs L xs (d + 1) 100 2 ls (.int z0 :: .ref t :: st) M x = (Rs L xs d 160 0 [some (.ref t), some (.int z0)] [] M 0).bind (qx_kn L xs (d + 1) 100 2 5 160 ls st x) := by
  have h1 : qx_act L xs (qx_rt 100) (2, .invokevirtual 148, 5, 160, 2, 780) ls (.int z0 :: .ref t :: st) M = if 2 ≤ (.int z0 :: .ref t :: st).length ∧ st.length ≤ 4 then some (.inr (.inr (.inr (160, [.ref t, .int z0], st)))) else none := rfl
  rw [if_pos ⟨by simp [List.length_cons]; try omega, hs⟩] at h1
  have h2 := qx_kd_obj (k := 7) (by decide) hk
  exact Rs_call c100_2 h1 (by rw [show qx_args 160 [.ref t, .int z0] = decide (qx_sh t = some (.inl 7)) from rfl]; exact decide_eq_true h2)
theorem c100_5 : qx_code 100 5 = some (5, .aload_n 0, 6, 0, 0, 0) := by decide +kernel
theorem s100_5 {L : Nat} {xs : Nat → Int32} {d x : Nat} {M : qxM} {st : List Value} {a1 a2 a3 a4 a5 : Option Value} {z : Nat} : Rs L xs (d) 100 5 [some (.ref z), a1, a2, a3, a4, a5] st M x = Rs L xs (d) 100 6 [some (.ref z), a1, a2, a3, a4, a5] (.ref z :: st) M x := Rs_next c100_5 rfl
theorem c100_6 : qx_code 100 6 = some (6, .getfield 33, 9, 7, 3, 384) := by decide +kernel
theorem s100_6 {L : Nat} {xs : Nat → Int32} {d x : Nat} {M : qxM} {st : List Value} {ls : qxL} {t : Nat} (hk : qx_kd t = 17) : Rs L xs (d) 100 6 ls (.ref t :: st) M x = Rs L xs (d) 100 9 ls (.ref (t + 90) :: st) M x := Rs_when (qx_kd_obj (k := 7) (by decide) hk) c100_6 rfl
theorem c100_9 : qx_code 100 9 = some (9, .getfield 93, 12, 4, 0, 356) := by decide +kernel
theorem s100_9 {L : Nat} {xs : Nat → Int32} {d x : Nat} {M : qxM} {st : List Value} {ls : qxL} {t : Nat} (hk : qx_kd t = 14) : Rs L xs (d) 100 9 ls (.ref t :: st) M x = Rs L xs (d) 100 12 ls (.ref (t + 1) :: st) M x := Rs_when (qx_kd_obj (k := 4) (by decide) hk) c100_9 rfl
theorem c100_12 : qx_code 100 12 = some (12, .iload_n 1, 13, 0, 0, 0) := by decide +kernel
theorem s100_12 {L : Nat} {xs : Nat → Int32} {d x : Nat} {M : qxM} {st : List Value} {a0 a2 a3 a4 a5 : Option Value} {z : Int32} : Rs L xs (d) 100 12 [a0, some (.int z), a2, a3, a4, a5] st M x = Rs L xs (d) 100 13 [a0, some (.int z), a2, a3, a4, a5] (.int z :: st) M x := Rs_next c100_12 rfl
theorem c100_13 : qx_code 100 13 = some (13, .invokevirtual 157, 16, 42, 2, 790) := by decide +kernel
theorem s100_13 {L : Nat} {xs : Nat → Int32} {d x : Nat} {M : qxM} {st : List Value} {ls : qxL} {t : Nat} {z0 : Int32} (hk : qx_kd t = 12) (hs : st.length ≤ 4) : Rs L xs (d + 1) 100 13 ls (.int z0 :: .ref t :: st) M x = (Rs L xs d 42 0 [some (.ref t), some (.int z0)] [] M 0).bind (qx_kn L xs (d + 1) 100 13 16 42 ls st x) := by
  have h1 : qx_act L xs (qx_rt 100) (13, .invokevirtual 157, 16, 42, 2, 790) ls (.int z0 :: .ref t :: st) M = if 2 ≤ (.int z0 :: .ref t :: st).length ∧ st.length ≤ 4 then some (.inr (.inr (.inr (42, [.ref t, .int z0], st)))) else none := rfl
  rw [if_pos ⟨by simp [List.length_cons]; try omega, hs⟩] at h1
  have h2 := qx_kd_obj (k := 2) (by decide) hk
  exact Rs_call c100_13 h1 (by rw [show qx_args 42 [.ref t, .int z0] = decide (qx_sh t = some (.inl 2)) from rfl]; exact decide_eq_true h2)
theorem c100_16 : qx_code 100 16 = some (16, .istore_n 3, 17, 0, 0, 0) := by decide +kernel
theorem s100_16i {L : Nat} {xs : Nat → Int32} {d x : Nat} {M : qxM} {st : List Value} {a0 a1 a3 a4 a5 : Option Value} {z : Int32} {y : Int32} : Rs L xs (d) 100 16 [a0, a1, some (.int y), a3, a4, a5] (.int z :: st) M x = Rs L xs (d) 100 17 [a0, a1, some (.int y), some (.int z), a4, a5] st M x := Rs_next c100_16 rfl
theorem s100_16r {L : Nat} {xs : Nat → Int32} {d x : Nat} {M : qxM} {st : List Value} {a0 a1 a3 a4 a5 : Option Value} {z : Int32} {y : Nat} : Rs L xs (d) 100 16 [a0, a1, some (.ref y), a3, a4, a5] (.int z :: st) M x = Rs L xs (d) 100 17 [a0, a1, some (.ref y), some (.int z), a4, a5] st M x := Rs_next c100_16 rfl
theorem s100_16n {L : Nat} {xs : Nat → Int32} {d x : Nat} {M : qxM} {st : List Value} {a0 a1 a3 a4 a5 : Option Value} {z : Int32} : Rs L xs (d) 100 16 [a0, a1, none, a3, a4, a5] (.int z :: st) M x = Rs L xs (d) 100 17 [a0, a1, none, some (.int z), a4, a5] st M x := Rs_next c100_16 rfl
theorem c100_17 : qx_code 100 17 = some (17, .iconst 0, 18, 0, 0, 0) := by decide +kernel
theorem s100_17 {L : Nat} {xs : Nat → Int32} {d x : Nat} {M : qxM} {st : List Value} {ls : qxL} : Rs L xs (d) 100 17 ls st M x = Rs L xs (d) 100 18 ls (.int (nI 0) :: st) M x := Rs_next c100_17 rfl
theorem c100_18 : qx_code 100 18 = some (18, .istore 4, 20, 0, 0, 0) := by decide +kernel
theorem s100_18i {L : Nat} {xs : Nat → Int32} {d x : Nat} {M : qxM} {st : List Value} {a0 a1 a2 a4 a5 : Option Value} {z : Int32} {y : Int32} : Rs L xs (d) 100 18 [a0, a1, a2, some (.int y), a4, a5] (.int z :: st) M x = Rs L xs (d) 100 20 [a0, a1, a2, some (.int y), some (.int z), a5] st M x := Rs_next c100_18 rfl
theorem s100_18r {L : Nat} {xs : Nat → Int32} {d x : Nat} {M : qxM} {st : List Value} {a0 a1 a2 a4 a5 : Option Value} {z : Int32} {y : Nat} : Rs L xs (d) 100 18 [a0, a1, a2, some (.ref y), a4, a5] (.int z :: st) M x = Rs L xs (d) 100 20 [a0, a1, a2, some (.ref y), some (.int z), a5] st M x := Rs_next c100_18 rfl
theorem s100_18n {L : Nat} {xs : Nat → Int32} {d x : Nat} {M : qxM} {st : List Value} {a0 a1 a2 a4 a5 : Option Value} {z : Int32} : Rs L xs (d) 100 18 [a0, a1, a2, none, a4, a5] (.int z :: st) M x = Rs L xs (d) 100 20 [a0, a1, a2, none, some (.int z), a5] st M x := Rs_next c100_18 rfl
theorem c100_20 : qx_code 100 20 = some (20, .iconst 0, 21, 0, 0, 0) := by decide +kernel
theorem s100_20 {L : Nat} {xs : Nat → Int32} {d x : Nat} {M : qxM} {st : List Value} {ls : qxL} : Rs L xs (d) 100 20 ls st M x = Rs L xs (d) 100 21 ls (.int (nI 0) :: st) M x := Rs_next c100_20 rfl
theorem c100_21 : qx_code 100 21 = some (21, .istore 5, 23, 0, 0, 0) := by decide +kernel
theorem s100_21i {L : Nat} {xs : Nat → Int32} {d x : Nat} {M : qxM} {st : List Value} {a0 a1 a2 a3 a5 : Option Value} {z : Int32} {y : Int32} : Rs L xs (d) 100 21 [a0, a1, a2, a3, some (.int y), a5] (.int z :: st) M x = Rs L xs (d) 100 23 [a0, a1, a2, a3, some (.int y), some (.int z)] st M x := Rs_next c100_21 rfl
theorem s100_21r {L : Nat} {xs : Nat → Int32} {d x : Nat} {M : qxM} {st : List Value} {a0 a1 a2 a3 a5 : Option Value} {z : Int32} {y : Nat} : Rs L xs (d) 100 21 [a0, a1, a2, a3, some (.ref y), a5] (.int z :: st) M x = Rs L xs (d) 100 23 [a0, a1, a2, a3, some (.ref y), some (.int z)] st M x := Rs_next c100_21 rfl
theorem s100_21n {L : Nat} {xs : Nat → Int32} {d x : Nat} {M : qxM} {st : List Value} {a0 a1 a2 a3 a5 : Option Value} {z : Int32} : Rs L xs (d) 100 21 [a0, a1, a2, a3, none, a5] (.int z :: st) M x = Rs L xs (d) 100 23 [a0, a1, a2, a3, none, some (.int z)] st M x := Rs_next c100_21 rfl
theorem c100_23 : qx_code 100 23 = some (23, .iload 5, 25, 0, 0, 0) := by decide +kernel
theorem s100_23 {L : Nat} {xs : Nat → Int32} {d x : Nat} {M : qxM} {st : List Value} {a0 a1 a2 a3 a4 : Option Value} {z : Int32} : Rs L xs (d) 100 23 [a0, a1, a2, a3, a4, some (.int z)] st M x = Rs L xs (d) 100 25 [a0, a1, a2, a3, a4, some (.int z)] (.int z :: st) M x := Rs_next c100_23 rfl
theorem c100_25 : qx_code 100 25 = some (25, .bipush 14, 27, 0, 0, 0) := by decide +kernel
theorem s100_25 {L : Nat} {xs : Nat → Int32} {d x : Nat} {M : qxM} {st : List Value} {ls : qxL} : Rs L xs (d) 100 25 ls st M x = Rs L xs (d) 100 27 ls (.int (nI 14) :: st) M x := Rs_next c100_25 rfl
theorem c100_27 : qx_code 100 27 = some (27, .if_icmp .ge 30, 30, 57, 0, 0) := by decide +kernel
theorem s100_27 {L : Nat} {xs : Nat → Int32} {d x : Nat} {M : qxM} {st : List Value} {ls : qxL} {z y : Int32} : Rs L xs (d) 100 27 ls (.int y :: .int z :: st) M x = if y ≤ z then Rs L xs (d) 100 57 ls st M x else Rs L xs (d) 100 30 ls st M x := Rs_ite c100_27 rfl
theorem c100_30 : qx_code 100 30 = some (30, .iload_n 3, 31, 0, 0, 0) := by decide +kernel
theorem s100_30 {L : Nat} {xs : Nat → Int32} {d x : Nat} {M : qxM} {st : List Value} {a0 a1 a2 a4 a5 : Option Value} {z : Int32} : Rs L xs (d) 100 30 [a0, a1, a2, some (.int z), a4, a5] st M x = Rs L xs (d) 100 31 [a0, a1, a2, some (.int z), a4, a5] (.int z :: st) M x := Rs_next c100_30 rfl
theorem c100_31 : qx_code 100 31 = some (31, .iload 5, 33, 0, 0, 0) := by decide +kernel
theorem s100_31 {L : Nat} {xs : Nat → Int32} {d x : Nat} {M : qxM} {st : List Value} {a0 a1 a2 a3 a4 : Option Value} {z : Int32} : Rs L xs (d) 100 31 [a0, a1, a2, a3, a4, some (.int z)] st M x = Rs L xs (d) 100 33 [a0, a1, a2, a3, a4, some (.int z)] (.int z :: st) M x := Rs_next c100_31 rfl
theorem c100_33 : qx_code 100 33 = some (33, .invokestatic 166, 36, 170, 2, 803) := by decide +kernel
theorem s100_33 {L : Nat} {xs : Nat → Int32} {d x : Nat} {M : qxM} {st : List Value} {ls : qxL} {z0 : Int32} {z1 : Int32} (hs : st.length ≤ 4) : Rs L xs (d + 1) 100 33 ls (.int z1 :: .int z0 :: st) M x = (Rs L xs d 170 0 [some (.int z0), some (.int z1)] [] M 0).bind (qx_kn L xs (d + 1) 100 33 36 170 ls st x) := by
  have h1 : qx_act L xs (qx_rt 100) (33, .invokestatic 166, 36, 170, 2, 803) ls (.int z1 :: .int z0 :: st) M = if 2 ≤ (.int z1 :: .int z0 :: st).length ∧ st.length ≤ 4 then some (.inr (.inr (.inr (170, [.int z0, .int z1], st)))) else none := rfl
  rw [if_pos ⟨by simp [List.length_cons]; try omega, hs⟩] at h1
  exact Rs_call c100_33 h1 rfl
theorem c100_36 : qx_code 100 36 = some (36, .ifCond .eq 15, 39, 51, 0, 0) := by decide +kernel
theorem s100_36 {L : Nat} {xs : Nat → Int32} {d x : Nat} {M : qxM} {st : List Value} {ls : qxL} {z : Int32} : Rs L xs (d) 100 36 ls (.int z :: st) M x = if z = 0 then Rs L xs (d) 100 51 ls st M x else Rs L xs (d) 100 39 ls st M x := Rs_ite c100_36 rfl
theorem c100_39 : qx_code 100 39 = some (39, .iload 4, 41, 0, 0, 0) := by decide +kernel
theorem s100_39 {L : Nat} {xs : Nat → Int32} {d x : Nat} {M : qxM} {st : List Value} {a0 a1 a2 a3 a5 : Option Value} {z : Int32} : Rs L xs (d) 100 39 [a0, a1, a2, a3, some (.int z), a5] st M x = Rs L xs (d) 100 41 [a0, a1, a2, a3, some (.int z), a5] (.int z :: st) M x := Rs_next c100_39 rfl
theorem c100_41 : qx_code 100 41 = some (41, .iload_n 2, 42, 0, 0, 0) := by decide +kernel
theorem s100_41 {L : Nat} {xs : Nat → Int32} {d x : Nat} {M : qxM} {st : List Value} {a0 a1 a3 a4 a5 : Option Value} {z : Int32} : Rs L xs (d) 100 41 [a0, a1, some (.int z), a3, a4, a5] st M x = Rs L xs (d) 100 42 [a0, a1, some (.int z), a3, a4, a5] (.int z :: st) M x := Rs_next c100_41 rfl
theorem c100_42 : qx_code 100 42 = some (42, .if_icmp .ne 6, 45, 48, 0, 0) := by decide +kernel
theorem s100_42 {L : Nat} {xs : Nat → Int32} {d x : Nat} {M : qxM} {st : List Value} {ls : qxL} {z y : Int32} : Rs L xs (d) 100 42 ls (.int y :: .int z :: st) M x = if z = y then Rs L xs (d) 100 45 ls st M x else Rs L xs (d) 100 48 ls st M x := Rs_ite c100_42 rfl
theorem c100_45 : qx_code 100 45 = some (45, .iload 5, 47, 0, 0, 0) := by decide +kernel
theorem s100_45 {L : Nat} {xs : Nat → Int32} {d x : Nat} {M : qxM} {st : List Value} {a0 a1 a2 a3 a4 : Option Value} {z : Int32} : Rs L xs (d) 100 45 [a0, a1, a2, a3, a4, some (.int z)] st M x = Rs L xs (d) 100 47 [a0, a1, a2, a3, a4, some (.int z)] (.int z :: st) M x := Rs_next c100_45 rfl
theorem c100_47 : qx_code 100 47 = some (47, .ireturn, 48, 0, 0, 0) := by decide +kernel
theorem s100_47 {L : Nat} {xs : Nat → Int32} {d x : Nat} {M : qxM} {ls : qxL} {z : Int32} : Rs L xs (d) 100 47 ls [.int z] M x = some (.inl (some (.int z)), M, x) := Rs_ret c100_47 rfl
theorem c100_48 : qx_code 100 48 = some (48, .iinc 4 1, 51, 0, 0, 0) := by decide +kernel
theorem s100_48i {L : Nat} {xs : Nat → Int32} {d x : Nat} {M : qxM} {st : List Value} {a0 a1 a2 a5 : Option Value} {z : Int32} {y : Int32} : Rs L xs (d) 100 48 [a0, a1, a2, some (.int y), some (.int z), a5] st M x = Rs L xs (d) 100 51 [a0, a1, a2, some (.int y), some (.int (z + (nI 1))), a5] st M x := Rs_next c100_48 rfl
theorem s100_48r {L : Nat} {xs : Nat → Int32} {d x : Nat} {M : qxM} {st : List Value} {a0 a1 a2 a5 : Option Value} {z : Int32} {y : Nat} : Rs L xs (d) 100 48 [a0, a1, a2, some (.ref y), some (.int z), a5] st M x = Rs L xs (d) 100 51 [a0, a1, a2, some (.ref y), some (.int (z + (nI 1))), a5] st M x := Rs_next c100_48 rfl
theorem s100_48n {L : Nat} {xs : Nat → Int32} {d x : Nat} {M : qxM} {st : List Value} {a0 a1 a2 a5 : Option Value} {z : Int32} : Rs L xs (d) 100 48 [a0, a1, a2, none, some (.int z), a5] st M x = Rs L xs (d) 100 51 [a0, a1, a2, none, some (.int (z + (nI 1))), a5] st M x := Rs_next c100_48 rfl
theorem c100_51 : qx_code 100 51 = some (51, .iinc 5 1, 54, 0, 0, 0) := by decide +kernel
theorem s100_51i {L : Nat} {xs : Nat → Int32} {d x : Nat} {M : qxM} {st : List Value} {a0 a1 a2 a3 : Option Value} {z : Int32} {y : Int32} : Rs L xs (d) 100 51 [a0, a1, a2, a3, some (.int y), some (.int z)] st M x = Rs L xs (d) 100 54 [a0, a1, a2, a3, some (.int y), some (.int (z + (nI 1)))] st M x := Rs_next c100_51 rfl
theorem s100_51r {L : Nat} {xs : Nat → Int32} {d x : Nat} {M : qxM} {st : List Value} {a0 a1 a2 a3 : Option Value} {z : Int32} {y : Nat} : Rs L xs (d) 100 51 [a0, a1, a2, a3, some (.ref y), some (.int z)] st M x = Rs L xs (d) 100 54 [a0, a1, a2, a3, some (.ref y), some (.int (z + (nI 1)))] st M x := Rs_next c100_51 rfl
theorem s100_51n {L : Nat} {xs : Nat → Int32} {d x : Nat} {M : qxM} {st : List Value} {a0 a1 a2 a3 : Option Value} {z : Int32} : Rs L xs (d) 100 51 [a0, a1, a2, a3, none, some (.int z)] st M x = Rs L xs (d) 100 54 [a0, a1, a2, a3, none, some (.int (z + (nI 1)))] st M x := Rs_next c100_51 rfl
theorem c100_54 : qx_code 100 54 = some (54, .goto (-31), 57, 23, 0, 0) := by decide +kernel
theorem s100_54 {L : Nat} {xs : Nat → Int32} {d x : Nat} {M : qxM} {st : List Value} {ls : qxL} : Rs L xs (d) 100 54 ls st M x = Rs L xs (d) 100 23 ls st M x := Rs_next c100_54 rfl
theorem c100_57 : qx_code 100 57 = some (57, .iconst (-1), 58, 0, 0, 0) := by decide +kernel
theorem s100_57 {L : Nat} {xs : Nat → Int32} {d x : Nat} {M : qxM} {st : List Value} {ls : qxL} : Rs L xs (d) 100 57 ls st M x = Rs L xs (d) 100 58 ls (.int (-1) :: st) M x := Rs_next c100_57 rfl
theorem c100_58 : qx_code 100 58 = some (58, .ireturn, 59, 0, 0, 0) := by decide +kernel
theorem s100_58 {L : Nat} {xs : Nat → Int32} {d x : Nat} {M : qxM} {ls : qxL} {z : Int32} : Rs L xs (d) 100 58 ls [.int z] M x = some (.inl (some (.int z)), M, x) := Rs_ret c100_58 rfl
theorem c101_0 : qx_code 101 0 = some (0, .aload_n 0, 1, 0, 0, 0) := by decide +kernel
theorem s101_0 {L : Nat} {xs : Nat → Int32} {d x : Nat} {M : qxM} {st : List Value} {a1 a2 : Option Value} {z : Nat} : Rs L xs (d) 101 0 [some (.ref z), a1, a2] st M x = Rs L xs (d) 101 1 [some (.ref z), a1, a2] (.ref z :: st) M x := Rs_next c101_0 rfl
theorem c101_1 : qx_code 101 1 = some (1, .iload_n 1, 2, 0, 0, 0) := by decide +kernel
theorem s101_1 {L : Nat} {xs : Nat → Int32} {d x : Nat} {M : qxM} {st : List Value} {a0 a2 : Option Value} {z : Int32} : Rs L xs (d) 101 1 [a0, some (.int z), a2] st M x = Rs L xs (d) 101 2 [a0, some (.int z), a2] (.int z :: st) M x := Rs_next c101_1 rfl
theorem c101_2 : qx_code 101 2 = some (2, .iload_n 2, 3, 0, 0, 0) := by decide +kernel
theorem s101_2 {L : Nat} {xs : Nat → Int32} {d x : Nat} {M : qxM} {st : List Value} {a0 a1 : Option Value} {z : Int32} : Rs L xs (d) 101 2 [a0, a1, some (.int z)] st M x = Rs L xs (d) 101 3 [a0, a1, some (.int z)] (.int z :: st) M x := Rs_next c101_2 rfl
theorem c101_3 : qx_code 101 3 = some (3, .invokevirtual 163, 6, 161, 3, 799) := by decide +kernel
theorem s101_3 {L : Nat} {xs : Nat → Int32} {d x : Nat} {M : qxM} {st : List Value} {ls : qxL} {t : Nat} {z0 : Int32} {z1 : Int32} (hk : qx_kd t = 17) (hs : st.length ≤ 4) : Rs L xs (d + 1) 101 3 ls (.int z1 :: .int z0 :: .ref t :: st) M x = (Rs L xs d 161 0 [some (.ref t), some (.int z0), some (.int z1)] [] M 0).bind (qx_kn L xs (d + 1) 101 3 6 161 ls st x) := by
  have h1 : qx_act L xs (qx_rt 101) (3, .invokevirtual 163, 6, 161, 3, 799) ls (.int z1 :: .int z0 :: .ref t :: st) M = if 3 ≤ (.int z1 :: .int z0 :: .ref t :: st).length ∧ st.length ≤ 4 then some (.inr (.inr (.inr (161, [.ref t, .int z0, .int z1], st)))) else none := rfl
  rw [if_pos ⟨by simp [List.length_cons]; try omega, hs⟩] at h1
  have h2 := qx_kd_obj (k := 7) (by decide) hk
  exact Rs_call c101_3 h1 (by rw [show qx_args 161 [.ref t, .int z0, .int z1] = decide (qx_sh t = some (.inl 7)) from rfl]; exact decide_eq_true h2)
theorem c101_6 : qx_code 101 6 = some (6, .aload_n 0, 7, 0, 0, 0) := by decide +kernel
theorem s101_6 {L : Nat} {xs : Nat → Int32} {d x : Nat} {M : qxM} {st : List Value} {a1 a2 : Option Value} {z : Nat} : Rs L xs (d) 101 6 [some (.ref z), a1, a2] st M x = Rs L xs (d) 101 7 [some (.ref z), a1, a2] (.ref z :: st) M x := Rs_next c101_6 rfl
theorem c101_7 : qx_code 101 7 = some (7, .iload_n 1, 8, 0, 0, 0) := by decide +kernel
theorem s101_7 {L : Nat} {xs : Nat → Int32} {d x : Nat} {M : qxM} {st : List Value} {a0 a2 : Option Value} {z : Int32} : Rs L xs (d) 101 7 [a0, some (.int z), a2] st M x = Rs L xs (d) 101 8 [a0, some (.int z), a2] (.int z :: st) M x := Rs_next c101_7 rfl
theorem c101_8 : qx_code 101 8 = some (8, .iload_n 2, 9, 0, 0, 0) := by decide +kernel
theorem s101_8 {L : Nat} {xs : Nat → Int32} {d x : Nat} {M : qxM} {st : List Value} {a0 a1 : Option Value} {z : Int32} : Rs L xs (d) 101 8 [a0, a1, some (.int z)] st M x = Rs L xs (d) 101 9 [a0, a1, some (.int z)] (.int z :: st) M x := Rs_next c101_8 rfl
theorem c101_9 : qx_code 101 9 = some (9, .invokevirtual 170, 12, 102, 3, 818) := by decide +kernel
theorem s101_9 {L : Nat} {xs : Nat → Int32} {d x : Nat} {M : qxM} {st : List Value} {ls : qxL} {t : Nat} {z0 : Int32} {z1 : Int32} (hk : qx_kd t = 17) (hs : st.length ≤ 4) : Rs L xs (d + 1) 101 9 ls (.int z1 :: .int z0 :: .ref t :: st) M x = (Rs L xs d 102 0 [some (.ref t), some (.int z0), some (.int z1), none] [] M 0).bind (qx_kn L xs (d + 1) 101 9 12 102 ls st x) := by
  have h1 : qx_act L xs (qx_rt 101) (9, .invokevirtual 170, 12, 102, 3, 818) ls (.int z1 :: .int z0 :: .ref t :: st) M = if 3 ≤ (.int z1 :: .int z0 :: .ref t :: st).length ∧ st.length ≤ 4 then some (.inr (.inr (.inr (102, [.ref t, .int z0, .int z1], st)))) else none := rfl
  rw [if_pos ⟨by simp [List.length_cons]; try omega, hs⟩] at h1
  have h2 := qx_kd_obj (k := 7) (by decide) hk
  exact Rs_call c101_9 h1 (by rw [show qx_args 102 [.ref t, .int z0, .int z1] = decide (qx_sh t = some (.inl 7)) from rfl]; exact decide_eq_true h2)
theorem c101_12 : qx_code 101 12 = some (12, .ireturn, 13, 0, 0, 0) := by decide +kernel
theorem s101_12 {L : Nat} {xs : Nat → Int32} {d x : Nat} {M : qxM} {ls : qxL} {z : Int32} : Rs L xs (d) 101 12 ls [.int z] M x = some (.inl (some (.int z)), M, x) := Rs_ret c101_12 rfl
theorem c102_0 : qx_code 102 0 = some (0, .aload_n 0, 1, 0, 0, 0) := by decide +kernel
theorem s102_0 {L : Nat} {xs : Nat → Int32} {d x : Nat} {M : qxM} {st : List Value} {a1 a2 a3 : Option Value} {z : Nat} : Rs L xs (d) 102 0 [some (.ref z), a1, a2, a3] st M x = Rs L xs (d) 102 1 [some (.ref z), a1, a2, a3] (.ref z :: st) M x := Rs_next c102_0 rfl
theorem c102_1 : qx_code 102 1 = some (1, .getfield 33, 4, 7, 3, 384) := by decide +kernel
theorem s102_1 {L : Nat} {xs : Nat → Int32} {d x : Nat} {M : qxM} {st : List Value} {ls : qxL} {t : Nat} (hk : qx_kd t = 17) : Rs L xs (d) 102 1 ls (.ref t :: st) M x = Rs L xs (d) 102 4 ls (.ref (t + 90) :: st) M x := Rs_when (qx_kd_obj (k := 7) (by decide) hk) c102_1 rfl
theorem c102_4 : qx_code 102 4 = some (4, .getfield 93, 7, 4, 0, 356) := by decide +kernel
theorem s102_4 {L : Nat} {xs : Nat → Int32} {d x : Nat} {M : qxM} {st : List Value} {ls : qxL} {t : Nat} (hk : qx_kd t = 14) : Rs L xs (d) 102 4 ls (.ref t :: st) M x = Rs L xs (d) 102 7 ls (.ref (t + 1) :: st) M x := Rs_when (qx_kd_obj (k := 4) (by decide) hk) c102_4 rfl
theorem c102_7 : qx_code 102 7 = some (7, .astore_n 3, 8, 0, 0, 0) := by decide +kernel
theorem s102_7i {L : Nat} {xs : Nat → Int32} {d x : Nat} {M : qxM} {st : List Value} {a0 a1 a3 : Option Value} {z : Nat} {y : Int32} : Rs L xs (d) 102 7 [a0, a1, some (.int y), a3] (.ref z :: st) M x = Rs L xs (d) 102 8 [a0, a1, some (.int y), some (.ref z)] st M x := Rs_next c102_7 rfl
theorem s102_7r {L : Nat} {xs : Nat → Int32} {d x : Nat} {M : qxM} {st : List Value} {a0 a1 a3 : Option Value} {z : Nat} {y : Nat} : Rs L xs (d) 102 7 [a0, a1, some (.ref y), a3] (.ref z :: st) M x = Rs L xs (d) 102 8 [a0, a1, some (.ref y), some (.ref z)] st M x := Rs_next c102_7 rfl
theorem s102_7n {L : Nat} {xs : Nat → Int32} {d x : Nat} {M : qxM} {st : List Value} {a0 a1 a3 : Option Value} {z : Nat} : Rs L xs (d) 102 7 [a0, a1, none, a3] (.ref z :: st) M x = Rs L xs (d) 102 8 [a0, a1, none, some (.ref z)] st M x := Rs_next c102_7 rfl
theorem c102_8 : qx_code 102 8 = some (8, .iload_n 1, 9, 0, 0, 0) := by decide +kernel
theorem s102_8 {L : Nat} {xs : Nat → Int32} {d x : Nat} {M : qxM} {st : List Value} {a0 a2 a3 : Option Value} {z : Int32} : Rs L xs (d) 102 8 [a0, some (.int z), a2, a3] st M x = Rs L xs (d) 102 9 [a0, some (.int z), a2, a3] (.int z :: st) M x := Rs_next c102_8 rfl
theorem c102_9 : qx_code 102 9 = some (9, .iload_n 2, 10, 0, 0, 0) := by decide +kernel
theorem s102_9 {L : Nat} {xs : Nat → Int32} {d x : Nat} {M : qxM} {st : List Value} {a0 a1 a3 : Option Value} {z : Int32} : Rs L xs (d) 102 9 [a0, a1, some (.int z), a3] st M x = Rs L xs (d) 102 10 [a0, a1, some (.int z), a3] (.int z :: st) M x := Rs_next c102_9 rfl
theorem c102_10 : qx_code 102 10 = some (10, .if_icmp .ne 5, 13, 15, 0, 0) := by decide +kernel
theorem s102_10 {L : Nat} {xs : Nat → Int32} {d x : Nat} {M : qxM} {st : List Value} {ls : qxL} {z y : Int32} : Rs L xs (d) 102 10 ls (.int y :: .int z :: st) M x = if z = y then Rs L xs (d) 102 13 ls st M x else Rs L xs (d) 102 15 ls st M x := Rs_ite c102_10 rfl
theorem c102_13 : qx_code 102 13 = some (13, .iconst 1, 14, 0, 0, 0) := by decide +kernel
theorem s102_13 {L : Nat} {xs : Nat → Int32} {d x : Nat} {M : qxM} {st : List Value} {ls : qxL} : Rs L xs (d) 102 13 ls st M x = Rs L xs (d) 102 14 ls (.int (nI 1) :: st) M x := Rs_next c102_13 rfl
theorem c102_14 : qx_code 102 14 = some (14, .ireturn, 15, 0, 0, 0) := by decide +kernel
theorem s102_14 {L : Nat} {xs : Nat → Int32} {d x : Nat} {M : qxM} {ls : qxL} {z : Int32} : Rs L xs (d) 102 14 ls [.int z] M x = some (.inl (some (.int z)), M, x) := Rs_ret c102_14 rfl
theorem c102_15 : qx_code 102 15 = some (15, .aload_n 3, 16, 0, 0, 0) := by decide +kernel
theorem s102_15 {L : Nat} {xs : Nat → Int32} {d x : Nat} {M : qxM} {st : List Value} {a0 a1 a2 : Option Value} {z : Nat} : Rs L xs (d) 102 15 [a0, a1, a2, some (.ref z)] st M x = Rs L xs (d) 102 16 [a0, a1, a2, some (.ref z)] (.ref z :: st) M x := Rs_next c102_15 rfl
theorem c102_16 : qx_code 102 16 = some (16, .iload_n 1, 17, 0, 0, 0) := by decide +kernel
theorem s102_16 {L : Nat} {xs : Nat → Int32} {d x : Nat} {M : qxM} {st : List Value} {a0 a2 a3 : Option Value} {z : Int32} : Rs L xs (d) 102 16 [a0, some (.int z), a2, a3] st M x = Rs L xs (d) 102 17 [a0, some (.int z), a2, a3] (.int z :: st) M x := Rs_next c102_16 rfl
theorem c102_17 : qx_code 102 17 = some (17, .invokevirtual 154, 20, 39, 2, 789) := by decide +kernel
theorem s102_17 {L : Nat} {xs : Nat → Int32} {d x : Nat} {M : qxM} {st : List Value} {ls : qxL} {t : Nat} {z0 : Int32} (hk : qx_kd t = 12) (hs : st.length ≤ 4) : Rs L xs (d + 1) 102 17 ls (.int z0 :: .ref t :: st) M x = (Rs L xs d 39 0 [some (.ref t), some (.int z0)] [] M 0).bind (qx_kn L xs (d + 1) 102 17 20 39 ls st x) := by
  have h1 : qx_act L xs (qx_rt 102) (17, .invokevirtual 154, 20, 39, 2, 789) ls (.int z0 :: .ref t :: st) M = if 2 ≤ (.int z0 :: .ref t :: st).length ∧ st.length ≤ 4 then some (.inr (.inr (.inr (39, [.ref t, .int z0], st)))) else none := rfl
  rw [if_pos ⟨by simp [List.length_cons]; try omega, hs⟩] at h1
  have h2 := qx_kd_obj (k := 2) (by decide) hk
  exact Rs_call c102_17 h1 (by rw [show qx_args 39 [.ref t, .int z0] = decide (qx_sh t = some (.inl 2)) from rfl]; exact decide_eq_true h2)
theorem c102_20 : qx_code 102 20 = some (20, .iload_n 2, 21, 0, 0, 0) := by decide +kernel
theorem s102_20 {L : Nat} {xs : Nat → Int32} {d x : Nat} {M : qxM} {st : List Value} {a0 a1 a3 : Option Value} {z : Int32} : Rs L xs (d) 102 20 [a0, a1, some (.int z), a3] st M x = Rs L xs (d) 102 21 [a0, a1, some (.int z), a3] (.int z :: st) M x := Rs_next c102_20 rfl
theorem c102_21 : qx_code 102 21 = some (21, .invokestatic 166, 24, 170, 2, 803) := by decide +kernel
theorem s102_21 {L : Nat} {xs : Nat → Int32} {d x : Nat} {M : qxM} {st : List Value} {ls : qxL} {z0 : Int32} {z1 : Int32} (hs : st.length ≤ 4) : Rs L xs (d + 1) 102 21 ls (.int z1 :: .int z0 :: st) M x = (Rs L xs d 170 0 [some (.int z0), some (.int z1)] [] M 0).bind (qx_kn L xs (d + 1) 102 21 24 170 ls st x) := by
  have h1 : qx_act L xs (qx_rt 102) (21, .invokestatic 166, 24, 170, 2, 803) ls (.int z1 :: .int z0 :: st) M = if 2 ≤ (.int z1 :: .int z0 :: st).length ∧ st.length ≤ 4 then some (.inr (.inr (.inr (170, [.int z0, .int z1], st)))) else none := rfl
  rw [if_pos ⟨by simp [List.length_cons]; try omega, hs⟩] at h1
  exact Rs_call c102_21 h1 rfl
theorem c102_24 : qx_code 102 24 = some (24, .ifCond .ne 5, 27, 29, 0, 0) := by decide +kernel
theorem s102_24 {L : Nat} {xs : Nat → Int32} {d x : Nat} {M : qxM} {st : List Value} {ls : qxL} {z : Int32} : Rs L xs (d) 102 24 ls (.int z :: st) M x = if z = 0 then Rs L xs (d) 102 27 ls st M x else Rs L xs (d) 102 29 ls st M x := Rs_ite c102_24 rfl
theorem c102_27 : qx_code 102 27 = some (27, .iconst 2, 28, 0, 0, 0) := by decide +kernel
theorem s102_27 {L : Nat} {xs : Nat → Int32} {d x : Nat} {M : qxM} {st : List Value} {ls : qxL} : Rs L xs (d) 102 27 ls st M x = Rs L xs (d) 102 28 ls (.int (nI 2) :: st) M x := Rs_next c102_27 rfl
theorem c102_28 : qx_code 102 28 = some (28, .ireturn, 29, 0, 0, 0) := by decide +kernel
theorem s102_28 {L : Nat} {xs : Nat → Int32} {d x : Nat} {M : qxM} {ls : qxL} {z : Int32} : Rs L xs (d) 102 28 ls [.int z] M x = some (.inl (some (.int z)), M, x) := Rs_ret c102_28 rfl
theorem c102_29 : qx_code 102 29 = some (29, .aload_n 3, 30, 0, 0, 0) := by decide +kernel
theorem s102_29 {L : Nat} {xs : Nat → Int32} {d x : Nat} {M : qxM} {st : List Value} {a0 a1 a2 : Option Value} {z : Nat} : Rs L xs (d) 102 29 [a0, a1, a2, some (.ref z)] st M x = Rs L xs (d) 102 30 [a0, a1, a2, some (.ref z)] (.ref z :: st) M x := Rs_next c102_29 rfl
theorem c102_30 : qx_code 102 30 = some (30, .iload_n 1, 31, 0, 0, 0) := by decide +kernel
theorem s102_30 {L : Nat} {xs : Nat → Int32} {d x : Nat} {M : qxM} {st : List Value} {a0 a2 a3 : Option Value} {z : Int32} : Rs L xs (d) 102 30 [a0, some (.int z), a2, a3] st M x = Rs L xs (d) 102 31 [a0, some (.int z), a2, a3] (.int z :: st) M x := Rs_next c102_30 rfl
theorem c102_31 : qx_code 102 31 = some (31, .iload_n 2, 32, 0, 0, 0) := by decide +kernel
theorem s102_31 {L : Nat} {xs : Nat → Int32} {d x : Nat} {M : qxM} {st : List Value} {a0 a1 a3 : Option Value} {z : Int32} : Rs L xs (d) 102 31 [a0, a1, some (.int z), a3] st M x = Rs L xs (d) 102 32 [a0, a1, some (.int z), a3] (.int z :: st) M x := Rs_next c102_31 rfl
theorem c102_32 : qx_code 102 32 = some (32, .invokevirtual 174, 35, 41, 3, 822) := by decide +kernel
theorem s102_32 {L : Nat} {xs : Nat → Int32} {d x : Nat} {M : qxM} {st : List Value} {ls : qxL} {t : Nat} {z0 : Int32} {z1 : Int32} (hk : qx_kd t = 12) (hs : st.length ≤ 4) : Rs L xs (d + 1) 102 32 ls (.int z1 :: .int z0 :: .ref t :: st) M x = (Rs L xs d 41 0 [some (.ref t), some (.int z0), some (.int z1)] [] M 0).bind (qx_kn L xs (d + 1) 102 32 35 41 ls st x) := by
  have h1 : qx_act L xs (qx_rt 102) (32, .invokevirtual 174, 35, 41, 3, 822) ls (.int z1 :: .int z0 :: .ref t :: st) M = if 3 ≤ (.int z1 :: .int z0 :: .ref t :: st).length ∧ st.length ≤ 4 then some (.inr (.inr (.inr (41, [.ref t, .int z0, .int z1], st)))) else none := rfl
  rw [if_pos ⟨by simp [List.length_cons]; try omega, hs⟩] at h1
  have h2 := qx_kd_obj (k := 2) (by decide) hk
  exact Rs_call c102_32 h1 (by rw [show qx_args 41 [.ref t, .int z0, .int z1] = decide (qx_sh t = some (.inl 2)) from rfl]; exact decide_eq_true h2)
theorem c102_35 : qx_code 102 35 = some (35, .ifCond .ne 5, 38, 40, 0, 0) := by decide +kernel
theorem s102_35 {L : Nat} {xs : Nat → Int32} {d x : Nat} {M : qxM} {st : List Value} {ls : qxL} {z : Int32} : Rs L xs (d) 102 35 ls (.int z :: st) M x = if z = 0 then Rs L xs (d) 102 38 ls st M x else Rs L xs (d) 102 40 ls st M x := Rs_ite c102_35 rfl
theorem c102_38 : qx_code 102 38 = some (38, .iconst 3, 39, 0, 0, 0) := by decide +kernel
theorem s102_38 {L : Nat} {xs : Nat → Int32} {d x : Nat} {M : qxM} {st : List Value} {ls : qxL} : Rs L xs (d) 102 38 ls st M x = Rs L xs (d) 102 39 ls (.int (nI 3) :: st) M x := Rs_next c102_38 rfl
theorem c102_39 : qx_code 102 39 = some (39, .ireturn, 40, 0, 0, 0) := by decide +kernel
theorem s102_39 {L : Nat} {xs : Nat → Int32} {d x : Nat} {M : qxM} {ls : qxL} {z : Int32} : Rs L xs (d) 102 39 ls [.int z] M x = some (.inl (some (.int z)), M, x) := Rs_ret c102_39 rfl
theorem c102_40 : qx_code 102 40 = some (40, .aload_n 3, 41, 0, 0, 0) := by decide +kernel
theorem s102_40 {L : Nat} {xs : Nat → Int32} {d x : Nat} {M : qxM} {st : List Value} {a0 a1 a2 : Option Value} {z : Nat} : Rs L xs (d) 102 40 [a0, a1, a2, some (.ref z)] st M x = Rs L xs (d) 102 41 [a0, a1, a2, some (.ref z)] (.ref z :: st) M x := Rs_next c102_40 rfl
theorem c102_41 : qx_code 102 41 = some (41, .iload_n 1, 42, 0, 0, 0) := by decide +kernel
theorem s102_41 {L : Nat} {xs : Nat → Int32} {d x : Nat} {M : qxM} {st : List Value} {a0 a2 a3 : Option Value} {z : Int32} : Rs L xs (d) 102 41 [a0, some (.int z), a2, a3] st M x = Rs L xs (d) 102 42 [a0, some (.int z), a2, a3] (.int z :: st) M x := Rs_next c102_41 rfl
theorem c102_42 : qx_code 102 42 = some (42, .invokevirtual 177, 45, 47, 2, 827) := by decide +kernel
theorem s102_42 {L : Nat} {xs : Nat → Int32} {d x : Nat} {M : qxM} {st : List Value} {ls : qxL} {t : Nat} {z0 : Int32} (hk : qx_kd t = 12) (hs : st.length ≤ 4) : Rs L xs (d + 1) 102 42 ls (.int z0 :: .ref t :: st) M x = (Rs L xs d 47 0 [some (.ref t), some (.int z0)] [] M 0).bind (qx_kn L xs (d + 1) 102 42 45 47 ls st x) := by
  have h1 : qx_act L xs (qx_rt 102) (42, .invokevirtual 177, 45, 47, 2, 827) ls (.int z0 :: .ref t :: st) M = if 2 ≤ (.int z0 :: .ref t :: st).length ∧ st.length ≤ 4 then some (.inr (.inr (.inr (47, [.ref t, .int z0], st)))) else none := rfl
  rw [if_pos ⟨by simp [List.length_cons]; try omega, hs⟩] at h1
  have h2 := qx_kd_obj (k := 2) (by decide) hk
  exact Rs_call c102_42 h1 (by rw [show qx_args 47 [.ref t, .int z0] = decide (qx_sh t = some (.inl 2)) from rfl]; exact decide_eq_true h2)
theorem c102_45 : qx_code 102 45 = some (45, .ifCond .ne 5, 48, 50, 0, 0) := by decide +kernel
theorem s102_45 {L : Nat} {xs : Nat → Int32} {d x : Nat} {M : qxM} {st : List Value} {ls : qxL} {z : Int32} : Rs L xs (d) 102 45 ls (.int z :: st) M x = if z = 0 then Rs L xs (d) 102 48 ls st M x else Rs L xs (d) 102 50 ls st M x := Rs_ite c102_45 rfl
theorem c102_48 : qx_code 102 48 = some (48, .iconst 4, 49, 0, 0, 0) := by decide +kernel
theorem s102_48 {L : Nat} {xs : Nat → Int32} {d x : Nat} {M : qxM} {st : List Value} {ls : qxL} : Rs L xs (d) 102 48 ls st M x = Rs L xs (d) 102 49 ls (.int (nI 4) :: st) M x := Rs_next c102_48 rfl
theorem c102_49 : qx_code 102 49 = some (49, .ireturn, 50, 0, 0, 0) := by decide +kernel
theorem s102_49 {L : Nat} {xs : Nat → Int32} {d x : Nat} {M : qxM} {ls : qxL} {z : Int32} : Rs L xs (d) 102 49 ls [.int z] M x = some (.inl (some (.int z)), M, x) := Rs_ret c102_49 rfl
theorem c102_50 : qx_code 102 50 = some (50, .aload_n 3, 51, 0, 0, 0) := by decide +kernel
theorem s102_50 {L : Nat} {xs : Nat → Int32} {d x : Nat} {M : qxM} {st : List Value} {a0 a1 a2 : Option Value} {z : Nat} : Rs L xs (d) 102 50 [a0, a1, a2, some (.ref z)] st M x = Rs L xs (d) 102 51 [a0, a1, a2, some (.ref z)] (.ref z :: st) M x := Rs_next c102_50 rfl
theorem c102_51 : qx_code 102 51 = some (51, .iload_n 2, 52, 0, 0, 0) := by decide +kernel
theorem s102_51 {L : Nat} {xs : Nat → Int32} {d x : Nat} {M : qxM} {st : List Value} {a0 a1 a3 : Option Value} {z : Int32} : Rs L xs (d) 102 51 [a0, a1, some (.int z), a3] st M x = Rs L xs (d) 102 52 [a0, a1, some (.int z), a3] (.int z :: st) M x := Rs_next c102_51 rfl
theorem c102_52 : qx_code 102 52 = some (52, .invokevirtual 177, 55, 47, 2, 827) := by decide +kernel
theorem s102_52 {L : Nat} {xs : Nat → Int32} {d x : Nat} {M : qxM} {st : List Value} {ls : qxL} {t : Nat} {z0 : Int32} (hk : qx_kd t = 12) (hs : st.length ≤ 4) : Rs L xs (d + 1) 102 52 ls (.int z0 :: .ref t :: st) M x = (Rs L xs d 47 0 [some (.ref t), some (.int z0)] [] M 0).bind (qx_kn L xs (d + 1) 102 52 55 47 ls st x) := by
  have h1 : qx_act L xs (qx_rt 102) (52, .invokevirtual 177, 55, 47, 2, 827) ls (.int z0 :: .ref t :: st) M = if 2 ≤ (.int z0 :: .ref t :: st).length ∧ st.length ≤ 4 then some (.inr (.inr (.inr (47, [.ref t, .int z0], st)))) else none := rfl
  rw [if_pos ⟨by simp [List.length_cons]; try omega, hs⟩] at h1
  have h2 := qx_kd_obj (k := 2) (by decide) hk
  exact Rs_call c102_52 h1 (by rw [show qx_args 47 [.ref t, .int z0] = decide (qx_sh t = some (.inl 2)) from rfl]; exact decide_eq_true h2)
theorem c102_55 : qx_code 102 55 = some (55, .ifCond .eq 7, 58, 62, 0, 0) := by decide +kernel
theorem s102_55 {L : Nat} {xs : Nat → Int32} {d x : Nat} {M : qxM} {st : List Value} {ls : qxL} {z : Int32} : Rs L xs (d) 102 55 ls (.int z :: st) M x = if z = 0 then Rs L xs (d) 102 62 ls st M x else Rs L xs (d) 102 58 ls st M x := Rs_ite c102_55 rfl
theorem c102_58 : qx_code 102 58 = some (58, .iconst 0, 59, 0, 0, 0) := by decide +kernel
theorem s102_58 {L : Nat} {xs : Nat → Int32} {d x : Nat} {M : qxM} {st : List Value} {ls : qxL} : Rs L xs (d) 102 58 ls st M x = Rs L xs (d) 102 59 ls (.int (nI 0) :: st) M x := Rs_next c102_58 rfl
theorem c102_59 : qx_code 102 59 = some (59, .goto 4, 62, 63, 0, 0) := by decide +kernel
theorem s102_59 {L : Nat} {xs : Nat → Int32} {d x : Nat} {M : qxM} {st : List Value} {ls : qxL} : Rs L xs (d) 102 59 ls st M x = Rs L xs (d) 102 63 ls st M x := Rs_next c102_59 rfl
theorem c102_62 : qx_code 102 62 = some (62, .iconst 5, 63, 0, 0, 0) := by decide +kernel
theorem s102_62 {L : Nat} {xs : Nat → Int32} {d x : Nat} {M : qxM} {st : List Value} {ls : qxL} : Rs L xs (d) 102 62 ls st M x = Rs L xs (d) 102 63 ls (.int (nI 5) :: st) M x := Rs_next c102_62 rfl
theorem c102_63 : qx_code 102 63 = some (63, .ireturn, 64, 0, 0, 0) := by decide +kernel
theorem s102_63 {L : Nat} {xs : Nat → Int32} {d x : Nat} {M : qxM} {ls : qxL} {z : Int32} : Rs L xs (d) 102 63 ls [.int z] M x = some (.inl (some (.int z)), M, x) := Rs_ret c102_63 rfl
theorem c103_0 : qx_code 103 0 = some (0, .aload_n 0, 1, 0, 0, 0) := by decide +kernel
theorem s103_0 {L : Nat} {xs : Nat → Int32} {d x : Nat} {M : qxM} {st : List Value} {a1 a2 : Option Value} {z : Nat} : Rs L xs (d) 103 0 [some (.ref z), a1, a2] st M x = Rs L xs (d) 103 1 [some (.ref z), a1, a2] (.ref z :: st) M x := Rs_next c103_0 rfl
theorem c103_1 : qx_code 103 1 = some (1, .invokevirtual 107, 4, 159, 1, 728) := by decide +kernel
theorem s103_1 {L : Nat} {xs : Nat → Int32} {d x : Nat} {M : qxM} {st : List Value} {ls : qxL} {t : Nat} (hk : qx_kd t = 17) (hs : st.length ≤ 4) : Rs L xs (d + 1) 103 1 ls (.ref t :: st) M x = (Rs L xs d 159 0 [some (.ref t)] [] M 0).bind (qx_kn L xs (d + 1) 103 1 4 159 ls st x) := by
  have h1 : qx_act L xs (qx_rt 103) (1, .invokevirtual 107, 4, 159, 1, 728) ls (.ref t :: st) M = if 1 ≤ (.ref t :: st).length ∧ st.length ≤ 4 then some (.inr (.inr (.inr (159, [.ref t], st)))) else none := rfl
  rw [if_pos ⟨by simp [List.length_cons]; try omega, hs⟩] at h1
  have h2 := qx_kd_obj (k := 7) (by decide) hk
  exact Rs_call c103_1 h1 (by rw [show qx_args 159 [.ref t] = decide (qx_sh t = some (.inl 7)) from rfl]; exact decide_eq_true h2)
theorem c103_4 : qx_code 103 4 = some (4, .aload_n 0, 5, 0, 0, 0) := by decide +kernel
theorem s103_4 {L : Nat} {xs : Nat → Int32} {d x : Nat} {M : qxM} {st : List Value} {a1 a2 : Option Value} {z : Nat} : Rs L xs (d) 103 4 [some (.ref z), a1, a2] st M x = Rs L xs (d) 103 5 [some (.ref z), a1, a2] (.ref z :: st) M x := Rs_next c103_4 rfl
theorem c103_5 : qx_code 103 5 = some (5, .iload_n 1, 6, 0, 0, 0) := by decide +kernel
theorem s103_5 {L : Nat} {xs : Nat → Int32} {d x : Nat} {M : qxM} {st : List Value} {a0 a2 : Option Value} {z : Int32} : Rs L xs (d) 103 5 [a0, some (.int z), a2] st M x = Rs L xs (d) 103 6 [a0, some (.int z), a2] (.int z :: st) M x := Rs_next c103_5 rfl
theorem c103_6 : qx_code 103 6 = some (6, .bipush 7, 8, 0, 0, 0) := by decide +kernel
theorem s103_6 {L : Nat} {xs : Nat → Int32} {d x : Nat} {M : qxM} {st : List Value} {ls : qxL} : Rs L xs (d) 103 6 ls st M x = Rs L xs (d) 103 8 ls (.int (nI 7) :: st) M x := Rs_next c103_6 rfl
theorem c103_8 : qx_code 103 8 = some (8, .invokevirtual 110, 11, 162, 3, 748) := by decide +kernel
theorem s103_8 {L : Nat} {xs : Nat → Int32} {d x : Nat} {M : qxM} {st : List Value} {ls : qxL} {t : Nat} {z0 : Int32} {z1 : Int32} (hk : qx_kd t = 17) (hs : st.length ≤ 4) : Rs L xs (d + 1) 103 8 ls (.int z1 :: .int z0 :: .ref t :: st) M x = (Rs L xs d 162 0 [some (.ref t), some (.int z0), some (.int z1)] [] M 0).bind (qx_kn L xs (d + 1) 103 8 11 162 ls st x) := by
  have h1 : qx_act L xs (qx_rt 103) (8, .invokevirtual 110, 11, 162, 3, 748) ls (.int z1 :: .int z0 :: .ref t :: st) M = if 3 ≤ (.int z1 :: .int z0 :: .ref t :: st).length ∧ st.length ≤ 4 then some (.inr (.inr (.inr (162, [.ref t, .int z0, .int z1], st)))) else none := rfl
  rw [if_pos ⟨by simp [List.length_cons]; try omega, hs⟩] at h1
  have h2 := qx_kd_obj (k := 7) (by decide) hk
  exact Rs_call c103_8 h1 (by rw [show qx_args 162 [.ref t, .int z0, .int z1] = decide (qx_sh t = some (.inl 7)) from rfl]; exact decide_eq_true h2)
theorem c103_11 : qx_code 103 11 = some (11, .aload_n 0, 12, 0, 0, 0) := by decide +kernel
theorem s103_11 {L : Nat} {xs : Nat → Int32} {d x : Nat} {M : qxM} {st : List Value} {a1 a2 : Option Value} {z : Nat} : Rs L xs (d) 103 11 [some (.ref z), a1, a2] st M x = Rs L xs (d) 103 12 [some (.ref z), a1, a2] (.ref z :: st) M x := Rs_next c103_11 rfl
theorem c103_12 : qx_code 103 12 = some (12, .getfield 33, 15, 7, 3, 384) := by decide +kernel
theorem s103_12 {L : Nat} {xs : Nat → Int32} {d x : Nat} {M : qxM} {st : List Value} {ls : qxL} {t : Nat} (hk : qx_kd t = 17) : Rs L xs (d) 103 12 ls (.ref t :: st) M x = Rs L xs (d) 103 15 ls (.ref (t + 90) :: st) M x := Rs_when (qx_kd_obj (k := 7) (by decide) hk) c103_12 rfl
theorem c103_15 : qx_code 103 15 = some (15, .getfield 180, 18, 4, 1, 358) := by decide +kernel
theorem s103_15 {L : Nat} {xs : Nat → Int32} {d x : Nat} {M : qxM} {st : List Value} {ls : qxL} {t : Nat} (hk : qx_kd t = 14) : Rs L xs (d) 103 15 ls (.ref t :: st) M x = Rs L xs (d) 103 18 ls (.ref (t + 4) :: st) M x := Rs_when (qx_kd_obj (k := 4) (by decide) hk) c103_15 rfl
theorem c103_18 : qx_code 103 18 = some (18, .astore_n 2, 19, 0, 0, 0) := by decide +kernel
theorem s103_18i {L : Nat} {xs : Nat → Int32} {d x : Nat} {M : qxM} {st : List Value} {a0 a2 : Option Value} {z : Nat} {y : Int32} : Rs L xs (d) 103 18 [a0, some (.int y), a2] (.ref z :: st) M x = Rs L xs (d) 103 19 [a0, some (.int y), some (.ref z)] st M x := Rs_next c103_18 rfl
theorem s103_18r {L : Nat} {xs : Nat → Int32} {d x : Nat} {M : qxM} {st : List Value} {a0 a2 : Option Value} {z : Nat} {y : Nat} : Rs L xs (d) 103 18 [a0, some (.ref y), a2] (.ref z :: st) M x = Rs L xs (d) 103 19 [a0, some (.ref y), some (.ref z)] st M x := Rs_next c103_18 rfl
theorem s103_18n {L : Nat} {xs : Nat → Int32} {d x : Nat} {M : qxM} {st : List Value} {a0 a2 : Option Value} {z : Nat} : Rs L xs (d) 103 18 [a0, none, a2] (.ref z :: st) M x = Rs L xs (d) 103 19 [a0, none, some (.ref z)] st M x := Rs_next c103_18 rfl
theorem c103_19 : qx_code 103 19 = some (19, .iload_n 1, 20, 0, 0, 0) := by decide +kernel
theorem s103_19 {L : Nat} {xs : Nat → Int32} {d x : Nat} {M : qxM} {st : List Value} {a0 a2 : Option Value} {z : Int32} : Rs L xs (d) 103 19 [a0, some (.int z), a2] st M x = Rs L xs (d) 103 20 [a0, some (.int z), a2] (.int z :: st) M x := Rs_next c103_19 rfl
theorem c103_20 : qx_code 103 20 = some (20, .ifCond .ne 8, 23, 28, 0, 0) := by decide +kernel
theorem s103_20 {L : Nat} {xs : Nat → Int32} {d x : Nat} {M : qxM} {st : List Value} {ls : qxL} {z : Int32} : Rs L xs (d) 103 20 ls (.int z :: st) M x = if z = 0 then Rs L xs (d) 103 23 ls st M x else Rs L xs (d) 103 28 ls st M x := Rs_ite c103_20 rfl
theorem c103_23 : qx_code 103 23 = some (23, .aload_n 2, 24, 0, 0, 0) := by decide +kernel
theorem s103_23 {L : Nat} {xs : Nat → Int32} {d x : Nat} {M : qxM} {st : List Value} {a0 a1 : Option Value} {z : Nat} : Rs L xs (d) 103 23 [a0, a1, some (.ref z)] st M x = Rs L xs (d) 103 24 [a0, a1, some (.ref z)] (.ref z :: st) M x := Rs_next c103_23 rfl
theorem c103_24 : qx_code 103 24 = some (24, .getfield 184, 27, 3, 0, 298) := by decide +kernel
theorem s103_24 {L : Nat} {xs : Nat → Int32} {d x : Nat} {M : qxM} {st : List Value} {ls : qxL} {t : Nat} (hk : qx_kd t = 13) : Rs L xs (d) 103 24 ls (.ref t :: st) M x = Rs L xs (d) 103 27 ls (.int (M.1 t 0) :: st) M x := Rs_when (qx_kd_obj (k := 3) (by decide) hk) c103_24 rfl
theorem c103_27 : qx_code 103 27 = some (27, .ireturn, 28, 0, 0, 0) := by decide +kernel
theorem s103_27 {L : Nat} {xs : Nat → Int32} {d x : Nat} {M : qxM} {ls : qxL} {z : Int32} : Rs L xs (d) 103 27 ls [.int z] M x = some (.inl (some (.int z)), M, x) := Rs_ret c103_27 rfl
theorem c103_28 : qx_code 103 28 = some (28, .aload_n 2, 29, 0, 0, 0) := by decide +kernel
theorem s103_28 {L : Nat} {xs : Nat → Int32} {d x : Nat} {M : qxM} {st : List Value} {a0 a1 : Option Value} {z : Nat} : Rs L xs (d) 103 28 [a0, a1, some (.ref z)] st M x = Rs L xs (d) 103 29 [a0, a1, some (.ref z)] (.ref z :: st) M x := Rs_next c103_28 rfl
theorem c103_29 : qx_code 103 29 = some (29, .invokevirtual 189, 32, 56, 1, 835) := by decide +kernel
theorem s103_29 {L : Nat} {xs : Nat → Int32} {d x : Nat} {M : qxM} {st : List Value} {ls : qxL} {t : Nat} (hk : qx_kd t = 13) (hs : st.length ≤ 4) : Rs L xs (d + 1) 103 29 ls (.ref t :: st) M x = (Rs L xs d 56 0 [some (.ref t)] [] M 0).bind (qx_kn L xs (d + 1) 103 29 32 56 ls st x) := by
  have h1 : qx_act L xs (qx_rt 103) (29, .invokevirtual 189, 32, 56, 1, 835) ls (.ref t :: st) M = if 1 ≤ (.ref t :: st).length ∧ st.length ≤ 4 then some (.inr (.inr (.inr (56, [.ref t], st)))) else none := rfl
  rw [if_pos ⟨by simp [List.length_cons]; try omega, hs⟩] at h1
  have h2 := qx_kd_obj (k := 3) (by decide) hk
  exact Rs_call c103_29 h1 (by rw [show qx_args 56 [.ref t] = decide (qx_sh t = some (.inl 3)) from rfl]; exact decide_eq_true h2)
theorem c103_32 : qx_code 103 32 = some (32, .ifCond .ne 5, 35, 37, 0, 0) := by decide +kernel
theorem s103_32 {L : Nat} {xs : Nat → Int32} {d x : Nat} {M : qxM} {st : List Value} {ls : qxL} {z : Int32} : Rs L xs (d) 103 32 ls (.int z :: st) M x = if z = 0 then Rs L xs (d) 103 35 ls st M x else Rs L xs (d) 103 37 ls st M x := Rs_ite c103_32 rfl
theorem c103_35 : qx_code 103 35 = some (35, .iconst (-1), 36, 0, 0, 0) := by decide +kernel
theorem s103_35 {L : Nat} {xs : Nat → Int32} {d x : Nat} {M : qxM} {st : List Value} {ls : qxL} : Rs L xs (d) 103 35 ls st M x = Rs L xs (d) 103 36 ls (.int (-1) :: st) M x := Rs_next c103_35 rfl
theorem c103_36 : qx_code 103 36 = some (36, .ireturn, 37, 0, 0, 0) := by decide +kernel
theorem s103_36 {L : Nat} {xs : Nat → Int32} {d x : Nat} {M : qxM} {ls : qxL} {z : Int32} : Rs L xs (d) 103 36 ls [.int z] M x = some (.inl (some (.int z)), M, x) := Rs_ret c103_36 rfl
theorem c103_37 : qx_code 103 37 = some (37, .iload_n 1, 38, 0, 0, 0) := by decide +kernel
theorem s103_37 {L : Nat} {xs : Nat → Int32} {d x : Nat} {M : qxM} {st : List Value} {a0 a2 : Option Value} {z : Int32} : Rs L xs (d) 103 37 [a0, some (.int z), a2] st M x = Rs L xs (d) 103 38 [a0, some (.int z), a2] (.int z :: st) M x := Rs_next c103_37 rfl
theorem c103_38 : qx_code 103 38 = some (38, .tableswitch 74 1 6 #[38, 43, 48, 53, 61, 69], 76, 0, 0, 0) := by decide +kernel
theorem s103_38_0 {L : Nat} {xs : Nat → Int32} {d x : Nat} {M : qxM} {st : List Value} {ls : qxL} : Rs L xs (d) 103 38 ls (.int (nI 0) :: st) M x = Rs L xs (d) 103 112 ls st M x := Rs_next c103_38 rfl
theorem s103_38_1 {L : Nat} {xs : Nat → Int32} {d x : Nat} {M : qxM} {st : List Value} {ls : qxL} : Rs L xs (d) 103 38 ls (.int (nI 1) :: st) M x = Rs L xs (d) 103 76 ls st M x := Rs_next c103_38 rfl
theorem s103_38_2 {L : Nat} {xs : Nat → Int32} {d x : Nat} {M : qxM} {st : List Value} {ls : qxL} : Rs L xs (d) 103 38 ls (.int (nI 2) :: st) M x = Rs L xs (d) 103 81 ls st M x := Rs_next c103_38 rfl
theorem s103_38_3 {L : Nat} {xs : Nat → Int32} {d x : Nat} {M : qxM} {st : List Value} {ls : qxL} : Rs L xs (d) 103 38 ls (.int (nI 3) :: st) M x = Rs L xs (d) 103 86 ls st M x := Rs_next c103_38 rfl
theorem s103_38_4 {L : Nat} {xs : Nat → Int32} {d x : Nat} {M : qxM} {st : List Value} {ls : qxL} : Rs L xs (d) 103 38 ls (.int (nI 4) :: st) M x = Rs L xs (d) 103 91 ls st M x := Rs_next c103_38 rfl
theorem s103_38_5 {L : Nat} {xs : Nat → Int32} {d x : Nat} {M : qxM} {st : List Value} {ls : qxL} : Rs L xs (d) 103 38 ls (.int (nI 5) :: st) M x = Rs L xs (d) 103 99 ls st M x := Rs_next c103_38 rfl
theorem s103_38_6 {L : Nat} {xs : Nat → Int32} {d x : Nat} {M : qxM} {st : List Value} {ls : qxL} : Rs L xs (d) 103 38 ls (.int (nI 6) :: st) M x = Rs L xs (d) 103 107 ls st M x := Rs_next c103_38 rfl
theorem s103_38_7 {L : Nat} {xs : Nat → Int32} {d x : Nat} {M : qxM} {st : List Value} {ls : qxL} : Rs L xs (d) 103 38 ls (.int (nI 7) :: st) M x = Rs L xs (d) 103 112 ls st M x := Rs_next c103_38 rfl
theorem c103_76 : qx_code 103 76 = some (76, .aload_n 2, 77, 0, 0, 0) := by decide +kernel
theorem s103_76 {L : Nat} {xs : Nat → Int32} {d x : Nat} {M : qxM} {st : List Value} {a0 a1 : Option Value} {z : Nat} : Rs L xs (d) 103 76 [a0, a1, some (.ref z)] st M x = Rs L xs (d) 103 77 [a0, a1, some (.ref z)] (.ref z :: st) M x := Rs_next c103_76 rfl
theorem c103_77 : qx_code 103 77 = some (77, .getfield 192, 80, 3, 1, 300) := by decide +kernel
theorem s103_77 {L : Nat} {xs : Nat → Int32} {d x : Nat} {M : qxM} {st : List Value} {ls : qxL} {t : Nat} (hk : qx_kd t = 13) : Rs L xs (d) 103 77 ls (.ref t :: st) M x = Rs L xs (d) 103 80 ls (.int (M.1 t 1) :: st) M x := Rs_when (qx_kd_obj (k := 3) (by decide) hk) c103_77 rfl
theorem c103_80 : qx_code 103 80 = some (80, .ireturn, 81, 0, 0, 0) := by decide +kernel
theorem s103_80 {L : Nat} {xs : Nat → Int32} {d x : Nat} {M : qxM} {ls : qxL} {z : Int32} : Rs L xs (d) 103 80 ls [.int z] M x = some (.inl (some (.int z)), M, x) := Rs_ret c103_80 rfl
theorem c103_81 : qx_code 103 81 = some (81, .aload_n 2, 82, 0, 0, 0) := by decide +kernel
theorem s103_81 {L : Nat} {xs : Nat → Int32} {d x : Nat} {M : qxM} {st : List Value} {a0 a1 : Option Value} {z : Nat} : Rs L xs (d) 103 81 [a0, a1, some (.ref z)] st M x = Rs L xs (d) 103 82 [a0, a1, some (.ref z)] (.ref z :: st) M x := Rs_next c103_81 rfl
theorem c103_82 : qx_code 103 82 = some (82, .getfield 195, 85, 3, 2, 303) := by decide +kernel
theorem s103_82 {L : Nat} {xs : Nat → Int32} {d x : Nat} {M : qxM} {st : List Value} {ls : qxL} {t : Nat} (hk : qx_kd t = 13) : Rs L xs (d) 103 82 ls (.ref t :: st) M x = Rs L xs (d) 103 85 ls (.int (M.1 t 2) :: st) M x := Rs_when (qx_kd_obj (k := 3) (by decide) hk) c103_82 rfl
theorem c103_85 : qx_code 103 85 = some (85, .ireturn, 86, 0, 0, 0) := by decide +kernel
theorem s103_85 {L : Nat} {xs : Nat → Int32} {d x : Nat} {M : qxM} {ls : qxL} {z : Int32} : Rs L xs (d) 103 85 ls [.int z] M x = some (.inl (some (.int z)), M, x) := Rs_ret c103_85 rfl
theorem c103_86 : qx_code 103 86 = some (86, .aload_n 2, 87, 0, 0, 0) := by decide +kernel
theorem s103_86 {L : Nat} {xs : Nat → Int32} {d x : Nat} {M : qxM} {st : List Value} {a0 a1 : Option Value} {z : Nat} : Rs L xs (d) 103 86 [a0, a1, some (.ref z)] st M x = Rs L xs (d) 103 87 [a0, a1, some (.ref z)] (.ref z :: st) M x := Rs_next c103_86 rfl
theorem c103_87 : qx_code 103 87 = some (87, .getfield 198, 90, 3, 3, 306) := by decide +kernel
theorem s103_87 {L : Nat} {xs : Nat → Int32} {d x : Nat} {M : qxM} {st : List Value} {ls : qxL} {t : Nat} (hk : qx_kd t = 13) : Rs L xs (d) 103 87 ls (.ref t :: st) M x = Rs L xs (d) 103 90 ls (.int (M.1 t 3) :: st) M x := Rs_when (qx_kd_obj (k := 3) (by decide) hk) c103_87 rfl
theorem c103_90 : qx_code 103 90 = some (90, .ireturn, 91, 0, 0, 0) := by decide +kernel
theorem s103_90 {L : Nat} {xs : Nat → Int32} {d x : Nat} {M : qxM} {ls : qxL} {z : Int32} : Rs L xs (d) 103 90 ls [.int z] M x = some (.inl (some (.int z)), M, x) := Rs_ret c103_90 rfl
theorem c103_91 : qx_code 103 91 = some (91, .aload_n 2, 92, 0, 0, 0) := by decide +kernel
theorem s103_91 {L : Nat} {xs : Nat → Int32} {d x : Nat} {M : qxM} {st : List Value} {a0 a1 : Option Value} {z : Nat} : Rs L xs (d) 103 91 [a0, a1, some (.ref z)] st M x = Rs L xs (d) 103 92 [a0, a1, some (.ref z)] (.ref z :: st) M x := Rs_next c103_91 rfl
theorem c103_92 : qx_code 103 92 = some (92, .getfield 199, 95, 3, 4, 308) := by decide +kernel
theorem s103_92 {L : Nat} {xs : Nat → Int32} {d x : Nat} {M : qxM} {st : List Value} {ls : qxL} {t : Nat} (hk : qx_kd t = 13) : Rs L xs (d) 103 92 ls (.ref t :: st) M x = Rs L xs (d) 103 95 ls (.int (M.1 t 4) :: st) M x := Rs_when (qx_kd_obj (k := 3) (by decide) hk) c103_92 rfl
theorem c103_95 : qx_code 103 95 = some (95, .invokestatic 130, 98, 334, 1, 772) := by decide +kernel
theorem s103_95 {L : Nat} {xs : Nat → Int32} {d x : Nat} {M : qxM} {st : List Value} {ls : qxL} {z0 : Int32} (hs : st.length ≤ 4) : Rs L xs (d + 1) 103 95 ls (.int z0 :: st) M x = (Rs L xs d 334 0 [some (.int z0)] [] M 0).bind (qx_kn L xs (d + 1) 103 95 98 334 ls st x) := by
  have h1 : qx_act L xs (qx_rt 103) (95, .invokestatic 130, 98, 334, 1, 772) ls (.int z0 :: st) M = if 1 ≤ (.int z0 :: st).length ∧ st.length ≤ 4 then some (.inr (.inr (.inr (334, [.int z0], st)))) else none := rfl
  rw [if_pos ⟨by simp [List.length_cons]; try omega, hs⟩] at h1
  exact Rs_call c103_95 h1 rfl
theorem c103_98 : qx_code 103 98 = some (98, .ireturn, 99, 0, 0, 0) := by decide +kernel
theorem s103_98 {L : Nat} {xs : Nat → Int32} {d x : Nat} {M : qxM} {ls : qxL} {z : Int32} : Rs L xs (d) 103 98 ls [.int z] M x = some (.inl (some (.int z)), M, x) := Rs_ret c103_98 rfl
theorem c103_99 : qx_code 103 99 = some (99, .aload_n 2, 100, 0, 0, 0) := by decide +kernel
theorem s103_99 {L : Nat} {xs : Nat → Int32} {d x : Nat} {M : qxM} {st : List Value} {a0 a1 : Option Value} {z : Nat} : Rs L xs (d) 103 99 [a0, a1, some (.ref z)] st M x = Rs L xs (d) 103 100 [a0, a1, some (.ref z)] (.ref z :: st) M x := Rs_next c103_99 rfl
theorem c103_100 : qx_code 103 100 = some (100, .getfield 202, 103, 3, 5, 310) := by decide +kernel
theorem s103_100 {L : Nat} {xs : Nat → Int32} {d x : Nat} {M : qxM} {st : List Value} {ls : qxL} {t : Nat} (hk : qx_kd t = 13) : Rs L xs (d) 103 100 ls (.ref t :: st) M x = Rs L xs (d) 103 103 ls (.int (M.1 t 5) :: st) M x := Rs_when (qx_kd_obj (k := 3) (by decide) hk) c103_100 rfl
theorem c103_103 : qx_code 103 103 = some (103, .invokestatic 130, 106, 334, 1, 772) := by decide +kernel
theorem s103_103 {L : Nat} {xs : Nat → Int32} {d x : Nat} {M : qxM} {st : List Value} {ls : qxL} {z0 : Int32} (hs : st.length ≤ 4) : Rs L xs (d + 1) 103 103 ls (.int z0 :: st) M x = (Rs L xs d 334 0 [some (.int z0)] [] M 0).bind (qx_kn L xs (d + 1) 103 103 106 334 ls st x) := by
  have h1 : qx_act L xs (qx_rt 103) (103, .invokestatic 130, 106, 334, 1, 772) ls (.int z0 :: st) M = if 1 ≤ (.int z0 :: st).length ∧ st.length ≤ 4 then some (.inr (.inr (.inr (334, [.int z0], st)))) else none := rfl
  rw [if_pos ⟨by simp [List.length_cons]; try omega, hs⟩] at h1
  exact Rs_call c103_103 h1 rfl
theorem c103_106 : qx_code 103 106 = some (106, .ireturn, 107, 0, 0, 0) := by decide +kernel
theorem s103_106 {L : Nat} {xs : Nat → Int32} {d x : Nat} {M : qxM} {ls : qxL} {z : Int32} : Rs L xs (d) 103 106 ls [.int z] M x = some (.inl (some (.int z)), M, x) := Rs_ret c103_106 rfl
theorem c103_107 : qx_code 103 107 = some (107, .aload_n 2, 108, 0, 0, 0) := by decide +kernel
theorem s103_107 {L : Nat} {xs : Nat → Int32} {d x : Nat} {M : qxM} {st : List Value} {a0 a1 : Option Value} {z : Nat} : Rs L xs (d) 103 107 [a0, a1, some (.ref z)] st M x = Rs L xs (d) 103 108 [a0, a1, some (.ref z)] (.ref z :: st) M x := Rs_next c103_107 rfl
theorem c103_108 : qx_code 103 108 = some (108, .invokevirtual 205, 111, 60, 1, 839) := by decide +kernel
theorem s103_108 {L : Nat} {xs : Nat → Int32} {d x : Nat} {M : qxM} {st : List Value} {ls : qxL} {t : Nat} (hk : qx_kd t = 13) (hs : st.length ≤ 4) : Rs L xs (d + 1) 103 108 ls (.ref t :: st) M x = (Rs L xs d 60 0 [some (.ref t)] [] M 0).bind (qx_kn L xs (d + 1) 103 108 111 60 ls st x) := by
  have h1 : qx_act L xs (qx_rt 103) (108, .invokevirtual 205, 111, 60, 1, 839) ls (.ref t :: st) M = if 1 ≤ (.ref t :: st).length ∧ st.length ≤ 4 then some (.inr (.inr (.inr (60, [.ref t], st)))) else none := rfl
  rw [if_pos ⟨by simp [List.length_cons]; try omega, hs⟩] at h1
  have h2 := qx_kd_obj (k := 3) (by decide) hk
  exact Rs_call c103_108 h1 (by rw [show qx_args 60 [.ref t] = decide (qx_sh t = some (.inl 3)) from rfl]; exact decide_eq_true h2)
theorem c103_111 : qx_code 103 111 = some (111, .ireturn, 112, 0, 0, 0) := by decide +kernel
theorem s103_111 {L : Nat} {xs : Nat → Int32} {d x : Nat} {M : qxM} {ls : qxL} {z : Int32} : Rs L xs (d) 103 111 ls [.int z] M x = some (.inl (some (.int z)), M, x) := Rs_ret c103_111 rfl
theorem c103_112 : qx_code 103 112 = some (112, .aload_n 0, 113, 0, 0, 0) := by decide +kernel
theorem s103_112 {L : Nat} {xs : Nat → Int32} {d x : Nat} {M : qxM} {st : List Value} {a1 a2 : Option Value} {z : Nat} : Rs L xs (d) 103 112 [some (.ref z), a1, a2] st M x = Rs L xs (d) 103 113 [some (.ref z), a1, a2] (.ref z :: st) M x := Rs_next c103_112 rfl
theorem c103_113 : qx_code 103 113 = some (113, .iconst 1, 114, 0, 0, 0) := by decide +kernel
theorem s103_113 {L : Nat} {xs : Nat → Int32} {d x : Nat} {M : qxM} {st : List Value} {ls : qxL} : Rs L xs (d) 103 113 ls st M x = Rs L xs (d) 103 114 ls (.int (nI 1) :: st) M x := Rs_next c103_113 rfl
theorem c103_114 : qx_code 103 114 = some (114, .invokevirtual 208, 117, 115, 2, 843) := by decide +kernel
theorem s103_114 {L : Nat} {xs : Nat → Int32} {d x : Nat} {M : qxM} {st : List Value} {ls : qxL} {t : Nat} {z0 : Int32} (hk : qx_kd t = 17) (hs : st.length ≤ 4) : Rs L xs (d + 1) 103 114 ls (.int z0 :: .ref t :: st) M x = (Rs L xs d 115 0 [some (.ref t), some (.int z0), none, none, none] [] M 0).bind (qx_kn L xs (d + 1) 103 114 117 115 ls st x) := by
  have h1 : qx_act L xs (qx_rt 103) (114, .invokevirtual 208, 117, 115, 2, 843) ls (.int z0 :: .ref t :: st) M = if 2 ≤ (.int z0 :: .ref t :: st).length ∧ st.length ≤ 4 then some (.inr (.inr (.inr (115, [.ref t, .int z0], st)))) else none := rfl
  rw [if_pos ⟨by simp [List.length_cons]; try omega, hs⟩] at h1
  have h2 := qx_kd_obj (k := 7) (by decide) hk
  exact Rs_call c103_114 h1 (by rw [show qx_args 115 [.ref t, .int z0] = decide (qx_sh t = some (.inl 7)) from rfl]; exact decide_eq_true h2)
theorem c103_117 : qx_code 103 117 = some (117, .ireturn, 118, 0, 0, 0) := by decide +kernel
theorem s103_117 {L : Nat} {xs : Nat → Int32} {d x : Nat} {M : qxM} {ls : qxL} {z : Int32} : Rs L xs (d) 103 117 ls [.int z] M x = some (.inl (some (.int z)), M, x) := Rs_ret c103_117 rfl
theorem c104_0 : qx_code 104 0 = some (0, .aload_n 0, 1, 0, 0, 0) := by decide +kernel
theorem s104_0 {L : Nat} {xs : Nat → Int32} {d x : Nat} {M : qxM} {st : List Value} {a1 : Option Value} {z : Nat} : Rs L xs (d) 104 0 [some (.ref z), a1] st M x = Rs L xs (d) 104 1 [some (.ref z), a1] (.ref z :: st) M x := Rs_next c104_0 rfl
theorem c104_1 : qx_code 104 1 = some (1, .iload_n 1, 2, 0, 0, 0) := by decide +kernel
theorem s104_1 {L : Nat} {xs : Nat → Int32} {d x : Nat} {M : qxM} {st : List Value} {a0 : Option Value} {z : Int32} : Rs L xs (d) 104 1 [a0, some (.int z)] st M x = Rs L xs (d) 104 2 [a0, some (.int z)] (.int z :: st) M x := Rs_next c104_1 rfl
theorem c104_2 : qx_code 104 2 = some (2, .invokevirtual 148, 5, 160, 2, 780) := by decide +kernel
theorem s104_2 {L : Nat} {xs : Nat → Int32} {d x : Nat} {M : qxM} {st : List Value} {ls : qxL} {t : Nat} {z0 : Int32} (hk : qx_kd t = 17) (hs : st.length ≤ 4) : Rs L xs (d + 1) 104 2 ls (.int z0 :: .ref t :: st) M x = (Rs L xs d 160 0 [some (.ref t), some (.int z0)] [] M 0).bind (qx_kn L xs (d + 1) 104 2 5 160 ls st x) := by
  have h1 : qx_act L xs (qx_rt 104) (2, .invokevirtual 148, 5, 160, 2, 780) ls (.int z0 :: .ref t :: st) M = if 2 ≤ (.int z0 :: .ref t :: st).length ∧ st.length ≤ 4 then some (.inr (.inr (.inr (160, [.ref t, .int z0], st)))) else none := rfl
  rw [if_pos ⟨by simp [List.length_cons]; try omega, hs⟩] at h1
  have h2 := qx_kd_obj (k := 7) (by decide) hk
  exact Rs_call c104_2 h1 (by rw [show qx_args 160 [.ref t, .int z0] = decide (qx_sh t = some (.inl 7)) from rfl]; exact decide_eq_true h2)
theorem c104_5 : qx_code 104 5 = some (5, .aload_n 0, 6, 0, 0, 0) := by decide +kernel
theorem s104_5 {L : Nat} {xs : Nat → Int32} {d x : Nat} {M : qxM} {st : List Value} {a1 : Option Value} {z : Nat} : Rs L xs (d) 104 5 [some (.ref z), a1] st M x = Rs L xs (d) 104 6 [some (.ref z), a1] (.ref z :: st) M x := Rs_next c104_5 rfl
theorem c104_6 : qx_code 104 6 = some (6, .getfield 33, 9, 7, 3, 384) := by decide +kernel
theorem s104_6 {L : Nat} {xs : Nat → Int32} {d x : Nat} {M : qxM} {st : List Value} {ls : qxL} {t : Nat} (hk : qx_kd t = 17) : Rs L xs (d) 104 6 ls (.ref t :: st) M x = Rs L xs (d) 104 9 ls (.ref (t + 90) :: st) M x := Rs_when (qx_kd_obj (k := 7) (by decide) hk) c104_6 rfl
theorem c104_9 : qx_code 104 9 = some (9, .getfield 180, 12, 4, 1, 358) := by decide +kernel
theorem s104_9 {L : Nat} {xs : Nat → Int32} {d x : Nat} {M : qxM} {st : List Value} {ls : qxL} {t : Nat} (hk : qx_kd t = 14) : Rs L xs (d) 104 9 ls (.ref t :: st) M x = Rs L xs (d) 104 12 ls (.ref (t + 4) :: st) M x := Rs_when (qx_kd_obj (k := 4) (by decide) hk) c104_9 rfl
theorem c104_12 : qx_code 104 12 = some (12, .invokevirtual 189, 15, 56, 1, 835) := by decide +kernel
theorem s104_12 {L : Nat} {xs : Nat → Int32} {d x : Nat} {M : qxM} {st : List Value} {ls : qxL} {t : Nat} (hk : qx_kd t = 13) (hs : st.length ≤ 4) : Rs L xs (d + 1) 104 12 ls (.ref t :: st) M x = (Rs L xs d 56 0 [some (.ref t)] [] M 0).bind (qx_kn L xs (d + 1) 104 12 15 56 ls st x) := by
  have h1 : qx_act L xs (qx_rt 104) (12, .invokevirtual 189, 15, 56, 1, 835) ls (.ref t :: st) M = if 1 ≤ (.ref t :: st).length ∧ st.length ≤ 4 then some (.inr (.inr (.inr (56, [.ref t], st)))) else none := rfl
  rw [if_pos ⟨by simp [List.length_cons]; try omega, hs⟩] at h1
  have h2 := qx_kd_obj (k := 3) (by decide) hk
  exact Rs_call c104_12 h1 (by rw [show qx_args 56 [.ref t] = decide (qx_sh t = some (.inl 3)) from rfl]; exact decide_eq_true h2)
theorem c104_15 : qx_code 104 15 = some (15, .ifCond .eq 17, 18, 32, 0, 0) := by decide +kernel
theorem s104_15 {L : Nat} {xs : Nat → Int32} {d x : Nat} {M : qxM} {st : List Value} {ls : qxL} {z : Int32} : Rs L xs (d) 104 15 ls (.int z :: st) M x = if z = 0 then Rs L xs (d) 104 32 ls st M x else Rs L xs (d) 104 18 ls st M x := Rs_ite c104_15 rfl
theorem c104_18 : qx_code 104 18 = some (18, .aload_n 0, 19, 0, 0, 0) := by decide +kernel
theorem s104_18 {L : Nat} {xs : Nat → Int32} {d x : Nat} {M : qxM} {st : List Value} {a1 : Option Value} {z : Nat} : Rs L xs (d) 104 18 [some (.ref z), a1] st M x = Rs L xs (d) 104 19 [some (.ref z), a1] (.ref z :: st) M x := Rs_next c104_18 rfl
theorem c104_19 : qx_code 104 19 = some (19, .getfield 33, 22, 7, 3, 384) := by decide +kernel
theorem s104_19 {L : Nat} {xs : Nat → Int32} {d x : Nat} {M : qxM} {st : List Value} {ls : qxL} {t : Nat} (hk : qx_kd t = 17) : Rs L xs (d) 104 19 ls (.ref t :: st) M x = Rs L xs (d) 104 22 ls (.ref (t + 90) :: st) M x := Rs_when (qx_kd_obj (k := 7) (by decide) hk) c104_19 rfl
theorem c104_22 : qx_code 104 22 = some (22, .getfield 180, 25, 4, 1, 358) := by decide +kernel
theorem s104_22 {L : Nat} {xs : Nat → Int32} {d x : Nat} {M : qxM} {st : List Value} {ls : qxL} {t : Nat} (hk : qx_kd t = 14) : Rs L xs (d) 104 22 ls (.ref t :: st) M x = Rs L xs (d) 104 25 ls (.ref (t + 4) :: st) M x := Rs_when (qx_kd_obj (k := 4) (by decide) hk) c104_22 rfl
theorem c104_25 : qx_code 104 25 = some (25, .iload_n 1, 26, 0, 0, 0) := by decide +kernel
theorem s104_25 {L : Nat} {xs : Nat → Int32} {d x : Nat} {M : qxM} {st : List Value} {a0 : Option Value} {z : Int32} : Rs L xs (d) 104 25 [a0, some (.int z)] st M x = Rs L xs (d) 104 26 [a0, some (.int z)] (.int z :: st) M x := Rs_next c104_25 rfl
theorem c104_26 : qx_code 104 26 = some (26, .invokevirtual 211, 29, 57, 2, 872) := by decide +kernel
theorem s104_26 {L : Nat} {xs : Nat → Int32} {d x : Nat} {M : qxM} {st : List Value} {ls : qxL} {t : Nat} {z0 : Int32} (hk : qx_kd t = 13) (hs : st.length ≤ 4) : Rs L xs (d + 1) 104 26 ls (.int z0 :: .ref t :: st) M x = (Rs L xs d 57 0 [some (.ref t), some (.int z0)] [] M 0).bind (qx_kn L xs (d + 1) 104 26 29 57 ls st x) := by
  have h1 : qx_act L xs (qx_rt 104) (26, .invokevirtual 211, 29, 57, 2, 872) ls (.int z0 :: .ref t :: st) M = if 2 ≤ (.int z0 :: .ref t :: st).length ∧ st.length ≤ 4 then some (.inr (.inr (.inr (57, [.ref t, .int z0], st)))) else none := rfl
  rw [if_pos ⟨by simp [List.length_cons]; try omega, hs⟩] at h1
  have h2 := qx_kd_obj (k := 3) (by decide) hk
  exact Rs_call c104_26 h1 (by rw [show qx_args 57 [.ref t, .int z0] = decide (qx_sh t = some (.inl 3)) from rfl]; exact decide_eq_true h2)
theorem c104_29 : qx_code 104 29 = some (29, .goto 4, 32, 33, 0, 0) := by decide +kernel
theorem s104_29 {L : Nat} {xs : Nat → Int32} {d x : Nat} {M : qxM} {st : List Value} {ls : qxL} : Rs L xs (d) 104 29 ls st M x = Rs L xs (d) 104 33 ls st M x := Rs_next c104_29 rfl
theorem c104_32 : qx_code 104 32 = some (32, .iconst (-1), 33, 0, 0, 0) := by decide +kernel
theorem s104_32 {L : Nat} {xs : Nat → Int32} {d x : Nat} {M : qxM} {st : List Value} {ls : qxL} : Rs L xs (d) 104 32 ls st M x = Rs L xs (d) 104 33 ls (.int (-1) :: st) M x := Rs_next c104_32 rfl
theorem c104_33 : qx_code 104 33 = some (33, .ireturn, 34, 0, 0, 0) := by decide +kernel
theorem s104_33 {L : Nat} {xs : Nat → Int32} {d x : Nat} {M : qxM} {ls : qxL} {z : Int32} : Rs L xs (d) 104 33 ls [.int z] M x = some (.inl (some (.int z)), M, x) := Rs_ret c104_33 rfl
theorem c105_0 : qx_code 105 0 = some (0, .aload_n 0, 1, 0, 0, 0) := by decide +kernel
theorem s105_0 {L : Nat} {xs : Nat → Int32} {d x : Nat} {M : qxM} {st : List Value} {a1 : Option Value} {z : Nat} : Rs L xs (d) 105 0 [some (.ref z), a1] st M x = Rs L xs (d) 105 1 [some (.ref z), a1] (.ref z :: st) M x := Rs_next c105_0 rfl
theorem c105_1 : qx_code 105 1 = some (1, .iload_n 1, 2, 0, 0, 0) := by decide +kernel
theorem s105_1 {L : Nat} {xs : Nat → Int32} {d x : Nat} {M : qxM} {st : List Value} {a0 : Option Value} {z : Int32} : Rs L xs (d) 105 1 [a0, some (.int z)] st M x = Rs L xs (d) 105 2 [a0, some (.int z)] (.int z :: st) M x := Rs_next c105_1 rfl
theorem c105_2 : qx_code 105 2 = some (2, .invokevirtual 148, 5, 160, 2, 780) := by decide +kernel
theorem s105_2 {L : Nat} {xs : Nat → Int32} {d x : Nat} {M : qxM} {st : List Value} {ls : qxL} {t : Nat} {z0 : Int32} (hk : qx_kd t = 17) (hs : st.length ≤ 4) : Rs L xs (d + 1) 105 2 ls (.int z0 :: .ref t :: st) M x = (Rs L xs d 160 0 [some (.ref t), some (.int z0)] [] M 0).bind (qx_kn L xs (d + 1) 105 2 5 160 ls st x) := by
  have h1 : qx_act L xs (qx_rt 105) (2, .invokevirtual 148, 5, 160, 2, 780) ls (.int z0 :: .ref t :: st) M = if 2 ≤ (.int z0 :: .ref t :: st).length ∧ st.length ≤ 4 then some (.inr (.inr (.inr (160, [.ref t, .int z0], st)))) else none := rfl
  rw [if_pos ⟨by simp [List.length_cons]; try omega, hs⟩] at h1
  have h2 := qx_kd_obj (k := 7) (by decide) hk
  exact Rs_call c105_2 h1 (by rw [show qx_args 160 [.ref t, .int z0] = decide (qx_sh t = some (.inl 7)) from rfl]; exact decide_eq_true h2)
theorem c105_5 : qx_code 105 5 = some (5, .aload_n 0, 6, 0, 0, 0) := by decide +kernel
theorem s105_5 {L : Nat} {xs : Nat → Int32} {d x : Nat} {M : qxM} {st : List Value} {a1 : Option Value} {z : Nat} : Rs L xs (d) 105 5 [some (.ref z), a1] st M x = Rs L xs (d) 105 6 [some (.ref z), a1] (.ref z :: st) M x := Rs_next c105_5 rfl
theorem c105_6 : qx_code 105 6 = some (6, .iload_n 1, 7, 0, 0, 0) := by decide +kernel
theorem s105_6 {L : Nat} {xs : Nat → Int32} {d x : Nat} {M : qxM} {st : List Value} {a0 : Option Value} {z : Int32} : Rs L xs (d) 105 6 [a0, some (.int z)] st M x = Rs L xs (d) 105 7 [a0, some (.int z)] (.int z :: st) M x := Rs_next c105_6 rfl
theorem c105_7 : qx_code 105 7 = some (7, .invokevirtual 214, 10, 106, 2, 847) := by decide +kernel
theorem s105_7 {L : Nat} {xs : Nat → Int32} {d x : Nat} {M : qxM} {st : List Value} {ls : qxL} {t : Nat} {z0 : Int32} (hk : qx_kd t = 17) (hs : st.length ≤ 4) : Rs L xs (d + 1) 105 7 ls (.int z0 :: .ref t :: st) M x = (Rs L xs d 106 0 [some (.ref t), some (.int z0)] [] M 0).bind (qx_kn L xs (d + 1) 105 7 10 106 ls st x) := by
  have h1 : qx_act L xs (qx_rt 105) (7, .invokevirtual 214, 10, 106, 2, 847) ls (.int z0 :: .ref t :: st) M = if 2 ≤ (.int z0 :: .ref t :: st).length ∧ st.length ≤ 4 then some (.inr (.inr (.inr (106, [.ref t, .int z0], st)))) else none := rfl
  rw [if_pos ⟨by simp [List.length_cons]; try omega, hs⟩] at h1
  have h2 := qx_kd_obj (k := 7) (by decide) hk
  exact Rs_call c105_7 h1 (by rw [show qx_args 106 [.ref t, .int z0] = decide (qx_sh t = some (.inl 7)) from rfl]; exact decide_eq_true h2)
theorem c105_10 : qx_code 105 10 = some (10, .ireturn, 11, 0, 0, 0) := by decide +kernel
theorem s105_10 {L : Nat} {xs : Nat → Int32} {d x : Nat} {M : qxM} {ls : qxL} {z : Int32} : Rs L xs (d) 105 10 ls [.int z] M x = some (.inl (some (.int z)), M, x) := Rs_ret c105_10 rfl
theorem c106_0 : qx_code 106 0 = some (0, .aload_n 0, 1, 0, 0, 0) := by decide +kernel
theorem s106_0 {L : Nat} {xs : Nat → Int32} {d x : Nat} {M : qxM} {st : List Value} {a1 : Option Value} {z : Nat} : Rs L xs (d) 106 0 [some (.ref z), a1] st M x = Rs L xs (d) 106 1 [some (.ref z), a1] (.ref z :: st) M x := Rs_next c106_0 rfl
theorem c106_1 : qx_code 106 1 = some (1, .getfield 33, 4, 7, 3, 384) := by decide +kernel
theorem s106_1 {L : Nat} {xs : Nat → Int32} {d x : Nat} {M : qxM} {st : List Value} {ls : qxL} {t : Nat} (hk : qx_kd t = 17) : Rs L xs (d) 106 1 ls (.ref t :: st) M x = Rs L xs (d) 106 4 ls (.ref (t + 90) :: st) M x := Rs_when (qx_kd_obj (k := 7) (by decide) hk) c106_1 rfl
theorem c106_4 : qx_code 106 4 = some (4, .getfield 180, 7, 4, 1, 358) := by decide +kernel
theorem s106_4 {L : Nat} {xs : Nat → Int32} {d x : Nat} {M : qxM} {st : List Value} {ls : qxL} {t : Nat} (hk : qx_kd t = 14) : Rs L xs (d) 106 4 ls (.ref t :: st) M x = Rs L xs (d) 106 7 ls (.ref (t + 4) :: st) M x := Rs_when (qx_kd_obj (k := 4) (by decide) hk) c106_4 rfl
theorem c106_7 : qx_code 106 7 = some (7, .invokevirtual 189, 10, 56, 1, 835) := by decide +kernel
theorem s106_7 {L : Nat} {xs : Nat → Int32} {d x : Nat} {M : qxM} {st : List Value} {ls : qxL} {t : Nat} (hk : qx_kd t = 13) (hs : st.length ≤ 4) : Rs L xs (d + 1) 106 7 ls (.ref t :: st) M x = (Rs L xs d 56 0 [some (.ref t)] [] M 0).bind (qx_kn L xs (d + 1) 106 7 10 56 ls st x) := by
  have h1 : qx_act L xs (qx_rt 106) (7, .invokevirtual 189, 10, 56, 1, 835) ls (.ref t :: st) M = if 1 ≤ (.ref t :: st).length ∧ st.length ≤ 4 then some (.inr (.inr (.inr (56, [.ref t], st)))) else none := rfl
  rw [if_pos ⟨by simp [List.length_cons]; try omega, hs⟩] at h1
  have h2 := qx_kd_obj (k := 3) (by decide) hk
  exact Rs_call c106_7 h1 (by rw [show qx_args 56 [.ref t] = decide (qx_sh t = some (.inl 3)) from rfl]; exact decide_eq_true h2)
theorem c106_10 : qx_code 106 10 = some (10, .ifCond .eq 27, 13, 37, 0, 0) := by decide +kernel
theorem s106_10 {L : Nat} {xs : Nat → Int32} {d x : Nat} {M : qxM} {st : List Value} {ls : qxL} {z : Int32} : Rs L xs (d) 106 10 ls (.int z :: st) M x = if z = 0 then Rs L xs (d) 106 37 ls st M x else Rs L xs (d) 106 13 ls st M x := Rs_ite c106_10 rfl
theorem c106_13 : qx_code 106 13 = some (13, .aload_n 0, 14, 0, 0, 0) := by decide +kernel
theorem s106_13 {L : Nat} {xs : Nat → Int32} {d x : Nat} {M : qxM} {st : List Value} {a1 : Option Value} {z : Nat} : Rs L xs (d) 106 13 [some (.ref z), a1] st M x = Rs L xs (d) 106 14 [some (.ref z), a1] (.ref z :: st) M x := Rs_next c106_13 rfl
theorem c106_14 : qx_code 106 14 = some (14, .getfield 33, 17, 7, 3, 384) := by decide +kernel
theorem s106_14 {L : Nat} {xs : Nat → Int32} {d x : Nat} {M : qxM} {st : List Value} {ls : qxL} {t : Nat} (hk : qx_kd t = 17) : Rs L xs (d) 106 14 ls (.ref t :: st) M x = Rs L xs (d) 106 17 ls (.ref (t + 90) :: st) M x := Rs_when (qx_kd_obj (k := 7) (by decide) hk) c106_14 rfl
theorem c106_17 : qx_code 106 17 = some (17, .getfield 180, 20, 4, 1, 358) := by decide +kernel
theorem s106_17 {L : Nat} {xs : Nat → Int32} {d x : Nat} {M : qxM} {st : List Value} {ls : qxL} {t : Nat} (hk : qx_kd t = 14) : Rs L xs (d) 106 17 ls (.ref t :: st) M x = Rs L xs (d) 106 20 ls (.ref (t + 4) :: st) M x := Rs_when (qx_kd_obj (k := 4) (by decide) hk) c106_17 rfl
theorem c106_20 : qx_code 106 20 = some (20, .aload_n 0, 21, 0, 0, 0) := by decide +kernel
theorem s106_20 {L : Nat} {xs : Nat → Int32} {d x : Nat} {M : qxM} {st : List Value} {a1 : Option Value} {z : Nat} : Rs L xs (d) 106 20 [some (.ref z), a1] st M x = Rs L xs (d) 106 21 [some (.ref z), a1] (.ref z :: st) M x := Rs_next c106_20 rfl
theorem c106_21 : qx_code 106 21 = some (21, .getfield 33, 24, 7, 3, 384) := by decide +kernel
theorem s106_21 {L : Nat} {xs : Nat → Int32} {d x : Nat} {M : qxM} {st : List Value} {ls : qxL} {t : Nat} (hk : qx_kd t = 17) : Rs L xs (d) 106 21 ls (.ref t :: st) M x = Rs L xs (d) 106 24 ls (.ref (t + 90) :: st) M x := Rs_when (qx_kd_obj (k := 7) (by decide) hk) c106_21 rfl
theorem c106_24 : qx_code 106 24 = some (24, .getfield 180, 27, 4, 1, 358) := by decide +kernel
theorem s106_24 {L : Nat} {xs : Nat → Int32} {d x : Nat} {M : qxM} {st : List Value} {ls : qxL} {t : Nat} (hk : qx_kd t = 14) : Rs L xs (d) 106 24 ls (.ref t :: st) M x = Rs L xs (d) 106 27 ls (.ref (t + 4) :: st) M x := Rs_when (qx_kd_obj (k := 4) (by decide) hk) c106_24 rfl
theorem c106_27 : qx_code 106 27 = some (27, .iload_n 1, 28, 0, 0, 0) := by decide +kernel
theorem s106_27 {L : Nat} {xs : Nat → Int32} {d x : Nat} {M : qxM} {st : List Value} {a0 : Option Value} {z : Int32} : Rs L xs (d) 106 27 [a0, some (.int z)] st M x = Rs L xs (d) 106 28 [a0, some (.int z)] (.int z :: st) M x := Rs_next c106_27 rfl
theorem c106_28 : qx_code 106 28 = some (28, .invokevirtual 217, 31, 58, 2, 851) := by decide +kernel
theorem s106_28 {L : Nat} {xs : Nat → Int32} {d x : Nat} {M : qxM} {st : List Value} {ls : qxL} {t : Nat} {z0 : Int32} (hk : qx_kd t = 13) (hs : st.length ≤ 4) : Rs L xs (d + 1) 106 28 ls (.int z0 :: .ref t :: st) M x = (Rs L xs d 58 0 [some (.ref t), some (.int z0)] [] M 0).bind (qx_kn L xs (d + 1) 106 28 31 58 ls st x) := by
  have h1 : qx_act L xs (qx_rt 106) (28, .invokevirtual 217, 31, 58, 2, 851) ls (.int z0 :: .ref t :: st) M = if 2 ≤ (.int z0 :: .ref t :: st).length ∧ st.length ≤ 4 then some (.inr (.inr (.inr (58, [.ref t, .int z0], st)))) else none := rfl
  rw [if_pos ⟨by simp [List.length_cons]; try omega, hs⟩] at h1
  have h2 := qx_kd_obj (k := 3) (by decide) hk
  exact Rs_call c106_28 h1 (by rw [show qx_args 58 [.ref t, .int z0] = decide (qx_sh t = some (.inl 3)) from rfl]; exact decide_eq_true h2)
theorem c106_31 : qx_code 106 31 = some (31, .invokevirtual 220, 34, 59, 2, 855) := by decide +kernel
theorem s106_31 {L : Nat} {xs : Nat → Int32} {d x : Nat} {M : qxM} {st : List Value} {ls : qxL} {t : Nat} {z0 : Int32} (hk : qx_kd t = 13) (hs : st.length ≤ 4) : Rs L xs (d + 1) 106 31 ls (.int z0 :: .ref t :: st) M x = (Rs L xs d 59 0 [some (.ref t), some (.int z0), none, none] [] M 0).bind (qx_kn L xs (d + 1) 106 31 34 59 ls st x) := by
  have h1 : qx_act L xs (qx_rt 106) (31, .invokevirtual 220, 34, 59, 2, 855) ls (.int z0 :: .ref t :: st) M = if 2 ≤ (.int z0 :: .ref t :: st).length ∧ st.length ≤ 4 then some (.inr (.inr (.inr (59, [.ref t, .int z0], st)))) else none := rfl
  rw [if_pos ⟨by simp [List.length_cons]; try omega, hs⟩] at h1
  have h2 := qx_kd_obj (k := 3) (by decide) hk
  exact Rs_call c106_31 h1 (by rw [show qx_args 59 [.ref t, .int z0] = decide (qx_sh t = some (.inl 3)) from rfl]; exact decide_eq_true h2)
theorem c106_34 : qx_code 106 34 = some (34, .goto 4, 37, 38, 0, 0) := by decide +kernel
theorem s106_34 {L : Nat} {xs : Nat → Int32} {d x : Nat} {M : qxM} {st : List Value} {ls : qxL} : Rs L xs (d) 106 34 ls st M x = Rs L xs (d) 106 38 ls st M x := Rs_next c106_34 rfl
theorem c106_37 : qx_code 106 37 = some (37, .iconst 0, 38, 0, 0, 0) := by decide +kernel
theorem s106_37 {L : Nat} {xs : Nat → Int32} {d x : Nat} {M : qxM} {st : List Value} {ls : qxL} : Rs L xs (d) 106 37 ls st M x = Rs L xs (d) 106 38 ls (.int (nI 0) :: st) M x := Rs_next c106_37 rfl
theorem c106_38 : qx_code 106 38 = some (38, .ireturn, 39, 0, 0, 0) := by decide +kernel
theorem s106_38 {L : Nat} {xs : Nat → Int32} {d x : Nat} {M : qxM} {ls : qxL} {z : Int32} : Rs L xs (d) 106 38 ls [.int z] M x = some (.inl (some (.int z)), M, x) := Rs_ret c106_38 rfl
theorem c107_0 : qx_code 107 0 = some (0, .aload_n 0, 1, 0, 0, 0) := by decide +kernel
theorem s107_0 {L : Nat} {xs : Nat → Int32} {d x : Nat} {M : qxM} {st : List Value} {a1 : Option Value} {z : Nat} : Rs L xs (d) 107 0 [some (.ref z), a1] st M x = Rs L xs (d) 107 1 [some (.ref z), a1] (.ref z :: st) M x := Rs_next c107_0 rfl
theorem c107_1 : qx_code 107 1 = some (1, .iload_n 1, 2, 0, 0, 0) := by decide +kernel
theorem s107_1 {L : Nat} {xs : Nat → Int32} {d x : Nat} {M : qxM} {st : List Value} {a0 : Option Value} {z : Int32} : Rs L xs (d) 107 1 [a0, some (.int z)] st M x = Rs L xs (d) 107 2 [a0, some (.int z)] (.int z :: st) M x := Rs_next c107_1 rfl
theorem c107_2 : qx_code 107 2 = some (2, .invokevirtual 148, 5, 160, 2, 780) := by decide +kernel
theorem s107_2 {L : Nat} {xs : Nat → Int32} {d x : Nat} {M : qxM} {st : List Value} {ls : qxL} {t : Nat} {z0 : Int32} (hk : qx_kd t = 17) (hs : st.length ≤ 4) : Rs L xs (d + 1) 107 2 ls (.int z0 :: .ref t :: st) M x = (Rs L xs d 160 0 [some (.ref t), some (.int z0)] [] M 0).bind (qx_kn L xs (d + 1) 107 2 5 160 ls st x) := by
  have h1 : qx_act L xs (qx_rt 107) (2, .invokevirtual 148, 5, 160, 2, 780) ls (.int z0 :: .ref t :: st) M = if 2 ≤ (.int z0 :: .ref t :: st).length ∧ st.length ≤ 4 then some (.inr (.inr (.inr (160, [.ref t, .int z0], st)))) else none := rfl
  rw [if_pos ⟨by simp [List.length_cons]; try omega, hs⟩] at h1
  have h2 := qx_kd_obj (k := 7) (by decide) hk
  exact Rs_call c107_2 h1 (by rw [show qx_args 160 [.ref t, .int z0] = decide (qx_sh t = some (.inl 7)) from rfl]; exact decide_eq_true h2)
theorem c107_5 : qx_code 107 5 = some (5, .aload_n 0, 6, 0, 0, 0) := by decide +kernel
theorem s107_5 {L : Nat} {xs : Nat → Int32} {d x : Nat} {M : qxM} {st : List Value} {a1 : Option Value} {z : Nat} : Rs L xs (d) 107 5 [some (.ref z), a1] st M x = Rs L xs (d) 107 6 [some (.ref z), a1] (.ref z :: st) M x := Rs_next c107_5 rfl
theorem c107_6 : qx_code 107 6 = some (6, .getfield 33, 9, 7, 3, 384) := by decide +kernel
theorem s107_6 {L : Nat} {xs : Nat → Int32} {d x : Nat} {M : qxM} {st : List Value} {ls : qxL} {t : Nat} (hk : qx_kd t = 17) : Rs L xs (d) 107 6 ls (.ref t :: st) M x = Rs L xs (d) 107 9 ls (.ref (t + 90) :: st) M x := Rs_when (qx_kd_obj (k := 7) (by decide) hk) c107_6 rfl
theorem c107_9 : qx_code 107 9 = some (9, .getfield 180, 12, 4, 1, 358) := by decide +kernel
theorem s107_9 {L : Nat} {xs : Nat → Int32} {d x : Nat} {M : qxM} {st : List Value} {ls : qxL} {t : Nat} (hk : qx_kd t = 14) : Rs L xs (d) 107 9 ls (.ref t :: st) M x = Rs L xs (d) 107 12 ls (.ref (t + 4) :: st) M x := Rs_when (qx_kd_obj (k := 4) (by decide) hk) c107_9 rfl
theorem c107_12 : qx_code 107 12 = some (12, .invokevirtual 189, 15, 56, 1, 835) := by decide +kernel
theorem s107_12 {L : Nat} {xs : Nat → Int32} {d x : Nat} {M : qxM} {st : List Value} {ls : qxL} {t : Nat} (hk : qx_kd t = 13) (hs : st.length ≤ 4) : Rs L xs (d + 1) 107 12 ls (.ref t :: st) M x = (Rs L xs d 56 0 [some (.ref t)] [] M 0).bind (qx_kn L xs (d + 1) 107 12 15 56 ls st x) := by
  have h1 : qx_act L xs (qx_rt 107) (12, .invokevirtual 189, 15, 56, 1, 835) ls (.ref t :: st) M = if 1 ≤ (.ref t :: st).length ∧ st.length ≤ 4 then some (.inr (.inr (.inr (56, [.ref t], st)))) else none := rfl
  rw [if_pos ⟨by simp [List.length_cons]; try omega, hs⟩] at h1
  have h2 := qx_kd_obj (k := 3) (by decide) hk
  exact Rs_call c107_12 h1 (by rw [show qx_args 56 [.ref t] = decide (qx_sh t = some (.inl 3)) from rfl]; exact decide_eq_true h2)
theorem c107_15 : qx_code 107 15 = some (15, .ifCond .eq 17, 18, 32, 0, 0) := by decide +kernel
theorem s107_15 {L : Nat} {xs : Nat → Int32} {d x : Nat} {M : qxM} {st : List Value} {ls : qxL} {z : Int32} : Rs L xs (d) 107 15 ls (.int z :: st) M x = if z = 0 then Rs L xs (d) 107 32 ls st M x else Rs L xs (d) 107 18 ls st M x := Rs_ite c107_15 rfl
theorem c107_18 : qx_code 107 18 = some (18, .aload_n 0, 19, 0, 0, 0) := by decide +kernel
theorem s107_18 {L : Nat} {xs : Nat → Int32} {d x : Nat} {M : qxM} {st : List Value} {a1 : Option Value} {z : Nat} : Rs L xs (d) 107 18 [some (.ref z), a1] st M x = Rs L xs (d) 107 19 [some (.ref z), a1] (.ref z :: st) M x := Rs_next c107_18 rfl
theorem c107_19 : qx_code 107 19 = some (19, .getfield 33, 22, 7, 3, 384) := by decide +kernel
theorem s107_19 {L : Nat} {xs : Nat → Int32} {d x : Nat} {M : qxM} {st : List Value} {ls : qxL} {t : Nat} (hk : qx_kd t = 17) : Rs L xs (d) 107 19 ls (.ref t :: st) M x = Rs L xs (d) 107 22 ls (.ref (t + 90) :: st) M x := Rs_when (qx_kd_obj (k := 7) (by decide) hk) c107_19 rfl
theorem c107_22 : qx_code 107 22 = some (22, .getfield 180, 25, 4, 1, 358) := by decide +kernel
theorem s107_22 {L : Nat} {xs : Nat → Int32} {d x : Nat} {M : qxM} {st : List Value} {ls : qxL} {t : Nat} (hk : qx_kd t = 14) : Rs L xs (d) 107 22 ls (.ref t :: st) M x = Rs L xs (d) 107 25 ls (.ref (t + 4) :: st) M x := Rs_when (qx_kd_obj (k := 4) (by decide) hk) c107_22 rfl
theorem c107_25 : qx_code 107 25 = some (25, .iload_n 1, 26, 0, 0, 0) := by decide +kernel
theorem s107_25 {L : Nat} {xs : Nat → Int32} {d x : Nat} {M : qxM} {st : List Value} {a0 : Option Value} {z : Int32} : Rs L xs (d) 107 25 [a0, some (.int z)] st M x = Rs L xs (d) 107 26 [a0, some (.int z)] (.int z :: st) M x := Rs_next c107_25 rfl
theorem c107_26 : qx_code 107 26 = some (26, .invokevirtual 217, 29, 58, 2, 851) := by decide +kernel
theorem s107_26 {L : Nat} {xs : Nat → Int32} {d x : Nat} {M : qxM} {st : List Value} {ls : qxL} {t : Nat} {z0 : Int32} (hk : qx_kd t = 13) (hs : st.length ≤ 4) : Rs L xs (d + 1) 107 26 ls (.int z0 :: .ref t :: st) M x = (Rs L xs d 58 0 [some (.ref t), some (.int z0)] [] M 0).bind (qx_kn L xs (d + 1) 107 26 29 58 ls st x) := by
  have h1 : qx_act L xs (qx_rt 107) (26, .invokevirtual 217, 29, 58, 2, 851) ls (.int z0 :: .ref t :: st) M = if 2 ≤ (.int z0 :: .ref t :: st).length ∧ st.length ≤ 4 then some (.inr (.inr (.inr (58, [.ref t, .int z0], st)))) else none := rfl
  rw [if_pos ⟨by simp [List.length_cons]; try omega, hs⟩] at h1
  have h2 := qx_kd_obj (k := 3) (by decide) hk
  exact Rs_call c107_26 h1 (by rw [show qx_args 58 [.ref t, .int z0] = decide (qx_sh t = some (.inl 3)) from rfl]; exact decide_eq_true h2)
theorem c107_29 : qx_code 107 29 = some (29, .goto 4, 32, 33, 0, 0) := by decide +kernel
theorem s107_29 {L : Nat} {xs : Nat → Int32} {d x : Nat} {M : qxM} {st : List Value} {ls : qxL} : Rs L xs (d) 107 29 ls st M x = Rs L xs (d) 107 33 ls st M x := Rs_next c107_29 rfl
theorem c107_32 : qx_code 107 32 = some (32, .iconst (-1), 33, 0, 0, 0) := by decide +kernel
theorem s107_32 {L : Nat} {xs : Nat → Int32} {d x : Nat} {M : qxM} {st : List Value} {ls : qxL} : Rs L xs (d) 107 32 ls st M x = Rs L xs (d) 107 33 ls (.int (-1) :: st) M x := Rs_next c107_32 rfl
theorem c107_33 : qx_code 107 33 = some (33, .ireturn, 34, 0, 0, 0) := by decide +kernel
theorem s107_33 {L : Nat} {xs : Nat → Int32} {d x : Nat} {M : qxM} {ls : qxL} {z : Int32} : Rs L xs (d) 107 33 ls [.int z] M x = some (.inl (some (.int z)), M, x) := Rs_ret c107_33 rfl
theorem c108_0 : qx_code 108 0 = some (0, .aload_n 0, 1, 0, 0, 0) := by decide +kernel
theorem s108_0 {L : Nat} {xs : Nat → Int32} {d x : Nat} {M : qxM} {st : List Value} {a1 : Option Value} {z : Nat} : Rs L xs (d) 108 0 [some (.ref z), a1] st M x = Rs L xs (d) 108 1 [some (.ref z), a1] (.ref z :: st) M x := Rs_next c108_0 rfl
theorem c108_1 : qx_code 108 1 = some (1, .iload_n 1, 2, 0, 0, 0) := by decide +kernel
theorem s108_1 {L : Nat} {xs : Nat → Int32} {d x : Nat} {M : qxM} {st : List Value} {a0 : Option Value} {z : Int32} : Rs L xs (d) 108 1 [a0, some (.int z)] st M x = Rs L xs (d) 108 2 [a0, some (.int z)] (.int z :: st) M x := Rs_next c108_1 rfl
theorem c108_2 : qx_code 108 2 = some (2, .invokevirtual 148, 5, 160, 2, 780) := by decide +kernel
theorem s108_2 {L : Nat} {xs : Nat → Int32} {d x : Nat} {M : qxM} {st : List Value} {ls : qxL} {t : Nat} {z0 : Int32} (hk : qx_kd t = 17) (hs : st.length ≤ 4) : Rs L xs (d + 1) 108 2 ls (.int z0 :: .ref t :: st) M x = (Rs L xs d 160 0 [some (.ref t), some (.int z0)] [] M 0).bind (qx_kn L xs (d + 1) 108 2 5 160 ls st x) := by
  have h1 : qx_act L xs (qx_rt 108) (2, .invokevirtual 148, 5, 160, 2, 780) ls (.int z0 :: .ref t :: st) M = if 2 ≤ (.int z0 :: .ref t :: st).length ∧ st.length ≤ 4 then some (.inr (.inr (.inr (160, [.ref t, .int z0], st)))) else none := rfl
  rw [if_pos ⟨by simp [List.length_cons]; try omega, hs⟩] at h1
  have h2 := qx_kd_obj (k := 7) (by decide) hk
  exact Rs_call c108_2 h1 (by rw [show qx_args 160 [.ref t, .int z0] = decide (qx_sh t = some (.inl 7)) from rfl]; exact decide_eq_true h2)
theorem c108_5 : qx_code 108 5 = some (5, .aload_n 0, 6, 0, 0, 0) := by decide +kernel
theorem s108_5 {L : Nat} {xs : Nat → Int32} {d x : Nat} {M : qxM} {st : List Value} {a1 : Option Value} {z : Nat} : Rs L xs (d) 108 5 [some (.ref z), a1] st M x = Rs L xs (d) 108 6 [some (.ref z), a1] (.ref z :: st) M x := Rs_next c108_5 rfl
theorem c108_6 : qx_code 108 6 = some (6, .getfield 33, 9, 7, 3, 384) := by decide +kernel
theorem s108_6 {L : Nat} {xs : Nat → Int32} {d x : Nat} {M : qxM} {st : List Value} {ls : qxL} {t : Nat} (hk : qx_kd t = 17) : Rs L xs (d) 108 6 ls (.ref t :: st) M x = Rs L xs (d) 108 9 ls (.ref (t + 90) :: st) M x := Rs_when (qx_kd_obj (k := 7) (by decide) hk) c108_6 rfl
theorem c108_9 : qx_code 108 9 = some (9, .getfield 180, 12, 4, 1, 358) := by decide +kernel
theorem s108_9 {L : Nat} {xs : Nat → Int32} {d x : Nat} {M : qxM} {st : List Value} {ls : qxL} {t : Nat} (hk : qx_kd t = 14) : Rs L xs (d) 108 9 ls (.ref t :: st) M x = Rs L xs (d) 108 12 ls (.ref (t + 4) :: st) M x := Rs_when (qx_kd_obj (k := 4) (by decide) hk) c108_9 rfl
theorem c108_12 : qx_code 108 12 = some (12, .invokevirtual 189, 15, 56, 1, 835) := by decide +kernel
theorem s108_12 {L : Nat} {xs : Nat → Int32} {d x : Nat} {M : qxM} {st : List Value} {ls : qxL} {t : Nat} (hk : qx_kd t = 13) (hs : st.length ≤ 4) : Rs L xs (d + 1) 108 12 ls (.ref t :: st) M x = (Rs L xs d 56 0 [some (.ref t)] [] M 0).bind (qx_kn L xs (d + 1) 108 12 15 56 ls st x) := by
  have h1 : qx_act L xs (qx_rt 108) (12, .invokevirtual 189, 15, 56, 1, 835) ls (.ref t :: st) M = if 1 ≤ (.ref t :: st).length ∧ st.length ≤ 4 then some (.inr (.inr (.inr (56, [.ref t], st)))) else none := rfl
  rw [if_pos ⟨by simp [List.length_cons]; try omega, hs⟩] at h1
  have h2 := qx_kd_obj (k := 3) (by decide) hk
  exact Rs_call c108_12 h1 (by rw [show qx_args 56 [.ref t] = decide (qx_sh t = some (.inl 3)) from rfl]; exact decide_eq_true h2)
theorem c108_15 : qx_code 108 15 = some (15, .ifCond .eq 20, 18, 35, 0, 0) := by decide +kernel
theorem s108_15 {L : Nat} {xs : Nat → Int32} {d x : Nat} {M : qxM} {st : List Value} {ls : qxL} {z : Int32} : Rs L xs (d) 108 15 ls (.int z :: st) M x = if z = 0 then Rs L xs (d) 108 35 ls st M x else Rs L xs (d) 108 18 ls st M x := Rs_ite c108_15 rfl
theorem c108_18 : qx_code 108 18 = some (18, .aload_n 0, 19, 0, 0, 0) := by decide +kernel
theorem s108_18 {L : Nat} {xs : Nat → Int32} {d x : Nat} {M : qxM} {st : List Value} {a1 : Option Value} {z : Nat} : Rs L xs (d) 108 18 [some (.ref z), a1] st M x = Rs L xs (d) 108 19 [some (.ref z), a1] (.ref z :: st) M x := Rs_next c108_18 rfl
theorem c108_19 : qx_code 108 19 = some (19, .getfield 33, 22, 7, 3, 384) := by decide +kernel
theorem s108_19 {L : Nat} {xs : Nat → Int32} {d x : Nat} {M : qxM} {st : List Value} {ls : qxL} {t : Nat} (hk : qx_kd t = 17) : Rs L xs (d) 108 19 ls (.ref t :: st) M x = Rs L xs (d) 108 22 ls (.ref (t + 90) :: st) M x := Rs_when (qx_kd_obj (k := 7) (by decide) hk) c108_19 rfl
theorem c108_22 : qx_code 108 22 = some (22, .getfield 180, 25, 4, 1, 358) := by decide +kernel
theorem s108_22 {L : Nat} {xs : Nat → Int32} {d x : Nat} {M : qxM} {st : List Value} {ls : qxL} {t : Nat} (hk : qx_kd t = 14) : Rs L xs (d) 108 22 ls (.ref t :: st) M x = Rs L xs (d) 108 25 ls (.ref (t + 4) :: st) M x := Rs_when (qx_kd_obj (k := 4) (by decide) hk) c108_22 rfl
theorem c108_25 : qx_code 108 25 = some (25, .getfield 223, 28, 3, 11, 317) := by decide +kernel
theorem s108_25 {L : Nat} {xs : Nat → Int32} {d x : Nat} {M : qxM} {st : List Value} {ls : qxL} {t : Nat} (hk : qx_kd t = 13) : Rs L xs (d) 108 25 ls (.ref t :: st) M x = Rs L xs (d) 108 28 ls (.ref (t + 3) :: st) M x := Rs_when (qx_kd_obj (k := 3) (by decide) hk) c108_25 rfl
theorem c108_28 : qx_code 108 28 = some (28, .iload_n 1, 29, 0, 0, 0) := by decide +kernel
theorem s108_28 {L : Nat} {xs : Nat → Int32} {d x : Nat} {M : qxM} {st : List Value} {a0 : Option Value} {z : Int32} : Rs L xs (d) 108 28 [a0, some (.int z)] st M x = Rs L xs (d) 108 29 [a0, some (.int z)] (.int z :: st) M x := Rs_next c108_28 rfl
theorem c108_29 : qx_code 108 29 = some (29, .invokestatic 227, 32, 173, 2, 898) := by decide +kernel
theorem s108_29 {L : Nat} {xs : Nat → Int32} {d x : Nat} {M : qxM} {st : List Value} {ls : qxL} {z0 : Nat} {z1 : Int32} (hs : st.length ≤ 4) : Rs L xs (d + 1) 108 29 ls (.int z1 :: .ref z0 :: st) M x = (Rs L xs d 173 0 [some (.ref z0), some (.int z1)] [] M 0).bind (qx_kn L xs (d + 1) 108 29 32 173 ls st x) := by
  have h1 : qx_act L xs (qx_rt 108) (29, .invokestatic 227, 32, 173, 2, 898) ls (.int z1 :: .ref z0 :: st) M = if 2 ≤ (.int z1 :: .ref z0 :: st).length ∧ st.length ≤ 4 then some (.inr (.inr (.inr (173, [.ref z0, .int z1], st)))) else none := rfl
  rw [if_pos ⟨by simp [List.length_cons]; try omega, hs⟩] at h1
  exact Rs_call c108_29 h1 rfl
theorem c108_32 : qx_code 108 32 = some (32, .goto 4, 35, 36, 0, 0) := by decide +kernel
theorem s108_32 {L : Nat} {xs : Nat → Int32} {d x : Nat} {M : qxM} {st : List Value} {ls : qxL} : Rs L xs (d) 108 32 ls st M x = Rs L xs (d) 108 36 ls st M x := Rs_next c108_32 rfl
theorem c108_35 : qx_code 108 35 = some (35, .iconst (-1), 36, 0, 0, 0) := by decide +kernel
theorem s108_35 {L : Nat} {xs : Nat → Int32} {d x : Nat} {M : qxM} {st : List Value} {ls : qxL} : Rs L xs (d) 108 35 ls st M x = Rs L xs (d) 108 36 ls (.int (-1) :: st) M x := Rs_next c108_35 rfl
theorem c108_36 : qx_code 108 36 = some (36, .ireturn, 37, 0, 0, 0) := by decide +kernel
theorem s108_36 {L : Nat} {xs : Nat → Int32} {d x : Nat} {M : qxM} {ls : qxL} {z : Int32} : Rs L xs (d) 108 36 ls [.int z] M x = some (.inl (some (.int z)), M, x) := Rs_ret c108_36 rfl
theorem c109_0 : qx_code 109 0 = some (0, .aload_n 0, 1, 0, 0, 0) := by decide +kernel
theorem s109_0 {L : Nat} {xs : Nat → Int32} {d x : Nat} {M : qxM} {st : List Value} {a1 a2 : Option Value} {z : Nat} : Rs L xs (d) 109 0 [some (.ref z), a1, a2] st M x = Rs L xs (d) 109 1 [some (.ref z), a1, a2] (.ref z :: st) M x := Rs_next c109_0 rfl
theorem c109_1 : qx_code 109 1 = some (1, .iload_n 1, 2, 0, 0, 0) := by decide +kernel
theorem s109_1 {L : Nat} {xs : Nat → Int32} {d x : Nat} {M : qxM} {st : List Value} {a0 a2 : Option Value} {z : Int32} : Rs L xs (d) 109 1 [a0, some (.int z), a2] st M x = Rs L xs (d) 109 2 [a0, some (.int z), a2] (.int z :: st) M x := Rs_next c109_1 rfl
theorem c109_2 : qx_code 109 2 = some (2, .invokevirtual 148, 5, 160, 2, 780) := by decide +kernel
theorem s109_2 {L : Nat} {xs : Nat → Int32} {d x : Nat} {M : qxM} {st : List Value} {ls : qxL} {t : Nat} {z0 : Int32} (hk : qx_kd t = 17) (hs : st.length ≤ 4) : Rs L xs (d + 1) 109 2 ls (.int z0 :: .ref t :: st) M x = (Rs L xs d 160 0 [some (.ref t), some (.int z0)] [] M 0).bind (qx_kn L xs (d + 1) 109 2 5 160 ls st x) := by
  have h1 : qx_act L xs (qx_rt 109) (2, .invokevirtual 148, 5, 160, 2, 780) ls (.int z0 :: .ref t :: st) M = if 2 ≤ (.int z0 :: .ref t :: st).length ∧ st.length ≤ 4 then some (.inr (.inr (.inr (160, [.ref t, .int z0], st)))) else none := rfl
  rw [if_pos ⟨by simp [List.length_cons]; try omega, hs⟩] at h1
  have h2 := qx_kd_obj (k := 7) (by decide) hk
  exact Rs_call c109_2 h1 (by rw [show qx_args 160 [.ref t, .int z0] = decide (qx_sh t = some (.inl 7)) from rfl]; exact decide_eq_true h2)
theorem c109_5 : qx_code 109 5 = some (5, .aload_n 0, 6, 0, 0, 0) := by decide +kernel
theorem s109_5 {L : Nat} {xs : Nat → Int32} {d x : Nat} {M : qxM} {st : List Value} {a1 a2 : Option Value} {z : Nat} : Rs L xs (d) 109 5 [some (.ref z), a1, a2] st M x = Rs L xs (d) 109 6 [some (.ref z), a1, a2] (.ref z :: st) M x := Rs_next c109_5 rfl
theorem c109_6 : qx_code 109 6 = some (6, .getfield 33, 9, 7, 3, 384) := by decide +kernel
theorem s109_6 {L : Nat} {xs : Nat → Int32} {d x : Nat} {M : qxM} {st : List Value} {ls : qxL} {t : Nat} (hk : qx_kd t = 17) : Rs L xs (d) 109 6 ls (.ref t :: st) M x = Rs L xs (d) 109 9 ls (.ref (t + 90) :: st) M x := Rs_when (qx_kd_obj (k := 7) (by decide) hk) c109_6 rfl
theorem c109_9 : qx_code 109 9 = some (9, .getfield 180, 12, 4, 1, 358) := by decide +kernel
theorem s109_9 {L : Nat} {xs : Nat → Int32} {d x : Nat} {M : qxM} {st : List Value} {ls : qxL} {t : Nat} (hk : qx_kd t = 14) : Rs L xs (d) 109 9 ls (.ref t :: st) M x = Rs L xs (d) 109 12 ls (.ref (t + 4) :: st) M x := Rs_when (qx_kd_obj (k := 4) (by decide) hk) c109_9 rfl
theorem c109_12 : qx_code 109 12 = some (12, .invokevirtual 189, 15, 56, 1, 835) := by decide +kernel
theorem s109_12 {L : Nat} {xs : Nat → Int32} {d x : Nat} {M : qxM} {st : List Value} {ls : qxL} {t : Nat} (hk : qx_kd t = 13) (hs : st.length ≤ 4) : Rs L xs (d + 1) 109 12 ls (.ref t :: st) M x = (Rs L xs d 56 0 [some (.ref t)] [] M 0).bind (qx_kn L xs (d + 1) 109 12 15 56 ls st x) := by
  have h1 : qx_act L xs (qx_rt 109) (12, .invokevirtual 189, 15, 56, 1, 835) ls (.ref t :: st) M = if 1 ≤ (.ref t :: st).length ∧ st.length ≤ 4 then some (.inr (.inr (.inr (56, [.ref t], st)))) else none := rfl
  rw [if_pos ⟨by simp [List.length_cons]; try omega, hs⟩] at h1
  have h2 := qx_kd_obj (k := 3) (by decide) hk
  exact Rs_call c109_12 h1 (by rw [show qx_args 56 [.ref t] = decide (qx_sh t = some (.inl 3)) from rfl]; exact decide_eq_true h2)
theorem c109_15 : qx_code 109 15 = some (15, .ifCond .ne 5, 18, 20, 0, 0) := by decide +kernel
theorem s109_15 {L : Nat} {xs : Nat → Int32} {d x : Nat} {M : qxM} {st : List Value} {ls : qxL} {z : Int32} : Rs L xs (d) 109 15 ls (.int z :: st) M x = if z = 0 then Rs L xs (d) 109 18 ls st M x else Rs L xs (d) 109 20 ls st M x := Rs_ite c109_15 rfl
theorem c109_18 : qx_code 109 18 = some (18, .iconst (-1), 19, 0, 0, 0) := by decide +kernel
theorem s109_18 {L : Nat} {xs : Nat → Int32} {d x : Nat} {M : qxM} {st : List Value} {ls : qxL} : Rs L xs (d) 109 18 ls st M x = Rs L xs (d) 109 19 ls (.int (-1) :: st) M x := Rs_next c109_18 rfl
theorem c109_19 : qx_code 109 19 = some (19, .ireturn, 20, 0, 0, 0) := by decide +kernel
theorem s109_19 {L : Nat} {xs : Nat → Int32} {d x : Nat} {M : qxM} {ls : qxL} {z : Int32} : Rs L xs (d) 109 19 ls [.int z] M x = some (.inl (some (.int z)), M, x) := Rs_ret c109_19 rfl
theorem c109_20 : qx_code 109 20 = some (20, .iload_n 2, 21, 0, 0, 0) := by decide +kernel
theorem s109_20 {L : Nat} {xs : Nat → Int32} {d x : Nat} {M : qxM} {st : List Value} {a0 a1 : Option Value} {z : Int32} : Rs L xs (d) 109 20 [a0, a1, some (.int z)] st M x = Rs L xs (d) 109 21 [a0, a1, some (.int z)] (.int z :: st) M x := Rs_next c109_20 rfl
theorem c109_21 : qx_code 109 21 = some (21, .ifCond .eq 16, 24, 37, 0, 0) := by decide +kernel
theorem s109_21 {L : Nat} {xs : Nat → Int32} {d x : Nat} {M : qxM} {st : List Value} {ls : qxL} {z : Int32} : Rs L xs (d) 109 21 ls (.int z :: st) M x = if z = 0 then Rs L xs (d) 109 37 ls st M x else Rs L xs (d) 109 24 ls st M x := Rs_ite c109_21 rfl
theorem c109_24 : qx_code 109 24 = some (24, .aload_n 0, 25, 0, 0, 0) := by decide +kernel
theorem s109_24 {L : Nat} {xs : Nat → Int32} {d x : Nat} {M : qxM} {st : List Value} {a1 a2 : Option Value} {z : Nat} : Rs L xs (d) 109 24 [some (.ref z), a1, a2] st M x = Rs L xs (d) 109 25 [some (.ref z), a1, a2] (.ref z :: st) M x := Rs_next c109_24 rfl
theorem c109_25 : qx_code 109 25 = some (25, .getfield 33, 28, 7, 3, 384) := by decide +kernel
theorem s109_25 {L : Nat} {xs : Nat → Int32} {d x : Nat} {M : qxM} {st : List Value} {ls : qxL} {t : Nat} (hk : qx_kd t = 17) : Rs L xs (d) 109 25 ls (.ref t :: st) M x = Rs L xs (d) 109 28 ls (.ref (t + 90) :: st) M x := Rs_when (qx_kd_obj (k := 7) (by decide) hk) c109_25 rfl
theorem c109_28 : qx_code 109 28 = some (28, .getfield 180, 31, 4, 1, 358) := by decide +kernel
theorem s109_28 {L : Nat} {xs : Nat → Int32} {d x : Nat} {M : qxM} {st : List Value} {ls : qxL} {t : Nat} (hk : qx_kd t = 14) : Rs L xs (d) 109 28 ls (.ref t :: st) M x = Rs L xs (d) 109 31 ls (.ref (t + 4) :: st) M x := Rs_when (qx_kd_obj (k := 4) (by decide) hk) c109_28 rfl
theorem c109_31 : qx_code 109 31 = some (31, .getfield 231, 34, 3, 13, 321) := by decide +kernel
theorem s109_31 {L : Nat} {xs : Nat → Int32} {d x : Nat} {M : qxM} {st : List Value} {ls : qxL} {t : Nat} (hk : qx_kd t = 13) : Rs L xs (d) 109 31 ls (.ref t :: st) M x = Rs L xs (d) 109 34 ls (.ref (t + 5) :: st) M x := Rs_when (qx_kd_obj (k := 3) (by decide) hk) c109_31 rfl
theorem c109_34 : qx_code 109 34 = some (34, .goto 13, 37, 47, 0, 0) := by decide +kernel
theorem s109_34 {L : Nat} {xs : Nat → Int32} {d x : Nat} {M : qxM} {st : List Value} {ls : qxL} : Rs L xs (d) 109 34 ls st M x = Rs L xs (d) 109 47 ls st M x := Rs_next c109_34 rfl
theorem c109_37 : qx_code 109 37 = some (37, .aload_n 0, 38, 0, 0, 0) := by decide +kernel
theorem s109_37 {L : Nat} {xs : Nat → Int32} {d x : Nat} {M : qxM} {st : List Value} {a1 a2 : Option Value} {z : Nat} : Rs L xs (d) 109 37 [some (.ref z), a1, a2] st M x = Rs L xs (d) 109 38 [some (.ref z), a1, a2] (.ref z :: st) M x := Rs_next c109_37 rfl
theorem c109_38 : qx_code 109 38 = some (38, .getfield 33, 41, 7, 3, 384) := by decide +kernel
theorem s109_38 {L : Nat} {xs : Nat → Int32} {d x : Nat} {M : qxM} {st : List Value} {ls : qxL} {t : Nat} (hk : qx_kd t = 17) : Rs L xs (d) 109 38 ls (.ref t :: st) M x = Rs L xs (d) 109 41 ls (.ref (t + 90) :: st) M x := Rs_when (qx_kd_obj (k := 7) (by decide) hk) c109_38 rfl
theorem c109_41 : qx_code 109 41 = some (41, .getfield 180, 44, 4, 1, 358) := by decide +kernel
theorem s109_41 {L : Nat} {xs : Nat → Int32} {d x : Nat} {M : qxM} {st : List Value} {ls : qxL} {t : Nat} (hk : qx_kd t = 14) : Rs L xs (d) 109 41 ls (.ref t :: st) M x = Rs L xs (d) 109 44 ls (.ref (t + 4) :: st) M x := Rs_when (qx_kd_obj (k := 4) (by decide) hk) c109_41 rfl
theorem c109_44 : qx_code 109 44 = some (44, .getfield 234, 47, 3, 12, 319) := by decide +kernel
theorem s109_44 {L : Nat} {xs : Nat → Int32} {d x : Nat} {M : qxM} {st : List Value} {ls : qxL} {t : Nat} (hk : qx_kd t = 13) : Rs L xs (d) 109 44 ls (.ref t :: st) M x = Rs L xs (d) 109 47 ls (.ref (t + 4) :: st) M x := Rs_when (qx_kd_obj (k := 3) (by decide) hk) c109_44 rfl
theorem c109_47 : qx_code 109 47 = some (47, .iload_n 1, 48, 0, 0, 0) := by decide +kernel
theorem s109_47 {L : Nat} {xs : Nat → Int32} {d x : Nat} {M : qxM} {st : List Value} {a0 a2 : Option Value} {z : Int32} : Rs L xs (d) 109 47 [a0, some (.int z), a2] st M x = Rs L xs (d) 109 48 [a0, some (.int z), a2] (.int z :: st) M x := Rs_next c109_47 rfl
theorem c109_48 : qx_code 109 48 = some (48, .invokestatic 227, 51, 173, 2, 898) := by decide +kernel
theorem s109_48 {L : Nat} {xs : Nat → Int32} {d x : Nat} {M : qxM} {st : List Value} {ls : qxL} {z0 : Nat} {z1 : Int32} (hs : st.length ≤ 4) : Rs L xs (d + 1) 109 48 ls (.int z1 :: .ref z0 :: st) M x = (Rs L xs d 173 0 [some (.ref z0), some (.int z1)] [] M 0).bind (qx_kn L xs (d + 1) 109 48 51 173 ls st x) := by
  have h1 : qx_act L xs (qx_rt 109) (48, .invokestatic 227, 51, 173, 2, 898) ls (.int z1 :: .ref z0 :: st) M = if 2 ≤ (.int z1 :: .ref z0 :: st).length ∧ st.length ≤ 4 then some (.inr (.inr (.inr (173, [.ref z0, .int z1], st)))) else none := rfl
  rw [if_pos ⟨by simp [List.length_cons]; try omega, hs⟩] at h1
  exact Rs_call c109_48 h1 rfl
theorem c109_51 : qx_code 109 51 = some (51, .ireturn, 52, 0, 0, 0) := by decide +kernel
theorem s109_51 {L : Nat} {xs : Nat → Int32} {d x : Nat} {M : qxM} {ls : qxL} {z : Int32} : Rs L xs (d) 109 51 ls [.int z] M x = some (.inl (some (.int z)), M, x) := Rs_ret c109_51 rfl
theorem c110_0 : qx_code 110 0 = some (0, .aload_n 0, 1, 0, 0, 0) := by decide +kernel
theorem s110_0 {L : Nat} {xs : Nat → Int32} {d x : Nat} {M : qxM} {st : List Value} {a1 : Option Value} {z : Nat} : Rs L xs (d) 110 0 [some (.ref z), a1] st M x = Rs L xs (d) 110 1 [some (.ref z), a1] (.ref z :: st) M x := Rs_next c110_0 rfl
theorem c110_1 : qx_code 110 1 = some (1, .invokevirtual 107, 4, 159, 1, 728) := by decide +kernel
theorem s110_1 {L : Nat} {xs : Nat → Int32} {d x : Nat} {M : qxM} {st : List Value} {ls : qxL} {t : Nat} (hk : qx_kd t = 17) (hs : st.length ≤ 4) : Rs L xs (d + 1) 110 1 ls (.ref t :: st) M x = (Rs L xs d 159 0 [some (.ref t)] [] M 0).bind (qx_kn L xs (d + 1) 110 1 4 159 ls st x) := by
  have h1 : qx_act L xs (qx_rt 110) (1, .invokevirtual 107, 4, 159, 1, 728) ls (.ref t :: st) M = if 1 ≤ (.ref t :: st).length ∧ st.length ≤ 4 then some (.inr (.inr (.inr (159, [.ref t], st)))) else none := rfl
  rw [if_pos ⟨by simp [List.length_cons]; try omega, hs⟩] at h1
  have h2 := qx_kd_obj (k := 7) (by decide) hk
  exact Rs_call c110_1 h1 (by rw [show qx_args 159 [.ref t] = decide (qx_sh t = some (.inl 7)) from rfl]; exact decide_eq_true h2)
theorem c110_4 : qx_code 110 4 = some (4, .aload_n 0, 5, 0, 0, 0) := by decide +kernel
theorem s110_4 {L : Nat} {xs : Nat → Int32} {d x : Nat} {M : qxM} {st : List Value} {a1 : Option Value} {z : Nat} : Rs L xs (d) 110 4 [some (.ref z), a1] st M x = Rs L xs (d) 110 5 [some (.ref z), a1] (.ref z :: st) M x := Rs_next c110_4 rfl
theorem c110_5 : qx_code 110 5 = some (5, .getfield 33, 8, 7, 3, 384) := by decide +kernel
theorem s110_5 {L : Nat} {xs : Nat → Int32} {d x : Nat} {M : qxM} {st : List Value} {ls : qxL} {t : Nat} (hk : qx_kd t = 17) : Rs L xs (d) 110 5 ls (.ref t :: st) M x = Rs L xs (d) 110 8 ls (.ref (t + 90) :: st) M x := Rs_when (qx_kd_obj (k := 7) (by decide) hk) c110_5 rfl
theorem c110_8 : qx_code 110 8 = some (8, .getfield 180, 11, 4, 1, 358) := by decide +kernel
theorem s110_8 {L : Nat} {xs : Nat → Int32} {d x : Nat} {M : qxM} {st : List Value} {ls : qxL} {t : Nat} (hk : qx_kd t = 14) : Rs L xs (d) 110 8 ls (.ref t :: st) M x = Rs L xs (d) 110 11 ls (.ref (t + 4) :: st) M x := Rs_when (qx_kd_obj (k := 4) (by decide) hk) c110_8 rfl
theorem c110_11 : qx_code 110 11 = some (11, .invokevirtual 189, 14, 56, 1, 835) := by decide +kernel
theorem s110_11 {L : Nat} {xs : Nat → Int32} {d x : Nat} {M : qxM} {st : List Value} {ls : qxL} {t : Nat} (hk : qx_kd t = 13) (hs : st.length ≤ 4) : Rs L xs (d + 1) 110 11 ls (.ref t :: st) M x = (Rs L xs d 56 0 [some (.ref t)] [] M 0).bind (qx_kn L xs (d + 1) 110 11 14 56 ls st x) := by
  have h1 : qx_act L xs (qx_rt 110) (11, .invokevirtual 189, 14, 56, 1, 835) ls (.ref t :: st) M = if 1 ≤ (.ref t :: st).length ∧ st.length ≤ 4 then some (.inr (.inr (.inr (56, [.ref t], st)))) else none := rfl
  rw [if_pos ⟨by simp [List.length_cons]; try omega, hs⟩] at h1
  have h2 := qx_kd_obj (k := 3) (by decide) hk
  exact Rs_call c110_11 h1 (by rw [show qx_args 56 [.ref t] = decide (qx_sh t = some (.inl 3)) from rfl]; exact decide_eq_true h2)
theorem c110_14 : qx_code 110 14 = some (14, .ifCond .eq 17, 17, 31, 0, 0) := by decide +kernel
theorem s110_14 {L : Nat} {xs : Nat → Int32} {d x : Nat} {M : qxM} {st : List Value} {ls : qxL} {z : Int32} : Rs L xs (d) 110 14 ls (.int z :: st) M x = if z = 0 then Rs L xs (d) 110 31 ls st M x else Rs L xs (d) 110 17 ls st M x := Rs_ite c110_14 rfl
theorem c110_17 : qx_code 110 17 = some (17, .aload_n 0, 18, 0, 0, 0) := by decide +kernel
theorem s110_17 {L : Nat} {xs : Nat → Int32} {d x : Nat} {M : qxM} {st : List Value} {a1 : Option Value} {z : Nat} : Rs L xs (d) 110 17 [some (.ref z), a1] st M x = Rs L xs (d) 110 18 [some (.ref z), a1] (.ref z :: st) M x := Rs_next c110_17 rfl
theorem c110_18 : qx_code 110 18 = some (18, .getfield 33, 21, 7, 3, 384) := by decide +kernel
theorem s110_18 {L : Nat} {xs : Nat → Int32} {d x : Nat} {M : qxM} {st : List Value} {ls : qxL} {t : Nat} (hk : qx_kd t = 17) : Rs L xs (d) 110 18 ls (.ref t :: st) M x = Rs L xs (d) 110 21 ls (.ref (t + 90) :: st) M x := Rs_when (qx_kd_obj (k := 7) (by decide) hk) c110_18 rfl
theorem c110_21 : qx_code 110 21 = some (21, .getfield 180, 24, 4, 1, 358) := by decide +kernel
theorem s110_21 {L : Nat} {xs : Nat → Int32} {d x : Nat} {M : qxM} {st : List Value} {ls : qxL} {t : Nat} (hk : qx_kd t = 14) : Rs L xs (d) 110 21 ls (.ref t :: st) M x = Rs L xs (d) 110 24 ls (.ref (t + 4) :: st) M x := Rs_when (qx_kd_obj (k := 4) (by decide) hk) c110_21 rfl
theorem c110_24 : qx_code 110 24 = some (24, .iload_n 1, 25, 0, 0, 0) := by decide +kernel
theorem s110_24 {L : Nat} {xs : Nat → Int32} {d x : Nat} {M : qxM} {st : List Value} {a0 : Option Value} {z : Int32} : Rs L xs (d) 110 24 [a0, some (.int z)] st M x = Rs L xs (d) 110 25 [a0, some (.int z)] (.int z :: st) M x := Rs_next c110_24 rfl
theorem c110_25 : qx_code 110 25 = some (25, .invokevirtual 237, 28, 61, 2, 915) := by decide +kernel
theorem s110_25 {L : Nat} {xs : Nat → Int32} {d x : Nat} {M : qxM} {st : List Value} {ls : qxL} {t : Nat} {z0 : Int32} (hk : qx_kd t = 13) (hs : st.length ≤ 4) : Rs L xs (d + 1) 110 25 ls (.int z0 :: .ref t :: st) M x = (Rs L xs d 61 0 [some (.ref t), some (.int z0)] [] M 0).bind (qx_kn L xs (d + 1) 110 25 28 61 ls st x) := by
  have h1 : qx_act L xs (qx_rt 110) (25, .invokevirtual 237, 28, 61, 2, 915) ls (.int z0 :: .ref t :: st) M = if 2 ≤ (.int z0 :: .ref t :: st).length ∧ st.length ≤ 4 then some (.inr (.inr (.inr (61, [.ref t, .int z0], st)))) else none := rfl
  rw [if_pos ⟨by simp [List.length_cons]; try omega, hs⟩] at h1
  have h2 := qx_kd_obj (k := 3) (by decide) hk
  exact Rs_call c110_25 h1 (by rw [show qx_args 61 [.ref t, .int z0] = decide (qx_sh t = some (.inl 3)) from rfl]; exact decide_eq_true h2)
theorem c110_28 : qx_code 110 28 = some (28, .goto 4, 31, 32, 0, 0) := by decide +kernel
theorem s110_28 {L : Nat} {xs : Nat → Int32} {d x : Nat} {M : qxM} {st : List Value} {ls : qxL} : Rs L xs (d) 110 28 ls st M x = Rs L xs (d) 110 32 ls st M x := Rs_next c110_28 rfl
theorem c110_31 : qx_code 110 31 = some (31, .iconst (-1), 32, 0, 0, 0) := by decide +kernel
theorem s110_31 {L : Nat} {xs : Nat → Int32} {d x : Nat} {M : qxM} {st : List Value} {ls : qxL} : Rs L xs (d) 110 31 ls st M x = Rs L xs (d) 110 32 ls (.int (-1) :: st) M x := Rs_next c110_31 rfl
theorem c110_32 : qx_code 110 32 = some (32, .ireturn, 33, 0, 0, 0) := by decide +kernel
theorem s110_32 {L : Nat} {xs : Nat → Int32} {d x : Nat} {M : qxM} {ls : qxL} {z : Int32} : Rs L xs (d) 110 32 ls [.int z] M x = some (.inl (some (.int z)), M, x) := Rs_ret c110_32 rfl
theorem c111_0 : qx_code 111 0 = some (0, .aload_n 0, 1, 0, 0, 0) := by decide +kernel
theorem s111_0 {L : Nat} {xs : Nat → Int32} {d x : Nat} {M : qxM} {st : List Value} {a1 : Option Value} {z : Nat} : Rs L xs (d) 111 0 [some (.ref z), a1] st M x = Rs L xs (d) 111 1 [some (.ref z), a1] (.ref z :: st) M x := Rs_next c111_0 rfl
theorem c111_1 : qx_code 111 1 = some (1, .invokevirtual 107, 4, 159, 1, 728) := by decide +kernel
theorem s111_1 {L : Nat} {xs : Nat → Int32} {d x : Nat} {M : qxM} {st : List Value} {ls : qxL} {t : Nat} (hk : qx_kd t = 17) (hs : st.length ≤ 4) : Rs L xs (d + 1) 111 1 ls (.ref t :: st) M x = (Rs L xs d 159 0 [some (.ref t)] [] M 0).bind (qx_kn L xs (d + 1) 111 1 4 159 ls st x) := by
  have h1 : qx_act L xs (qx_rt 111) (1, .invokevirtual 107, 4, 159, 1, 728) ls (.ref t :: st) M = if 1 ≤ (.ref t :: st).length ∧ st.length ≤ 4 then some (.inr (.inr (.inr (159, [.ref t], st)))) else none := rfl
  rw [if_pos ⟨by simp [List.length_cons]; try omega, hs⟩] at h1
  have h2 := qx_kd_obj (k := 7) (by decide) hk
  exact Rs_call c111_1 h1 (by rw [show qx_args 159 [.ref t] = decide (qx_sh t = some (.inl 7)) from rfl]; exact decide_eq_true h2)
theorem c111_4 : qx_code 111 4 = some (4, .aload_n 0, 5, 0, 0, 0) := by decide +kernel
theorem s111_4 {L : Nat} {xs : Nat → Int32} {d x : Nat} {M : qxM} {st : List Value} {a1 : Option Value} {z : Nat} : Rs L xs (d) 111 4 [some (.ref z), a1] st M x = Rs L xs (d) 111 5 [some (.ref z), a1] (.ref z :: st) M x := Rs_next c111_4 rfl
theorem c111_5 : qx_code 111 5 = some (5, .getfield 33, 8, 7, 3, 384) := by decide +kernel
theorem s111_5 {L : Nat} {xs : Nat → Int32} {d x : Nat} {M : qxM} {st : List Value} {ls : qxL} {t : Nat} (hk : qx_kd t = 17) : Rs L xs (d) 111 5 ls (.ref t :: st) M x = Rs L xs (d) 111 8 ls (.ref (t + 90) :: st) M x := Rs_when (qx_kd_obj (k := 7) (by decide) hk) c111_5 rfl
theorem c111_8 : qx_code 111 8 = some (8, .getfield 180, 11, 4, 1, 358) := by decide +kernel
theorem s111_8 {L : Nat} {xs : Nat → Int32} {d x : Nat} {M : qxM} {st : List Value} {ls : qxL} {t : Nat} (hk : qx_kd t = 14) : Rs L xs (d) 111 8 ls (.ref t :: st) M x = Rs L xs (d) 111 11 ls (.ref (t + 4) :: st) M x := Rs_when (qx_kd_obj (k := 4) (by decide) hk) c111_8 rfl
theorem c111_11 : qx_code 111 11 = some (11, .getfield 184, 14, 3, 0, 298) := by decide +kernel
theorem s111_11 {L : Nat} {xs : Nat → Int32} {d x : Nat} {M : qxM} {st : List Value} {ls : qxL} {t : Nat} (hk : qx_kd t = 13) : Rs L xs (d) 111 11 ls (.ref t :: st) M x = Rs L xs (d) 111 14 ls (.int (M.1 t 0) :: st) M x := Rs_when (qx_kd_obj (k := 3) (by decide) hk) c111_11 rfl
theorem c111_14 : qx_code 111 14 = some (14, .iconst 1, 15, 0, 0, 0) := by decide +kernel
theorem s111_14 {L : Nat} {xs : Nat → Int32} {d x : Nat} {M : qxM} {st : List Value} {ls : qxL} : Rs L xs (d) 111 14 ls st M x = Rs L xs (d) 111 15 ls (.int (nI 1) :: st) M x := Rs_next c111_14 rfl
theorem c111_15 : qx_code 111 15 = some (15, .if_icmp .eq 5, 18, 20, 0, 0) := by decide +kernel
theorem s111_15 {L : Nat} {xs : Nat → Int32} {d x : Nat} {M : qxM} {st : List Value} {ls : qxL} {z y : Int32} : Rs L xs (d) 111 15 ls (.int y :: .int z :: st) M x = if z = y then Rs L xs (d) 111 20 ls st M x else Rs L xs (d) 111 18 ls st M x := Rs_ite c111_15 rfl
theorem c111_18 : qx_code 111 18 = some (18, .iconst (-1), 19, 0, 0, 0) := by decide +kernel
theorem s111_18 {L : Nat} {xs : Nat → Int32} {d x : Nat} {M : qxM} {st : List Value} {ls : qxL} : Rs L xs (d) 111 18 ls st M x = Rs L xs (d) 111 19 ls (.int (-1) :: st) M x := Rs_next c111_18 rfl
theorem c111_19 : qx_code 111 19 = some (19, .ireturn, 20, 0, 0, 0) := by decide +kernel
theorem s111_19 {L : Nat} {xs : Nat → Int32} {d x : Nat} {M : qxM} {ls : qxL} {z : Int32} : Rs L xs (d) 111 19 ls [.int z] M x = some (.inl (some (.int z)), M, x) := Rs_ret c111_19 rfl
theorem c111_20 : qx_code 111 20 = some (20, .aload_n 0, 21, 0, 0, 0) := by decide +kernel
theorem s111_20 {L : Nat} {xs : Nat → Int32} {d x : Nat} {M : qxM} {st : List Value} {a1 : Option Value} {z : Nat} : Rs L xs (d) 111 20 [some (.ref z), a1] st M x = Rs L xs (d) 111 21 [some (.ref z), a1] (.ref z :: st) M x := Rs_next c111_20 rfl
theorem c111_21 : qx_code 111 21 = some (21, .getfield 33, 24, 7, 3, 384) := by decide +kernel
theorem s111_21 {L : Nat} {xs : Nat → Int32} {d x : Nat} {M : qxM} {st : List Value} {ls : qxL} {t : Nat} (hk : qx_kd t = 17) : Rs L xs (d) 111 21 ls (.ref t :: st) M x = Rs L xs (d) 111 24 ls (.ref (t + 90) :: st) M x := Rs_when (qx_kd_obj (k := 7) (by decide) hk) c111_21 rfl
theorem c111_24 : qx_code 111 24 = some (24, .getfield 180, 27, 4, 1, 358) := by decide +kernel
theorem s111_24 {L : Nat} {xs : Nat → Int32} {d x : Nat} {M : qxM} {st : List Value} {ls : qxL} {t : Nat} (hk : qx_kd t = 14) : Rs L xs (d) 111 24 ls (.ref t :: st) M x = Rs L xs (d) 111 27 ls (.ref (t + 4) :: st) M x := Rs_when (qx_kd_obj (k := 4) (by decide) hk) c111_24 rfl
theorem c111_27 : qx_code 111 27 = some (27, .aload_n 0, 28, 0, 0, 0) := by decide +kernel
theorem s111_27 {L : Nat} {xs : Nat → Int32} {d x : Nat} {M : qxM} {st : List Value} {a1 : Option Value} {z : Nat} : Rs L xs (d) 111 27 [some (.ref z), a1] st M x = Rs L xs (d) 111 28 [some (.ref z), a1] (.ref z :: st) M x := Rs_next c111_27 rfl
theorem c111_28 : qx_code 111 28 = some (28, .getfield 33, 31, 7, 3, 384) := by decide +kernel
theorem s111_28 {L : Nat} {xs : Nat → Int32} {d x : Nat} {M : qxM} {st : List Value} {ls : qxL} {t : Nat} (hk : qx_kd t = 17) : Rs L xs (d) 111 28 ls (.ref t :: st) M x = Rs L xs (d) 111 31 ls (.ref (t + 90) :: st) M x := Rs_when (qx_kd_obj (k := 7) (by decide) hk) c111_28 rfl
theorem c111_31 : qx_code 111 31 = some (31, .getfield 93, 34, 4, 0, 356) := by decide +kernel
theorem s111_31 {L : Nat} {xs : Nat → Int32} {d x : Nat} {M : qxM} {st : List Value} {ls : qxL} {t : Nat} (hk : qx_kd t = 14) : Rs L xs (d) 111 31 ls (.ref t :: st) M x = Rs L xs (d) 111 34 ls (.ref (t + 1) :: st) M x := Rs_when (qx_kd_obj (k := 4) (by decide) hk) c111_31 rfl
theorem c111_34 : qx_code 111 34 = some (34, .invokevirtual 240, 37, 63, 2, 928) := by decide +kernel
theorem s111_34 {L : Nat} {xs : Nat → Int32} {d x : Nat} {M : qxM} {st : List Value} {ls : qxL} {t : Nat} {z0 : Nat} (hk : qx_kd t = 13) (hs : st.length ≤ 4) : Rs L xs (d + 1) 111 34 ls (.ref z0 :: .ref t :: st) M x = (Rs L xs d 63 0 [some (.ref t), some (.ref z0), none, none] [] M 0).bind (qx_kn L xs (d + 1) 111 34 37 63 ls st x) := by
  have h1 : qx_act L xs (qx_rt 111) (34, .invokevirtual 240, 37, 63, 2, 928) ls (.ref z0 :: .ref t :: st) M = if 2 ≤ (.ref z0 :: .ref t :: st).length ∧ st.length ≤ 4 then some (.inr (.inr (.inr (63, [.ref t, .ref z0], st)))) else none := rfl
  rw [if_pos ⟨by simp [List.length_cons]; try omega, hs⟩] at h1
  have h2 := qx_kd_obj (k := 3) (by decide) hk
  exact Rs_call c111_34 h1 (by rw [show qx_args 63 [.ref t, .ref z0] = decide (qx_sh t = some (.inl 3)) from rfl]; exact decide_eq_true h2)
theorem c111_37 : qx_code 111 37 = some (37, .istore_n 1, 38, 0, 0, 0) := by decide +kernel
theorem s111_37i {L : Nat} {xs : Nat → Int32} {d x : Nat} {M : qxM} {st : List Value} {a1 : Option Value} {z : Int32} {y : Int32} : Rs L xs (d) 111 37 [some (.int y), a1] (.int z :: st) M x = Rs L xs (d) 111 38 [some (.int y), some (.int z)] st M x := Rs_next c111_37 rfl
theorem s111_37r {L : Nat} {xs : Nat → Int32} {d x : Nat} {M : qxM} {st : List Value} {a1 : Option Value} {z : Int32} {y : Nat} : Rs L xs (d) 111 37 [some (.ref y), a1] (.int z :: st) M x = Rs L xs (d) 111 38 [some (.ref y), some (.int z)] st M x := Rs_next c111_37 rfl
theorem s111_37n {L : Nat} {xs : Nat → Int32} {d x : Nat} {M : qxM} {st : List Value} {a1 : Option Value} {z : Int32} : Rs L xs (d) 111 37 [none, a1] (.int z :: st) M x = Rs L xs (d) 111 38 [none, some (.int z)] st M x := Rs_next c111_37 rfl
theorem c111_38 : qx_code 111 38 = some (38, .bipush 100, 40, 0, 0, 0) := by decide +kernel
theorem s111_38 {L : Nat} {xs : Nat → Int32} {d x : Nat} {M : qxM} {st : List Value} {ls : qxL} : Rs L xs (d) 111 38 ls st M x = Rs L xs (d) 111 40 ls (.int (nI 100) :: st) M x := Rs_next c111_38 rfl
theorem c111_40 : qx_code 111 40 = some (40, .aload_n 0, 41, 0, 0, 0) := by decide +kernel
theorem s111_40 {L : Nat} {xs : Nat → Int32} {d x : Nat} {M : qxM} {st : List Value} {a1 : Option Value} {z : Nat} : Rs L xs (d) 111 40 [some (.ref z), a1] st M x = Rs L xs (d) 111 41 [some (.ref z), a1] (.ref z :: st) M x := Rs_next c111_40 rfl
theorem c111_41 : qx_code 111 41 = some (41, .getfield 33, 44, 7, 3, 384) := by decide +kernel
theorem s111_41 {L : Nat} {xs : Nat → Int32} {d x : Nat} {M : qxM} {st : List Value} {ls : qxL} {t : Nat} (hk : qx_kd t = 17) : Rs L xs (d) 111 41 ls (.ref t :: st) M x = Rs L xs (d) 111 44 ls (.ref (t + 90) :: st) M x := Rs_when (qx_kd_obj (k := 7) (by decide) hk) c111_41 rfl
theorem c111_44 : qx_code 111 44 = some (44, .getfield 180, 47, 4, 1, 358) := by decide +kernel
theorem s111_44 {L : Nat} {xs : Nat → Int32} {d x : Nat} {M : qxM} {st : List Value} {ls : qxL} {t : Nat} (hk : qx_kd t = 14) : Rs L xs (d) 111 44 ls (.ref t :: st) M x = Rs L xs (d) 111 47 ls (.ref (t + 4) :: st) M x := Rs_when (qx_kd_obj (k := 4) (by decide) hk) c111_44 rfl
theorem c111_47 : qx_code 111 47 = some (47, .iconst 0, 48, 0, 0, 0) := by decide +kernel
theorem s111_47 {L : Nat} {xs : Nat → Int32} {d x : Nat} {M : qxM} {st : List Value} {ls : qxL} : Rs L xs (d) 111 47 ls st M x = Rs L xs (d) 111 48 ls (.int (nI 0) :: st) M x := Rs_next c111_47 rfl
theorem c111_48 : qx_code 111 48 = some (48, .invokevirtual 237, 51, 61, 2, 915) := by decide +kernel
theorem s111_48 {L : Nat} {xs : Nat → Int32} {d x : Nat} {M : qxM} {st : List Value} {ls : qxL} {t : Nat} {z0 : Int32} (hk : qx_kd t = 13) (hs : st.length ≤ 4) : Rs L xs (d + 1) 111 48 ls (.int z0 :: .ref t :: st) M x = (Rs L xs d 61 0 [some (.ref t), some (.int z0)] [] M 0).bind (qx_kn L xs (d + 1) 111 48 51 61 ls st x) := by
  have h1 : qx_act L xs (qx_rt 111) (48, .invokevirtual 237, 51, 61, 2, 915) ls (.int z0 :: .ref t :: st) M = if 2 ≤ (.int z0 :: .ref t :: st).length ∧ st.length ≤ 4 then some (.inr (.inr (.inr (61, [.ref t, .int z0], st)))) else none := rfl
  rw [if_pos ⟨by simp [List.length_cons]; try omega, hs⟩] at h1
  have h2 := qx_kd_obj (k := 3) (by decide) hk
  exact Rs_call c111_48 h1 (by rw [show qx_args 61 [.ref t, .int z0] = decide (qx_sh t = some (.inl 3)) from rfl]; exact decide_eq_true h2)
theorem c111_51 : qx_code 111 51 = some (51, .imul, 52, 0, 0, 0) := by decide +kernel
theorem s111_51 {L : Nat} {xs : Nat → Int32} {d x : Nat} {M : qxM} {st : List Value} {ls : qxL} {z y : Int32} : Rs L xs (d) 111 51 ls (.int y :: .int z :: st) M x = Rs L xs (d) 111 52 ls (.int (z * y) :: st) M x := Rs_next c111_51 rfl
theorem c111_52 : qx_code 111 52 = some (52, .iload_n 1, 53, 0, 0, 0) := by decide +kernel
theorem s111_52 {L : Nat} {xs : Nat → Int32} {d x : Nat} {M : qxM} {st : List Value} {a0 : Option Value} {z : Int32} : Rs L xs (d) 111 52 [a0, some (.int z)] st M x = Rs L xs (d) 111 53 [a0, some (.int z)] (.int z :: st) M x := Rs_next c111_52 rfl
theorem c111_53 : qx_code 111 53 = some (53, .iconst (-1), 54, 0, 0, 0) := by decide +kernel
theorem s111_53 {L : Nat} {xs : Nat → Int32} {d x : Nat} {M : qxM} {st : List Value} {ls : qxL} : Rs L xs (d) 111 53 ls st M x = Rs L xs (d) 111 54 ls (.int (-1) :: st) M x := Rs_next c111_53 rfl
theorem c111_54 : qx_code 111 54 = some (54, .if_icmp .ne 8, 57, 62, 0, 0) := by decide +kernel
theorem s111_54 {L : Nat} {xs : Nat → Int32} {d x : Nat} {M : qxM} {st : List Value} {ls : qxL} {z y : Int32} : Rs L xs (d) 111 54 ls (.int y :: .int z :: st) M x = if z = y then Rs L xs (d) 111 57 ls st M x else Rs L xs (d) 111 62 ls st M x := Rs_ite c111_54 rfl
theorem c111_57 : qx_code 111 57 = some (57, .bipush 99, 59, 0, 0, 0) := by decide +kernel
theorem s111_57 {L : Nat} {xs : Nat → Int32} {d x : Nat} {M : qxM} {st : List Value} {ls : qxL} : Rs L xs (d) 111 57 ls st M x = Rs L xs (d) 111 59 ls (.int (nI 99) :: st) M x := Rs_next c111_57 rfl
theorem c111_59 : qx_code 111 59 = some (59, .goto 4, 62, 63, 0, 0) := by decide +kernel
theorem s111_59 {L : Nat} {xs : Nat → Int32} {d x : Nat} {M : qxM} {st : List Value} {ls : qxL} : Rs L xs (d) 111 59 ls st M x = Rs L xs (d) 111 63 ls st M x := Rs_next c111_59 rfl
theorem c111_62 : qx_code 111 62 = some (62, .iload_n 1, 63, 0, 0, 0) := by decide +kernel
theorem s111_62 {L : Nat} {xs : Nat → Int32} {d x : Nat} {M : qxM} {st : List Value} {a0 : Option Value} {z : Int32} : Rs L xs (d) 111 62 [a0, some (.int z)] st M x = Rs L xs (d) 111 63 [a0, some (.int z)] (.int z :: st) M x := Rs_next c111_62 rfl
theorem c111_63 : qx_code 111 63 = some (63, .iadd, 64, 0, 0, 0) := by decide +kernel
theorem s111_63 {L : Nat} {xs : Nat → Int32} {d x : Nat} {M : qxM} {st : List Value} {ls : qxL} {z y : Int32} : Rs L xs (d) 111 63 ls (.int y :: .int z :: st) M x = Rs L xs (d) 111 64 ls (.int (z + y) :: st) M x := Rs_next c111_63 rfl
theorem c111_64 : qx_code 111 64 = some (64, .ireturn, 65, 0, 0, 0) := by decide +kernel
theorem s111_64 {L : Nat} {xs : Nat → Int32} {d x : Nat} {M : qxM} {ls : qxL} {z : Int32} : Rs L xs (d) 111 64 ls [.int z] M x = some (.inl (some (.int z)), M, x) := Rs_ret c111_64 rfl
theorem c112_0 : qx_code 112 0 = some (0, .aload_n 0, 1, 0, 0, 0) := by decide +kernel
theorem s112_0 {L : Nat} {xs : Nat → Int32} {d x : Nat} {M : qxM} {st : List Value} {a1 : Option Value} {z : Nat} : Rs L xs (d) 112 0 [some (.ref z), a1] st M x = Rs L xs (d) 112 1 [some (.ref z), a1] (.ref z :: st) M x := Rs_next c112_0 rfl
theorem c112_1 : qx_code 112 1 = some (1, .iload_n 1, 2, 0, 0, 0) := by decide +kernel
theorem s112_1 {L : Nat} {xs : Nat → Int32} {d x : Nat} {M : qxM} {st : List Value} {a0 : Option Value} {z : Int32} : Rs L xs (d) 112 1 [a0, some (.int z)] st M x = Rs L xs (d) 112 2 [a0, some (.int z)] (.int z :: st) M x := Rs_next c112_1 rfl
theorem c112_2 : qx_code 112 2 = some (2, .invokevirtual 148, 5, 160, 2, 780) := by decide +kernel
theorem s112_2 {L : Nat} {xs : Nat → Int32} {d x : Nat} {M : qxM} {st : List Value} {ls : qxL} {t : Nat} {z0 : Int32} (hk : qx_kd t = 17) (hs : st.length ≤ 4) : Rs L xs (d + 1) 112 2 ls (.int z0 :: .ref t :: st) M x = (Rs L xs d 160 0 [some (.ref t), some (.int z0)] [] M 0).bind (qx_kn L xs (d + 1) 112 2 5 160 ls st x) := by
  have h1 : qx_act L xs (qx_rt 112) (2, .invokevirtual 148, 5, 160, 2, 780) ls (.int z0 :: .ref t :: st) M = if 2 ≤ (.int z0 :: .ref t :: st).length ∧ st.length ≤ 4 then some (.inr (.inr (.inr (160, [.ref t, .int z0], st)))) else none := rfl
  rw [if_pos ⟨by simp [List.length_cons]; try omega, hs⟩] at h1
  have h2 := qx_kd_obj (k := 7) (by decide) hk
  exact Rs_call c112_2 h1 (by rw [show qx_args 160 [.ref t, .int z0] = decide (qx_sh t = some (.inl 7)) from rfl]; exact decide_eq_true h2)
theorem c112_5 : qx_code 112 5 = some (5, .aload_n 0, 6, 0, 0, 0) := by decide +kernel
theorem s112_5 {L : Nat} {xs : Nat → Int32} {d x : Nat} {M : qxM} {st : List Value} {a1 : Option Value} {z : Nat} : Rs L xs (d) 112 5 [some (.ref z), a1] st M x = Rs L xs (d) 112 6 [some (.ref z), a1] (.ref z :: st) M x := Rs_next c112_5 rfl
theorem c112_6 : qx_code 112 6 = some (6, .getfield 33, 9, 7, 3, 384) := by decide +kernel
theorem s112_6 {L : Nat} {xs : Nat → Int32} {d x : Nat} {M : qxM} {st : List Value} {ls : qxL} {t : Nat} (hk : qx_kd t = 17) : Rs L xs (d) 112 6 ls (.ref t :: st) M x = Rs L xs (d) 112 9 ls (.ref (t + 90) :: st) M x := Rs_when (qx_kd_obj (k := 7) (by decide) hk) c112_6 rfl
theorem c112_9 : qx_code 112 9 = some (9, .getfield 180, 12, 4, 1, 358) := by decide +kernel
theorem s112_9 {L : Nat} {xs : Nat → Int32} {d x : Nat} {M : qxM} {st : List Value} {ls : qxL} {t : Nat} (hk : qx_kd t = 14) : Rs L xs (d) 112 9 ls (.ref t :: st) M x = Rs L xs (d) 112 12 ls (.ref (t + 4) :: st) M x := Rs_when (qx_kd_obj (k := 4) (by decide) hk) c112_9 rfl
theorem c112_12 : qx_code 112 12 = some (12, .iload_n 1, 13, 0, 0, 0) := by decide +kernel
theorem s112_12 {L : Nat} {xs : Nat → Int32} {d x : Nat} {M : qxM} {st : List Value} {a0 : Option Value} {z : Int32} : Rs L xs (d) 112 12 [a0, some (.int z)] st M x = Rs L xs (d) 112 13 [a0, some (.int z)] (.int z :: st) M x := Rs_next c112_12 rfl
theorem c112_13 : qx_code 112 13 = some (13, .invokevirtual 244, 16, 62, 2, 941) := by decide +kernel
theorem s112_13 {L : Nat} {xs : Nat → Int32} {d x : Nat} {M : qxM} {st : List Value} {ls : qxL} {t : Nat} {z0 : Int32} (hk : qx_kd t = 13) (hs : st.length ≤ 4) : Rs L xs (d + 1) 112 13 ls (.int z0 :: .ref t :: st) M x = (Rs L xs d 62 0 [some (.ref t), some (.int z0)] [] M 0).bind (qx_kn L xs (d + 1) 112 13 16 62 ls st x) := by
  have h1 : qx_act L xs (qx_rt 112) (13, .invokevirtual 244, 16, 62, 2, 941) ls (.int z0 :: .ref t :: st) M = if 2 ≤ (.int z0 :: .ref t :: st).length ∧ st.length ≤ 4 then some (.inr (.inr (.inr (62, [.ref t, .int z0], st)))) else none := rfl
  rw [if_pos ⟨by simp [List.length_cons]; try omega, hs⟩] at h1
  have h2 := qx_kd_obj (k := 3) (by decide) hk
  exact Rs_call c112_13 h1 (by rw [show qx_args 62 [.ref t, .int z0] = decide (qx_sh t = some (.inl 3)) from rfl]; exact decide_eq_true h2)
theorem c112_16 : qx_code 112 16 = some (16, .ireturn, 17, 0, 0, 0) := by decide +kernel
theorem s112_16 {L : Nat} {xs : Nat → Int32} {d x : Nat} {M : qxM} {ls : qxL} {z : Int32} : Rs L xs (d) 112 16 ls [.int z] M x = some (.inl (some (.int z)), M, x) := Rs_ret c112_16 rfl
theorem c113_0 : qx_code 113 0 = some (0, .aload_n 0, 1, 0, 0, 0) := by decide +kernel
theorem s113_0 {L : Nat} {xs : Nat → Int32} {d x : Nat} {M : qxM} {st : List Value} {a1 a2 : Option Value} {z : Nat} : Rs L xs (d) 113 0 [some (.ref z), a1, a2] st M x = Rs L xs (d) 113 1 [some (.ref z), a1, a2] (.ref z :: st) M x := Rs_next c113_0 rfl
theorem c113_1 : qx_code 113 1 = some (1, .iload_n 1, 2, 0, 0, 0) := by decide +kernel
theorem s113_1 {L : Nat} {xs : Nat → Int32} {d x : Nat} {M : qxM} {st : List Value} {a0 a2 : Option Value} {z : Int32} : Rs L xs (d) 113 1 [a0, some (.int z), a2] st M x = Rs L xs (d) 113 2 [a0, some (.int z), a2] (.int z :: st) M x := Rs_next c113_1 rfl
theorem c113_2 : qx_code 113 2 = some (2, .invokevirtual 148, 5, 160, 2, 780) := by decide +kernel
theorem s113_2 {L : Nat} {xs : Nat → Int32} {d x : Nat} {M : qxM} {st : List Value} {ls : qxL} {t : Nat} {z0 : Int32} (hk : qx_kd t = 17) (hs : st.length ≤ 4) : Rs L xs (d + 1) 113 2 ls (.int z0 :: .ref t :: st) M x = (Rs L xs d 160 0 [some (.ref t), some (.int z0)] [] M 0).bind (qx_kn L xs (d + 1) 113 2 5 160 ls st x) := by
  have h1 : qx_act L xs (qx_rt 113) (2, .invokevirtual 148, 5, 160, 2, 780) ls (.int z0 :: .ref t :: st) M = if 2 ≤ (.int z0 :: .ref t :: st).length ∧ st.length ≤ 4 then some (.inr (.inr (.inr (160, [.ref t, .int z0], st)))) else none := rfl
  rw [if_pos ⟨by simp [List.length_cons]; try omega, hs⟩] at h1
  have h2 := qx_kd_obj (k := 7) (by decide) hk
  exact Rs_call c113_2 h1 (by rw [show qx_args 160 [.ref t, .int z0] = decide (qx_sh t = some (.inl 7)) from rfl]; exact decide_eq_true h2)
theorem c113_5 : qx_code 113 5 = some (5, .iload_n 2, 6, 0, 0, 0) := by decide +kernel
theorem s113_5 {L : Nat} {xs : Nat → Int32} {d x : Nat} {M : qxM} {st : List Value} {a0 a1 : Option Value} {z : Int32} : Rs L xs (d) 113 5 [a0, a1, some (.int z)] st M x = Rs L xs (d) 113 6 [a0, a1, some (.int z)] (.int z :: st) M x := Rs_next c113_5 rfl
theorem c113_6 : qx_code 113 6 = some (6, .aload_n 0, 7, 0, 0, 0) := by decide +kernel
theorem s113_6 {L : Nat} {xs : Nat → Int32} {d x : Nat} {M : qxM} {st : List Value} {a1 a2 : Option Value} {z : Nat} : Rs L xs (d) 113 6 [some (.ref z), a1, a2] st M x = Rs L xs (d) 113 7 [some (.ref z), a1, a2] (.ref z :: st) M x := Rs_next c113_6 rfl
theorem c113_7 : qx_code 113 7 = some (7, .getfield 33, 10, 7, 3, 384) := by decide +kernel
theorem s113_7 {L : Nat} {xs : Nat → Int32} {d x : Nat} {M : qxM} {st : List Value} {ls : qxL} {t : Nat} (hk : qx_kd t = 17) : Rs L xs (d) 113 7 ls (.ref t :: st) M x = Rs L xs (d) 113 10 ls (.ref (t + 90) :: st) M x := Rs_when (qx_kd_obj (k := 7) (by decide) hk) c113_7 rfl
theorem c113_10 : qx_code 113 10 = some (10, .getfield 180, 13, 4, 1, 358) := by decide +kernel
theorem s113_10 {L : Nat} {xs : Nat → Int32} {d x : Nat} {M : qxM} {st : List Value} {ls : qxL} {t : Nat} (hk : qx_kd t = 14) : Rs L xs (d) 113 10 ls (.ref t :: st) M x = Rs L xs (d) 113 13 ls (.ref (t + 4) :: st) M x := Rs_when (qx_kd_obj (k := 4) (by decide) hk) c113_10 rfl
theorem c113_13 : qx_code 113 13 = some (13, .iload_n 1, 14, 0, 0, 0) := by decide +kernel
theorem s113_13 {L : Nat} {xs : Nat → Int32} {d x : Nat} {M : qxM} {st : List Value} {a0 a2 : Option Value} {z : Int32} : Rs L xs (d) 113 13 [a0, some (.int z), a2] st M x = Rs L xs (d) 113 14 [a0, some (.int z), a2] (.int z :: st) M x := Rs_next c113_13 rfl
theorem c113_14 : qx_code 113 14 = some (14, .invokevirtual 244, 17, 62, 2, 941) := by decide +kernel
theorem s113_14 {L : Nat} {xs : Nat → Int32} {d x : Nat} {M : qxM} {st : List Value} {ls : qxL} {t : Nat} {z0 : Int32} (hk : qx_kd t = 13) (hs : st.length ≤ 4) : Rs L xs (d + 1) 113 14 ls (.int z0 :: .ref t :: st) M x = (Rs L xs d 62 0 [some (.ref t), some (.int z0)] [] M 0).bind (qx_kn L xs (d + 1) 113 14 17 62 ls st x) := by
  have h1 : qx_act L xs (qx_rt 113) (14, .invokevirtual 244, 17, 62, 2, 941) ls (.int z0 :: .ref t :: st) M = if 2 ≤ (.int z0 :: .ref t :: st).length ∧ st.length ≤ 4 then some (.inr (.inr (.inr (62, [.ref t, .int z0], st)))) else none := rfl
  rw [if_pos ⟨by simp [List.length_cons]; try omega, hs⟩] at h1
  have h2 := qx_kd_obj (k := 3) (by decide) hk
  exact Rs_call c113_14 h1 (by rw [show qx_args 62 [.ref t, .int z0] = decide (qx_sh t = some (.inl 3)) from rfl]; exact decide_eq_true h2)
theorem c113_17 : qx_code 113 17 = some (17, .if_icmp .ge 21, 20, 38, 0, 0) := by decide +kernel
theorem s113_17 {L : Nat} {xs : Nat → Int32} {d x : Nat} {M : qxM} {st : List Value} {ls : qxL} {z y : Int32} : Rs L xs (d) 113 17 ls (.int y :: .int z :: st) M x = if y ≤ z then Rs L xs (d) 113 38 ls st M x else Rs L xs (d) 113 20 ls st M x := Rs_ite c113_17 rfl
theorem c113_20 : qx_code 113 20 = some (20, .aload_n 0, 21, 0, 0, 0) := by decide +kernel
theorem s113_20 {L : Nat} {xs : Nat → Int32} {d x : Nat} {M : qxM} {st : List Value} {a1 a2 : Option Value} {z : Nat} : Rs L xs (d) 113 20 [some (.ref z), a1, a2] st M x = Rs L xs (d) 113 21 [some (.ref z), a1, a2] (.ref z :: st) M x := Rs_next c113_20 rfl
theorem c113_21 : qx_code 113 21 = some (21, .getfield 33, 24, 7, 3, 384) := by decide +kernel
theorem s113_21 {L : Nat} {xs : Nat → Int32} {d x : Nat} {M : qxM} {st : List Value} {ls : qxL} {t : Nat} (hk : qx_kd t = 17) : Rs L xs (d) 113 21 ls (.ref t :: st) M x = Rs L xs (d) 113 24 ls (.ref (t + 90) :: st) M x := Rs_when (qx_kd_obj (k := 7) (by decide) hk) c113_21 rfl
theorem c113_24 : qx_code 113 24 = some (24, .getfield 180, 27, 4, 1, 358) := by decide +kernel
theorem s113_24 {L : Nat} {xs : Nat → Int32} {d x : Nat} {M : qxM} {st : List Value} {ls : qxL} {t : Nat} (hk : qx_kd t = 14) : Rs L xs (d) 113 24 ls (.ref t :: st) M x = Rs L xs (d) 113 27 ls (.ref (t + 4) :: st) M x := Rs_when (qx_kd_obj (k := 4) (by decide) hk) c113_24 rfl
theorem c113_27 : qx_code 113 27 = some (27, .getfield 247, 30, 3, 14, 323) := by decide +kernel
theorem s113_27 {L : Nat} {xs : Nat → Int32} {d x : Nat} {M : qxM} {st : List Value} {ls : qxL} {t : Nat} (hk : qx_kd t = 13) : Rs L xs (d) 113 27 ls (.ref t :: st) M x = Rs L xs (d) 113 30 ls (.ref (t + 6) :: st) M x := Rs_when (qx_kd_obj (k := 3) (by decide) hk) c113_27 rfl
theorem c113_30 : qx_code 113 30 = some (30, .iload_n 1, 31, 0, 0, 0) := by decide +kernel
theorem s113_30 {L : Nat} {xs : Nat → Int32} {d x : Nat} {M : qxM} {st : List Value} {a0 a2 : Option Value} {z : Int32} : Rs L xs (d) 113 30 [a0, some (.int z), a2] st M x = Rs L xs (d) 113 31 [a0, some (.int z), a2] (.int z :: st) M x := Rs_next c113_30 rfl
theorem c113_31 : qx_code 113 31 = some (31, .iload_n 2, 32, 0, 0, 0) := by decide +kernel
theorem s113_31 {L : Nat} {xs : Nat → Int32} {d x : Nat} {M : qxM} {st : List Value} {a0 a1 : Option Value} {z : Int32} : Rs L xs (d) 113 31 [a0, a1, some (.int z)] st M x = Rs L xs (d) 113 32 [a0, a1, some (.int z)] (.int z :: st) M x := Rs_next c113_31 rfl
theorem c113_32 : qx_code 113 32 = some (32, .invokevirtual 251, 35, 88, 3, 956) := by decide +kernel
theorem s113_32 {L : Nat} {xs : Nat → Int32} {d x : Nat} {M : qxM} {st : List Value} {ls : qxL} {t : Nat} {z0 : Int32} {z1 : Int32} (hk : qx_kd t = 16) (hs : st.length ≤ 4) : Rs L xs (d + 1) 113 32 ls (.int z1 :: .int z0 :: .ref t :: st) M x = (Rs L xs d 88 0 [some (.ref t), some (.int z0), some (.int z1)] [] M 0).bind (qx_kn L xs (d + 1) 113 32 35 88 ls st x) := by
  have h1 : qx_act L xs (qx_rt 113) (32, .invokevirtual 251, 35, 88, 3, 956) ls (.int z1 :: .int z0 :: .ref t :: st) M = if 3 ≤ (.int z1 :: .int z0 :: .ref t :: st).length ∧ st.length ≤ 4 then some (.inr (.inr (.inr (88, [.ref t, .int z0, .int z1], st)))) else none := rfl
  rw [if_pos ⟨by simp [List.length_cons]; try omega, hs⟩] at h1
  have h2 := qx_kd_obj (k := 6) (by decide) hk
  exact Rs_call c113_32 h1 (by rw [show qx_args 88 [.ref t, .int z0, .int z1] = decide (qx_sh t = some (.inl 6)) from rfl]; exact decide_eq_true h2)
theorem c113_35 : qx_code 113 35 = some (35, .goto 4, 38, 39, 0, 0) := by decide +kernel
theorem s113_35 {L : Nat} {xs : Nat → Int32} {d x : Nat} {M : qxM} {st : List Value} {ls : qxL} : Rs L xs (d) 113 35 ls st M x = Rs L xs (d) 113 39 ls st M x := Rs_next c113_35 rfl
theorem c113_38 : qx_code 113 38 = some (38, .iconst (-1), 39, 0, 0, 0) := by decide +kernel
theorem s113_38 {L : Nat} {xs : Nat → Int32} {d x : Nat} {M : qxM} {st : List Value} {ls : qxL} : Rs L xs (d) 113 38 ls st M x = Rs L xs (d) 113 39 ls (.int (-1) :: st) M x := Rs_next c113_38 rfl
theorem c113_39 : qx_code 113 39 = some (39, .ireturn, 40, 0, 0, 0) := by decide +kernel
theorem s113_39 {L : Nat} {xs : Nat → Int32} {d x : Nat} {M : qxM} {ls : qxL} {z : Int32} : Rs L xs (d) 113 39 ls [.int z] M x = some (.inl (some (.int z)), M, x) := Rs_ret c113_39 rfl
theorem c114_0 : qx_code 114 0 = some (0, .aload_n 0, 1, 0, 0, 0) := by decide +kernel
theorem s114_0 {L : Nat} {xs : Nat → Int32} {d x : Nat} {M : qxM} {st : List Value} {z : Nat} : Rs L xs (d) 114 0 [some (.ref z)] st M x = Rs L xs (d) 114 1 [some (.ref z)] (.ref z :: st) M x := Rs_next c114_0 rfl
theorem c114_1 : qx_code 114 1 = some (1, .invokevirtual 107, 4, 159, 1, 728) := by decide +kernel
theorem s114_1 {L : Nat} {xs : Nat → Int32} {d x : Nat} {M : qxM} {st : List Value} {ls : qxL} {t : Nat} (hk : qx_kd t = 17) (hs : st.length ≤ 4) : Rs L xs (d + 1) 114 1 ls (.ref t :: st) M x = (Rs L xs d 159 0 [some (.ref t)] [] M 0).bind (qx_kn L xs (d + 1) 114 1 4 159 ls st x) := by
  have h1 : qx_act L xs (qx_rt 114) (1, .invokevirtual 107, 4, 159, 1, 728) ls (.ref t :: st) M = if 1 ≤ (.ref t :: st).length ∧ st.length ≤ 4 then some (.inr (.inr (.inr (159, [.ref t], st)))) else none := rfl
  rw [if_pos ⟨by simp [List.length_cons]; try omega, hs⟩] at h1
  have h2 := qx_kd_obj (k := 7) (by decide) hk
  exact Rs_call c114_1 h1 (by rw [show qx_args 159 [.ref t] = decide (qx_sh t = some (.inl 7)) from rfl]; exact decide_eq_true h2)
theorem c114_4 : qx_code 114 4 = some (4, .aload_n 0, 5, 0, 0, 0) := by decide +kernel
theorem s114_4 {L : Nat} {xs : Nat → Int32} {d x : Nat} {M : qxM} {st : List Value} {z : Nat} : Rs L xs (d) 114 4 [some (.ref z)] st M x = Rs L xs (d) 114 5 [some (.ref z)] (.ref z :: st) M x := Rs_next c114_4 rfl
theorem c114_5 : qx_code 114 5 = some (5, .iconst 3, 6, 0, 0, 0) := by decide +kernel
theorem s114_5 {L : Nat} {xs : Nat → Int32} {d x : Nat} {M : qxM} {st : List Value} {ls : qxL} : Rs L xs (d) 114 5 ls st M x = Rs L xs (d) 114 6 ls (.int (nI 3) :: st) M x := Rs_next c114_5 rfl
theorem c114_6 : qx_code 114 6 = some (6, .invokevirtual 208, 9, 115, 2, 843) := by decide +kernel
theorem s114_6 {L : Nat} {xs : Nat → Int32} {d x : Nat} {M : qxM} {st : List Value} {ls : qxL} {t : Nat} {z0 : Int32} (hk : qx_kd t = 17) (hs : st.length ≤ 4) : Rs L xs (d + 1) 114 6 ls (.int z0 :: .ref t :: st) M x = (Rs L xs d 115 0 [some (.ref t), some (.int z0), none, none, none] [] M 0).bind (qx_kn L xs (d + 1) 114 6 9 115 ls st x) := by
  have h1 : qx_act L xs (qx_rt 114) (6, .invokevirtual 208, 9, 115, 2, 843) ls (.int z0 :: .ref t :: st) M = if 2 ≤ (.int z0 :: .ref t :: st).length ∧ st.length ≤ 4 then some (.inr (.inr (.inr (115, [.ref t, .int z0], st)))) else none := rfl
  rw [if_pos ⟨by simp [List.length_cons]; try omega, hs⟩] at h1
  have h2 := qx_kd_obj (k := 7) (by decide) hk
  exact Rs_call c114_6 h1 (by rw [show qx_args 115 [.ref t, .int z0] = decide (qx_sh t = some (.inl 7)) from rfl]; exact decide_eq_true h2)
theorem c114_9 : qx_code 114 9 = some (9, .ireturn, 10, 0, 0, 0) := by decide +kernel
theorem s114_9 {L : Nat} {xs : Nat → Int32} {d x : Nat} {M : qxM} {ls : qxL} {z : Int32} : Rs L xs (d) 114 9 ls [.int z] M x = some (.inl (some (.int z)), M, x) := Rs_ret c114_9 rfl
theorem c115_0 : qx_code 115 0 = some (0, .iconst 0, 1, 0, 0, 0) := by decide +kernel
theorem s115_0 {L : Nat} {xs : Nat → Int32} {d x : Nat} {M : qxM} {st : List Value} {ls : qxL} : Rs L xs (d) 115 0 ls st M x = Rs L xs (d) 115 1 ls (.int (nI 0) :: st) M x := Rs_next c115_0 rfl
theorem c115_1 : qx_code 115 1 = some (1, .istore_n 2, 2, 0, 0, 0) := by decide +kernel
theorem s115_1i {L : Nat} {xs : Nat → Int32} {d x : Nat} {M : qxM} {st : List Value} {a0 a2 a3 a4 : Option Value} {z : Int32} {y : Int32} : Rs L xs (d) 115 1 [a0, some (.int y), a2, a3, a4] (.int z :: st) M x = Rs L xs (d) 115 2 [a0, some (.int y), some (.int z), a3, a4] st M x := Rs_next c115_1 rfl
theorem s115_1r {L : Nat} {xs : Nat → Int32} {d x : Nat} {M : qxM} {st : List Value} {a0 a2 a3 a4 : Option Value} {z : Int32} {y : Nat} : Rs L xs (d) 115 1 [a0, some (.ref y), a2, a3, a4] (.int z :: st) M x = Rs L xs (d) 115 2 [a0, some (.ref y), some (.int z), a3, a4] st M x := Rs_next c115_1 rfl
theorem s115_1n {L : Nat} {xs : Nat → Int32} {d x : Nat} {M : qxM} {st : List Value} {a0 a2 a3 a4 : Option Value} {z : Int32} : Rs L xs (d) 115 1 [a0, none, a2, a3, a4] (.int z :: st) M x = Rs L xs (d) 115 2 [a0, none, some (.int z), a3, a4] st M x := Rs_next c115_1 rfl
theorem c115_2 : qx_code 115 2 = some (2, .iconst 0, 3, 0, 0, 0) := by decide +kernel
theorem s115_2 {L : Nat} {xs : Nat → Int32} {d x : Nat} {M : qxM} {st : List Value} {ls : qxL} : Rs L xs (d) 115 2 ls st M x = Rs L xs (d) 115 3 ls (.int (nI 0) :: st) M x := Rs_next c115_2 rfl
theorem c115_3 : qx_code 115 3 = some (3, .istore_n 3, 4, 0, 0, 0) := by decide +kernel
theorem s115_3i {L : Nat} {xs : Nat → Int32} {d x : Nat} {M : qxM} {st : List Value} {a0 a1 a3 a4 : Option Value} {z : Int32} {y : Int32} : Rs L xs (d) 115 3 [a0, a1, some (.int y), a3, a4] (.int z :: st) M x = Rs L xs (d) 115 4 [a0, a1, some (.int y), some (.int z), a4] st M x := Rs_next c115_3 rfl
theorem s115_3r {L : Nat} {xs : Nat → Int32} {d x : Nat} {M : qxM} {st : List Value} {a0 a1 a3 a4 : Option Value} {z : Int32} {y : Nat} : Rs L xs (d) 115 3 [a0, a1, some (.ref y), a3, a4] (.int z :: st) M x = Rs L xs (d) 115 4 [a0, a1, some (.ref y), some (.int z), a4] st M x := Rs_next c115_3 rfl
theorem s115_3n {L : Nat} {xs : Nat → Int32} {d x : Nat} {M : qxM} {st : List Value} {a0 a1 a3 a4 : Option Value} {z : Int32} : Rs L xs (d) 115 3 [a0, a1, none, a3, a4] (.int z :: st) M x = Rs L xs (d) 115 4 [a0, a1, none, some (.int z), a4] st M x := Rs_next c115_3 rfl
theorem c115_4 : qx_code 115 4 = some (4, .iload_n 3, 5, 0, 0, 0) := by decide +kernel
theorem s115_4 {L : Nat} {xs : Nat → Int32} {d x : Nat} {M : qxM} {st : List Value} {a0 a1 a2 a4 : Option Value} {z : Int32} : Rs L xs (d) 115 4 [a0, a1, a2, some (.int z), a4] st M x = Rs L xs (d) 115 5 [a0, a1, a2, some (.int z), a4] (.int z :: st) M x := Rs_next c115_4 rfl
theorem c115_5 : qx_code 115 5 = some (5, .aload_n 0, 6, 0, 0, 0) := by decide +kernel
theorem s115_5 {L : Nat} {xs : Nat → Int32} {d x : Nat} {M : qxM} {st : List Value} {a1 a2 a3 a4 : Option Value} {z : Nat} : Rs L xs (d) 115 5 [some (.ref z), a1, a2, a3, a4] st M x = Rs L xs (d) 115 6 [some (.ref z), a1, a2, a3, a4] (.ref z :: st) M x := Rs_next c115_5 rfl
theorem c115_6 : qx_code 115 6 = some (6, .getfield 33, 9, 7, 3, 384) := by decide +kernel
theorem s115_6 {L : Nat} {xs : Nat → Int32} {d x : Nat} {M : qxM} {st : List Value} {ls : qxL} {t : Nat} (hk : qx_kd t = 17) : Rs L xs (d) 115 6 ls (.ref t :: st) M x = Rs L xs (d) 115 9 ls (.ref (t + 90) :: st) M x := Rs_when (qx_kd_obj (k := 7) (by decide) hk) c115_6 rfl
theorem c115_9 : qx_code 115 9 = some (9, .getfield 93, 12, 4, 0, 356) := by decide +kernel
theorem s115_9 {L : Nat} {xs : Nat → Int32} {d x : Nat} {M : qxM} {st : List Value} {ls : qxL} {t : Nat} (hk : qx_kd t = 14) : Rs L xs (d) 115 9 ls (.ref t :: st) M x = Rs L xs (d) 115 12 ls (.ref (t + 1) :: st) M x := Rs_when (qx_kd_obj (k := 4) (by decide) hk) c115_9 rfl
theorem c115_12 : qx_code 115 12 = some (12, .getfield 96, 15, 2, 0, 166) := by decide +kernel
theorem s115_12 {L : Nat} {xs : Nat → Int32} {d x : Nat} {M : qxM} {st : List Value} {ls : qxL} {t : Nat} (hk : qx_kd t = 12) : Rs L xs (d) 115 12 ls (.ref t :: st) M x = Rs L xs (d) 115 15 ls (.int (M.1 t 0) :: st) M x := Rs_when (qx_kd_obj (k := 2) (by decide) hk) c115_12 rfl
theorem c115_15 : qx_code 115 15 = some (15, .if_icmp .ge 37, 18, 52, 0, 0) := by decide +kernel
theorem s115_15 {L : Nat} {xs : Nat → Int32} {d x : Nat} {M : qxM} {st : List Value} {ls : qxL} {z y : Int32} : Rs L xs (d) 115 15 ls (.int y :: .int z :: st) M x = if y ≤ z then Rs L xs (d) 115 52 ls st M x else Rs L xs (d) 115 18 ls st M x := Rs_ite c115_15 rfl
theorem c115_18 : qx_code 115 18 = some (18, .aload_n 0, 19, 0, 0, 0) := by decide +kernel
theorem s115_18 {L : Nat} {xs : Nat → Int32} {d x : Nat} {M : qxM} {st : List Value} {a1 a2 a3 a4 : Option Value} {z : Nat} : Rs L xs (d) 115 18 [some (.ref z), a1, a2, a3, a4] st M x = Rs L xs (d) 115 19 [some (.ref z), a1, a2, a3, a4] (.ref z :: st) M x := Rs_next c115_18 rfl
theorem c115_19 : qx_code 115 19 = some (19, .iload_n 3, 20, 0, 0, 0) := by decide +kernel
theorem s115_19 {L : Nat} {xs : Nat → Int32} {d x : Nat} {M : qxM} {st : List Value} {a0 a1 a2 a4 : Option Value} {z : Int32} : Rs L xs (d) 115 19 [a0, a1, a2, some (.int z), a4] st M x = Rs L xs (d) 115 20 [a0, a1, a2, some (.int z), a4] (.int z :: st) M x := Rs_next c115_19 rfl
theorem c115_20 : qx_code 115 20 = some (20, .invokevirtual 214, 23, 106, 2, 847) := by decide +kernel
theorem s115_20 {L : Nat} {xs : Nat → Int32} {d x : Nat} {M : qxM} {st : List Value} {ls : qxL} {t : Nat} {z0 : Int32} (hk : qx_kd t = 17) (hs : st.length ≤ 4) : Rs L xs (d + 1) 115 20 ls (.int z0 :: .ref t :: st) M x = (Rs L xs d 106 0 [some (.ref t), some (.int z0)] [] M 0).bind (qx_kn L xs (d + 1) 115 20 23 106 ls st x) := by
  have h1 : qx_act L xs (qx_rt 115) (20, .invokevirtual 214, 23, 106, 2, 847) ls (.int z0 :: .ref t :: st) M = if 2 ≤ (.int z0 :: .ref t :: st).length ∧ st.length ≤ 4 then some (.inr (.inr (.inr (106, [.ref t, .int z0], st)))) else none := rfl
  rw [if_pos ⟨by simp [List.length_cons]; try omega, hs⟩] at h1
  have h2 := qx_kd_obj (k := 7) (by decide) hk
  exact Rs_call c115_20 h1 (by rw [show qx_args 106 [.ref t, .int z0] = decide (qx_sh t = some (.inl 7)) from rfl]; exact decide_eq_true h2)
theorem c115_23 : qx_code 115 23 = some (23, .istore 4, 25, 0, 0, 0) := by decide +kernel
theorem s115_23i {L : Nat} {xs : Nat → Int32} {d x : Nat} {M : qxM} {st : List Value} {a0 a1 a2 a4 : Option Value} {z : Int32} {y : Int32} : Rs L xs (d) 115 23 [a0, a1, a2, some (.int y), a4] (.int z :: st) M x = Rs L xs (d) 115 25 [a0, a1, a2, some (.int y), some (.int z)] st M x := Rs_next c115_23 rfl
theorem s115_23r {L : Nat} {xs : Nat → Int32} {d x : Nat} {M : qxM} {st : List Value} {a0 a1 a2 a4 : Option Value} {z : Int32} {y : Nat} : Rs L xs (d) 115 23 [a0, a1, a2, some (.ref y), a4] (.int z :: st) M x = Rs L xs (d) 115 25 [a0, a1, a2, some (.ref y), some (.int z)] st M x := Rs_next c115_23 rfl
theorem s115_23n {L : Nat} {xs : Nat → Int32} {d x : Nat} {M : qxM} {st : List Value} {a0 a1 a2 a4 : Option Value} {z : Int32} : Rs L xs (d) 115 23 [a0, a1, a2, none, a4] (.int z :: st) M x = Rs L xs (d) 115 25 [a0, a1, a2, none, some (.int z)] st M x := Rs_next c115_23 rfl
theorem c115_25 : qx_code 115 25 = some (25, .iload 4, 27, 0, 0, 0) := by decide +kernel
theorem s115_25 {L : Nat} {xs : Nat → Int32} {d x : Nat} {M : qxM} {st : List Value} {a0 a1 a2 a3 : Option Value} {z : Int32} : Rs L xs (d) 115 25 [a0, a1, a2, a3, some (.int z)] st M x = Rs L xs (d) 115 27 [a0, a1, a2, a3, some (.int z)] (.int z :: st) M x := Rs_next c115_25 rfl
theorem c115_27 : qx_code 115 27 = some (27, .iload_n 3, 28, 0, 0, 0) := by decide +kernel
theorem s115_27 {L : Nat} {xs : Nat → Int32} {d x : Nat} {M : qxM} {st : List Value} {a0 a1 a2 a4 : Option Value} {z : Int32} : Rs L xs (d) 115 27 [a0, a1, a2, some (.int z), a4] st M x = Rs L xs (d) 115 28 [a0, a1, a2, some (.int z), a4] (.int z :: st) M x := Rs_next c115_27 rfl
theorem c115_28 : qx_code 115 28 = some (28, .invokestatic 256, 31, 172, 2, 861) := by decide +kernel
theorem s115_28 {L : Nat} {xs : Nat → Int32} {d x : Nat} {M : qxM} {st : List Value} {ls : qxL} {z0 : Int32} {z1 : Int32} (hs : st.length ≤ 4) : Rs L xs (d + 1) 115 28 ls (.int z1 :: .int z0 :: st) M x = (Rs L xs d 172 0 [some (.int z0), some (.int z1)] [] M 0).bind (qx_kn L xs (d + 1) 115 28 31 172 ls st x) := by
  have h1 : qx_act L xs (qx_rt 115) (28, .invokestatic 256, 31, 172, 2, 861) ls (.int z1 :: .int z0 :: st) M = if 2 ≤ (.int z1 :: .int z0 :: st).length ∧ st.length ≤ 4 then some (.inr (.inr (.inr (172, [.int z0, .int z1], st)))) else none := rfl
  rw [if_pos ⟨by simp [List.length_cons]; try omega, hs⟩] at h1
  exact Rs_call c115_28 h1 rfl
theorem c115_31 : qx_code 115 31 = some (31, .ifCond .eq 15, 34, 46, 0, 0) := by decide +kernel
theorem s115_31 {L : Nat} {xs : Nat → Int32} {d x : Nat} {M : qxM} {st : List Value} {ls : qxL} {z : Int32} : Rs L xs (d) 115 31 ls (.int z :: st) M x = if z = 0 then Rs L xs (d) 115 46 ls st M x else Rs L xs (d) 115 34 ls st M x := Rs_ite c115_31 rfl
theorem c115_34 : qx_code 115 34 = some (34, .iload 4, 36, 0, 0, 0) := by decide +kernel
theorem s115_34 {L : Nat} {xs : Nat → Int32} {d x : Nat} {M : qxM} {st : List Value} {a0 a1 a2 a3 : Option Value} {z : Int32} : Rs L xs (d) 115 34 [a0, a1, a2, a3, some (.int z)] st M x = Rs L xs (d) 115 36 [a0, a1, a2, a3, some (.int z)] (.int z :: st) M x := Rs_next c115_34 rfl
theorem c115_36 : qx_code 115 36 = some (36, .invokestatic 130, 39, 334, 1, 772) := by decide +kernel
theorem s115_36 {L : Nat} {xs : Nat → Int32} {d x : Nat} {M : qxM} {st : List Value} {ls : qxL} {z0 : Int32} (hs : st.length ≤ 4) : Rs L xs (d + 1) 115 36 ls (.int z0 :: st) M x = (Rs L xs d 334 0 [some (.int z0)] [] M 0).bind (qx_kn L xs (d + 1) 115 36 39 334 ls st x) := by
  have h1 : qx_act L xs (qx_rt 115) (36, .invokestatic 130, 39, 334, 1, 772) ls (.int z0 :: st) M = if 1 ≤ (.int z0 :: st).length ∧ st.length ≤ 4 then some (.inr (.inr (.inr (334, [.int z0], st)))) else none := rfl
  rw [if_pos ⟨by simp [List.length_cons]; try omega, hs⟩] at h1
  exact Rs_call c115_36 h1 rfl
theorem c115_39 : qx_code 115 39 = some (39, .iload_n 1, 40, 0, 0, 0) := by decide +kernel
theorem s115_39 {L : Nat} {xs : Nat → Int32} {d x : Nat} {M : qxM} {st : List Value} {a0 a2 a3 a4 : Option Value} {z : Int32} : Rs L xs (d) 115 39 [a0, some (.int z), a2, a3, a4] st M x = Rs L xs (d) 115 40 [a0, some (.int z), a2, a3, a4] (.int z :: st) M x := Rs_next c115_39 rfl
theorem c115_40 : qx_code 115 40 = some (40, .if_icmp .lt 6, 43, 46, 0, 0) := by decide +kernel
theorem s115_40 {L : Nat} {xs : Nat → Int32} {d x : Nat} {M : qxM} {st : List Value} {ls : qxL} {z y : Int32} : Rs L xs (d) 115 40 ls (.int y :: .int z :: st) M x = if z < y then Rs L xs (d) 115 46 ls st M x else Rs L xs (d) 115 43 ls st M x := Rs_ite c115_40 rfl
theorem c115_43 : qx_code 115 43 = some (43, .iinc 2 1, 46, 0, 0, 0) := by decide +kernel
theorem s115_43i {L : Nat} {xs : Nat → Int32} {d x : Nat} {M : qxM} {st : List Value} {a0 a3 a4 : Option Value} {z : Int32} {y : Int32} : Rs L xs (d) 115 43 [a0, some (.int y), some (.int z), a3, a4] st M x = Rs L xs (d) 115 46 [a0, some (.int y), some (.int (z + (nI 1))), a3, a4] st M x := Rs_next c115_43 rfl
theorem s115_43r {L : Nat} {xs : Nat → Int32} {d x : Nat} {M : qxM} {st : List Value} {a0 a3 a4 : Option Value} {z : Int32} {y : Nat} : Rs L xs (d) 115 43 [a0, some (.ref y), some (.int z), a3, a4] st M x = Rs L xs (d) 115 46 [a0, some (.ref y), some (.int (z + (nI 1))), a3, a4] st M x := Rs_next c115_43 rfl
theorem s115_43n {L : Nat} {xs : Nat → Int32} {d x : Nat} {M : qxM} {st : List Value} {a0 a3 a4 : Option Value} {z : Int32} : Rs L xs (d) 115 43 [a0, none, some (.int z), a3, a4] st M x = Rs L xs (d) 115 46 [a0, none, some (.int (z + (nI 1))), a3, a4] st M x := Rs_next c115_43 rfl
theorem c115_46 : qx_code 115 46 = some (46, .iinc 3 1, 49, 0, 0, 0) := by decide +kernel
theorem s115_46i {L : Nat} {xs : Nat → Int32} {d x : Nat} {M : qxM} {st : List Value} {a0 a1 a4 : Option Value} {z : Int32} {y : Int32} : Rs L xs (d) 115 46 [a0, a1, some (.int y), some (.int z), a4] st M x = Rs L xs (d) 115 49 [a0, a1, some (.int y), some (.int (z + (nI 1))), a4] st M x := Rs_next c115_46 rfl
theorem s115_46r {L : Nat} {xs : Nat → Int32} {d x : Nat} {M : qxM} {st : List Value} {a0 a1 a4 : Option Value} {z : Int32} {y : Nat} : Rs L xs (d) 115 46 [a0, a1, some (.ref y), some (.int z), a4] st M x = Rs L xs (d) 115 49 [a0, a1, some (.ref y), some (.int (z + (nI 1))), a4] st M x := Rs_next c115_46 rfl
theorem s115_46n {L : Nat} {xs : Nat → Int32} {d x : Nat} {M : qxM} {st : List Value} {a0 a1 a4 : Option Value} {z : Int32} : Rs L xs (d) 115 46 [a0, a1, none, some (.int z), a4] st M x = Rs L xs (d) 115 49 [a0, a1, none, some (.int (z + (nI 1))), a4] st M x := Rs_next c115_46 rfl
theorem c115_49 : qx_code 115 49 = some (49, .goto (-45), 52, 4, 0, 0) := by decide +kernel
theorem s115_49 {L : Nat} {xs : Nat → Int32} {d x : Nat} {M : qxM} {st : List Value} {ls : qxL} : Rs L xs (d) 115 49 ls st M x = Rs L xs (d) 115 4 ls st M x := Rs_next c115_49 rfl
theorem c115_52 : qx_code 115 52 = some (52, .iload_n 2, 53, 0, 0, 0) := by decide +kernel
theorem s115_52 {L : Nat} {xs : Nat → Int32} {d x : Nat} {M : qxM} {st : List Value} {a0 a1 a3 a4 : Option Value} {z : Int32} : Rs L xs (d) 115 52 [a0, a1, some (.int z), a3, a4] st M x = Rs L xs (d) 115 53 [a0, a1, some (.int z), a3, a4] (.int z :: st) M x := Rs_next c115_52 rfl
theorem c115_53 : qx_code 115 53 = some (53, .ireturn, 54, 0, 0, 0) := by decide +kernel
theorem s115_53 {L : Nat} {xs : Nat → Int32} {d x : Nat} {M : qxM} {ls : qxL} {z : Int32} : Rs L xs (d) 115 53 ls [.int z] M x = some (.inl (some (.int z)), M, x) := Rs_ret c115_53 rfl
theorem c116_0 : qx_code 116 0 = some (0, .aload_n 0, 1, 0, 0, 0) := by decide +kernel
theorem s116_0 {L : Nat} {xs : Nat → Int32} {d x : Nat} {M : qxM} {st : List Value} {z : Nat} : Rs L xs (d) 116 0 [some (.ref z)] st M x = Rs L xs (d) 116 1 [some (.ref z)] (.ref z :: st) M x := Rs_next c116_0 rfl
theorem c116_1 : qx_code 116 1 = some (1, .invokevirtual 107, 4, 159, 1, 728) := by decide +kernel
theorem s116_1 {L : Nat} {xs : Nat → Int32} {d x : Nat} {M : qxM} {st : List Value} {ls : qxL} {t : Nat} (hk : qx_kd t = 17) (hs : st.length ≤ 4) : Rs L xs (d + 1) 116 1 ls (.ref t :: st) M x = (Rs L xs d 159 0 [some (.ref t)] [] M 0).bind (qx_kn L xs (d + 1) 116 1 4 159 ls st x) := by
  have h1 : qx_act L xs (qx_rt 116) (1, .invokevirtual 107, 4, 159, 1, 728) ls (.ref t :: st) M = if 1 ≤ (.ref t :: st).length ∧ st.length ≤ 4 then some (.inr (.inr (.inr (159, [.ref t], st)))) else none := rfl
  rw [if_pos ⟨by simp [List.length_cons]; try omega, hs⟩] at h1
  have h2 := qx_kd_obj (k := 7) (by decide) hk
  exact Rs_call c116_1 h1 (by rw [show qx_args 159 [.ref t] = decide (qx_sh t = some (.inl 7)) from rfl]; exact decide_eq_true h2)
theorem c116_4 : qx_code 116 4 = some (4, .aload_n 0, 5, 0, 0, 0) := by decide +kernel
theorem s116_4 {L : Nat} {xs : Nat → Int32} {d x : Nat} {M : qxM} {st : List Value} {z : Nat} : Rs L xs (d) 116 4 [some (.ref z)] st M x = Rs L xs (d) 116 5 [some (.ref z)] (.ref z :: st) M x := Rs_next c116_4 rfl
theorem c116_5 : qx_code 116 5 = some (5, .invokevirtual 259, 8, 168, 1, 976) := by decide +kernel
theorem s116_5 {L : Nat} {xs : Nat → Int32} {d x : Nat} {M : qxM} {st : List Value} {ls : qxL} {t : Nat} (hk : qx_kd t = 17) (hs : st.length ≤ 4) : Rs L xs (d + 1) 116 5 ls (.ref t :: st) M x = (Rs L xs d 168 0 [some (.ref t)] [] M 0).bind (qx_kn L xs (d + 1) 116 5 8 168 ls st x) := by
  have h1 : qx_act L xs (qx_rt 116) (5, .invokevirtual 259, 8, 168, 1, 976) ls (.ref t :: st) M = if 1 ≤ (.ref t :: st).length ∧ st.length ≤ 4 then some (.inr (.inr (.inr (168, [.ref t], st)))) else none := rfl
  rw [if_pos ⟨by simp [List.length_cons]; try omega, hs⟩] at h1
  have h2 := qx_kd_obj (k := 7) (by decide) hk
  exact Rs_call c116_5 h1 (by rw [show qx_args 168 [.ref t] = decide (qx_sh t = some (.inl 7)) from rfl]; exact decide_eq_true h2)
theorem c116_8 : qx_code 116 8 = some (8, .invokevirtual 263, 11, 1, 1, 994) := by decide +kernel
theorem s116_8 {L : Nat} {xs : Nat → Int32} {d x : Nat} {M : qxM} {st : List Value} {ls : qxL} {t : Nat} (hk : qx_kd t = 10) (hs : st.length ≤ 4) : Rs L xs (d + 1) 116 8 ls (.ref t :: st) M x = (Rs L xs d 1 0 [some (.ref t)] [] M 0).bind (qx_kn L xs (d + 1) 116 8 11 1 ls st x) := by
  have h1 : qx_act L xs (qx_rt 116) (8, .invokevirtual 263, 11, 1, 1, 994) ls (.ref t :: st) M = if 1 ≤ (.ref t :: st).length ∧ st.length ≤ 4 then some (.inr (.inr (.inr (1, [.ref t], st)))) else none := rfl
  rw [if_pos ⟨by simp [List.length_cons]; try omega, hs⟩] at h1
  have h2 := qx_kd_obj (k := 0) (by decide) hk
  exact Rs_call c116_8 h1 (by rw [show qx_args 1 [.ref t] = decide (qx_sh t = some (.inl 0)) from rfl]; exact decide_eq_true h2)
theorem c116_11 : qx_code 116 11 = some (11, .ireturn, 12, 0, 0, 0) := by decide +kernel
theorem s116_11 {L : Nat} {xs : Nat → Int32} {d x : Nat} {M : qxM} {ls : qxL} {z : Int32} : Rs L xs (d) 116 11 ls [.int z] M x = some (.inl (some (.int z)), M, x) := Rs_ret c116_11 rfl
theorem c117_0 : qx_code 117 0 = some (0, .aload_n 0, 1, 0, 0, 0) := by decide +kernel
theorem s117_0 {L : Nat} {xs : Nat → Int32} {d x : Nat} {M : qxM} {st : List Value} {z : Nat} : Rs L xs (d) 117 0 [some (.ref z)] st M x = Rs L xs (d) 117 1 [some (.ref z)] (.ref z :: st) M x := Rs_next c117_0 rfl
theorem c117_1 : qx_code 117 1 = some (1, .invokevirtual 107, 4, 159, 1, 728) := by decide +kernel
theorem s117_1 {L : Nat} {xs : Nat → Int32} {d x : Nat} {M : qxM} {st : List Value} {ls : qxL} {t : Nat} (hk : qx_kd t = 17) (hs : st.length ≤ 4) : Rs L xs (d + 1) 117 1 ls (.ref t :: st) M x = (Rs L xs d 159 0 [some (.ref t)] [] M 0).bind (qx_kn L xs (d + 1) 117 1 4 159 ls st x) := by
  have h1 : qx_act L xs (qx_rt 117) (1, .invokevirtual 107, 4, 159, 1, 728) ls (.ref t :: st) M = if 1 ≤ (.ref t :: st).length ∧ st.length ≤ 4 then some (.inr (.inr (.inr (159, [.ref t], st)))) else none := rfl
  rw [if_pos ⟨by simp [List.length_cons]; try omega, hs⟩] at h1
  have h2 := qx_kd_obj (k := 7) (by decide) hk
  exact Rs_call c117_1 h1 (by rw [show qx_args 159 [.ref t] = decide (qx_sh t = some (.inl 7)) from rfl]; exact decide_eq_true h2)
theorem c117_4 : qx_code 117 4 = some (4, .aload_n 0, 5, 0, 0, 0) := by decide +kernel
theorem s117_4 {L : Nat} {xs : Nat → Int32} {d x : Nat} {M : qxM} {st : List Value} {z : Nat} : Rs L xs (d) 117 4 [some (.ref z)] st M x = Rs L xs (d) 117 5 [some (.ref z)] (.ref z :: st) M x := Rs_next c117_4 rfl
theorem c117_5 : qx_code 117 5 = some (5, .getfield 33, 8, 7, 3, 384) := by decide +kernel
theorem s117_5 {L : Nat} {xs : Nat → Int32} {d x : Nat} {M : qxM} {st : List Value} {ls : qxL} {t : Nat} (hk : qx_kd t = 17) : Rs L xs (d) 117 5 ls (.ref t :: st) M x = Rs L xs (d) 117 8 ls (.ref (t + 90) :: st) M x := Rs_when (qx_kd_obj (k := 7) (by decide) hk) c117_5 rfl
theorem c117_8 : qx_code 117 8 = some (8, .getfield 93, 11, 4, 0, 356) := by decide +kernel
theorem s117_8 {L : Nat} {xs : Nat → Int32} {d x : Nat} {M : qxM} {st : List Value} {ls : qxL} {t : Nat} (hk : qx_kd t = 14) : Rs L xs (d) 117 8 ls (.ref t :: st) M x = Rs L xs (d) 117 11 ls (.ref (t + 1) :: st) M x := Rs_when (qx_kd_obj (k := 4) (by decide) hk) c117_8 rfl
theorem c117_11 : qx_code 117 11 = some (11, .invokevirtual 121, 14, 48, 1, 767) := by decide +kernel
theorem s117_11 {L : Nat} {xs : Nat → Int32} {d x : Nat} {M : qxM} {st : List Value} {ls : qxL} {t : Nat} (hk : qx_kd t = 12) (hs : st.length ≤ 4) : Rs L xs (d + 1) 117 11 ls (.ref t :: st) M x = (Rs L xs d 48 0 [some (.ref t), none, none] [] M 0).bind (qx_kn L xs (d + 1) 117 11 14 48 ls st x) := by
  have h1 : qx_act L xs (qx_rt 117) (11, .invokevirtual 121, 14, 48, 1, 767) ls (.ref t :: st) M = if 1 ≤ (.ref t :: st).length ∧ st.length ≤ 4 then some (.inr (.inr (.inr (48, [.ref t], st)))) else none := rfl
  rw [if_pos ⟨by simp [List.length_cons]; try omega, hs⟩] at h1
  have h2 := qx_kd_obj (k := 2) (by decide) hk
  exact Rs_call c117_11 h1 (by rw [show qx_args 48 [.ref t] = decide (qx_sh t = some (.inl 2)) from rfl]; exact decide_eq_true h2)
theorem c117_14 : qx_code 117 14 = some (14, .aload_n 0, 15, 0, 0, 0) := by decide +kernel
theorem s117_14 {L : Nat} {xs : Nat → Int32} {d x : Nat} {M : qxM} {st : List Value} {z : Nat} : Rs L xs (d) 117 14 [some (.ref z)] st M x = Rs L xs (d) 117 15 [some (.ref z)] (.ref z :: st) M x := Rs_next c117_14 rfl
theorem c117_15 : qx_code 117 15 = some (15, .invokevirtual 259, 18, 168, 1, 976) := by decide +kernel
theorem s117_15 {L : Nat} {xs : Nat → Int32} {d x : Nat} {M : qxM} {st : List Value} {ls : qxL} {t : Nat} (hk : qx_kd t = 17) (hs : st.length ≤ 4) : Rs L xs (d + 1) 117 15 ls (.ref t :: st) M x = (Rs L xs d 168 0 [some (.ref t)] [] M 0).bind (qx_kn L xs (d + 1) 117 15 18 168 ls st x) := by
  have h1 : qx_act L xs (qx_rt 117) (15, .invokevirtual 259, 18, 168, 1, 976) ls (.ref t :: st) M = if 1 ≤ (.ref t :: st).length ∧ st.length ≤ 4 then some (.inr (.inr (.inr (168, [.ref t], st)))) else none := rfl
  rw [if_pos ⟨by simp [List.length_cons]; try omega, hs⟩] at h1
  have h2 := qx_kd_obj (k := 7) (by decide) hk
  exact Rs_call c117_15 h1 (by rw [show qx_args 168 [.ref t] = decide (qx_sh t = some (.inl 7)) from rfl]; exact decide_eq_true h2)
theorem c117_18 : qx_code 117 18 = some (18, .invokevirtual 263, 21, 1, 1, 994) := by decide +kernel
theorem s117_18 {L : Nat} {xs : Nat → Int32} {d x : Nat} {M : qxM} {st : List Value} {ls : qxL} {t : Nat} (hk : qx_kd t = 10) (hs : st.length ≤ 4) : Rs L xs (d + 1) 117 18 ls (.ref t :: st) M x = (Rs L xs d 1 0 [some (.ref t)] [] M 0).bind (qx_kn L xs (d + 1) 117 18 21 1 ls st x) := by
  have h1 : qx_act L xs (qx_rt 117) (18, .invokevirtual 263, 21, 1, 1, 994) ls (.ref t :: st) M = if 1 ≤ (.ref t :: st).length ∧ st.length ≤ 4 then some (.inr (.inr (.inr (1, [.ref t], st)))) else none := rfl
  rw [if_pos ⟨by simp [List.length_cons]; try omega, hs⟩] at h1
  have h2 := qx_kd_obj (k := 0) (by decide) hk
  exact Rs_call c117_18 h1 (by rw [show qx_args 1 [.ref t] = decide (qx_sh t = some (.inl 0)) from rfl]; exact decide_eq_true h2)
theorem c117_21 : qx_code 117 21 = some (21, .if_icmp .ne 7, 24, 28, 0, 0) := by decide +kernel
theorem s117_21 {L : Nat} {xs : Nat → Int32} {d x : Nat} {M : qxM} {st : List Value} {ls : qxL} {z y : Int32} : Rs L xs (d) 117 21 ls (.int y :: .int z :: st) M x = if z = y then Rs L xs (d) 117 24 ls st M x else Rs L xs (d) 117 28 ls st M x := Rs_ite c117_21 rfl
theorem c117_24 : qx_code 117 24 = some (24, .iconst 1, 25, 0, 0, 0) := by decide +kernel
theorem s117_24 {L : Nat} {xs : Nat → Int32} {d x : Nat} {M : qxM} {st : List Value} {ls : qxL} : Rs L xs (d) 117 24 ls st M x = Rs L xs (d) 117 25 ls (.int (nI 1) :: st) M x := Rs_next c117_24 rfl
theorem c117_25 : qx_code 117 25 = some (25, .goto 4, 28, 29, 0, 0) := by decide +kernel
theorem s117_25 {L : Nat} {xs : Nat → Int32} {d x : Nat} {M : qxM} {st : List Value} {ls : qxL} : Rs L xs (d) 117 25 ls st M x = Rs L xs (d) 117 29 ls st M x := Rs_next c117_25 rfl
theorem c117_28 : qx_code 117 28 = some (28, .iconst 0, 29, 0, 0, 0) := by decide +kernel
theorem s117_28 {L : Nat} {xs : Nat → Int32} {d x : Nat} {M : qxM} {st : List Value} {ls : qxL} : Rs L xs (d) 117 28 ls st M x = Rs L xs (d) 117 29 ls (.int (nI 0) :: st) M x := Rs_next c117_28 rfl
theorem c117_29 : qx_code 117 29 = some (29, .ireturn, 30, 0, 0, 0) := by decide +kernel
theorem s117_29 {L : Nat} {xs : Nat → Int32} {d x : Nat} {M : qxM} {ls : qxL} {z : Int32} (h01 : z = 0 ∨ z = 1) : Rs L xs (d) 117 29 ls [.int z] M x = some (.inl (some (.int z)), M, x) := Rs_retw h01 c117_29 rfl
theorem c118_0 : qx_code 118 0 = some (0, .aload_n 0, 1, 0, 0, 0) := by decide +kernel
theorem s118_0 {L : Nat} {xs : Nat → Int32} {d x : Nat} {M : qxM} {st : List Value} {z : Nat} : Rs L xs (d) 118 0 [some (.ref z)] st M x = Rs L xs (d) 118 1 [some (.ref z)] (.ref z :: st) M x := Rs_next c118_0 rfl
theorem c118_1 : qx_code 118 1 = some (1, .invokevirtual 107, 4, 159, 1, 728) := by decide +kernel
theorem s118_1 {L : Nat} {xs : Nat → Int32} {d x : Nat} {M : qxM} {st : List Value} {ls : qxL} {t : Nat} (hk : qx_kd t = 17) (hs : st.length ≤ 4) : Rs L xs (d + 1) 118 1 ls (.ref t :: st) M x = (Rs L xs d 159 0 [some (.ref t)] [] M 0).bind (qx_kn L xs (d + 1) 118 1 4 159 ls st x) := by
  have h1 : qx_act L xs (qx_rt 118) (1, .invokevirtual 107, 4, 159, 1, 728) ls (.ref t :: st) M = if 1 ≤ (.ref t :: st).length ∧ st.length ≤ 4 then some (.inr (.inr (.inr (159, [.ref t], st)))) else none := rfl
  rw [if_pos ⟨by simp [List.length_cons]; try omega, hs⟩] at h1
  have h2 := qx_kd_obj (k := 7) (by decide) hk
  exact Rs_call c118_1 h1 (by rw [show qx_args 159 [.ref t] = decide (qx_sh t = some (.inl 7)) from rfl]; exact decide_eq_true h2)
theorem c118_4 : qx_code 118 4 = some (4, .aload_n 0, 5, 0, 0, 0) := by decide +kernel
theorem s118_4 {L : Nat} {xs : Nat → Int32} {d x : Nat} {M : qxM} {st : List Value} {z : Nat} : Rs L xs (d) 118 4 [some (.ref z)] st M x = Rs L xs (d) 118 5 [some (.ref z)] (.ref z :: st) M x := Rs_next c118_4 rfl
theorem c118_5 : qx_code 118 5 = some (5, .invokevirtual 259, 8, 168, 1, 976) := by decide +kernel
theorem s118_5 {L : Nat} {xs : Nat → Int32} {d x : Nat} {M : qxM} {st : List Value} {ls : qxL} {t : Nat} (hk : qx_kd t = 17) (hs : st.length ≤ 4) : Rs L xs (d + 1) 118 5 ls (.ref t :: st) M x = (Rs L xs d 168 0 [some (.ref t)] [] M 0).bind (qx_kn L xs (d + 1) 118 5 8 168 ls st x) := by
  have h1 : qx_act L xs (qx_rt 118) (5, .invokevirtual 259, 8, 168, 1, 976) ls (.ref t :: st) M = if 1 ≤ (.ref t :: st).length ∧ st.length ≤ 4 then some (.inr (.inr (.inr (168, [.ref t], st)))) else none := rfl
  rw [if_pos ⟨by simp [List.length_cons]; try omega, hs⟩] at h1
  have h2 := qx_kd_obj (k := 7) (by decide) hk
  exact Rs_call c118_5 h1 (by rw [show qx_args 168 [.ref t] = decide (qx_sh t = some (.inl 7)) from rfl]; exact decide_eq_true h2)
theorem c118_8 : qx_code 118 8 = some (8, .invokevirtual 266, 11, 2, 1, 1029) := by decide +kernel
theorem s118_8 {L : Nat} {xs : Nat → Int32} {d x : Nat} {M : qxM} {st : List Value} {ls : qxL} {t : Nat} (hk : qx_kd t = 10) (hs : st.length ≤ 4) : Rs L xs (d + 1) 118 8 ls (.ref t :: st) M x = (Rs L xs d 2 0 [some (.ref t)] [] M 0).bind (qx_kn L xs (d + 1) 118 8 11 2 ls st x) := by
  have h1 : qx_act L xs (qx_rt 118) (8, .invokevirtual 266, 11, 2, 1, 1029) ls (.ref t :: st) M = if 1 ≤ (.ref t :: st).length ∧ st.length ≤ 4 then some (.inr (.inr (.inr (2, [.ref t], st)))) else none := rfl
  rw [if_pos ⟨by simp [List.length_cons]; try omega, hs⟩] at h1
  have h2 := qx_kd_obj (k := 0) (by decide) hk
  exact Rs_call c118_8 h1 (by rw [show qx_args 2 [.ref t] = decide (qx_sh t = some (.inl 0)) from rfl]; exact decide_eq_true h2)
theorem c118_11 : qx_code 118 11 = some (11, .ireturn, 12, 0, 0, 0) := by decide +kernel
theorem s118_11 {L : Nat} {xs : Nat → Int32} {d x : Nat} {M : qxM} {ls : qxL} {z : Int32} : Rs L xs (d) 118 11 ls [.int z] M x = some (.inl (some (.int z)), M, x) := Rs_ret c118_11 rfl
theorem c119_0 : qx_code 119 0 = some (0, .aload_n 0, 1, 0, 0, 0) := by decide +kernel
theorem s119_0 {L : Nat} {xs : Nat → Int32} {d x : Nat} {M : qxM} {st : List Value} {z : Nat} : Rs L xs (d) 119 0 [some (.ref z)] st M x = Rs L xs (d) 119 1 [some (.ref z)] (.ref z :: st) M x := Rs_next c119_0 rfl
theorem c119_1 : qx_code 119 1 = some (1, .invokevirtual 107, 4, 159, 1, 728) := by decide +kernel
theorem s119_1 {L : Nat} {xs : Nat → Int32} {d x : Nat} {M : qxM} {st : List Value} {ls : qxL} {t : Nat} (hk : qx_kd t = 17) (hs : st.length ≤ 4) : Rs L xs (d + 1) 119 1 ls (.ref t :: st) M x = (Rs L xs d 159 0 [some (.ref t)] [] M 0).bind (qx_kn L xs (d + 1) 119 1 4 159 ls st x) := by
  have h1 : qx_act L xs (qx_rt 119) (1, .invokevirtual 107, 4, 159, 1, 728) ls (.ref t :: st) M = if 1 ≤ (.ref t :: st).length ∧ st.length ≤ 4 then some (.inr (.inr (.inr (159, [.ref t], st)))) else none := rfl
  rw [if_pos ⟨by simp [List.length_cons]; try omega, hs⟩] at h1
  have h2 := qx_kd_obj (k := 7) (by decide) hk
  exact Rs_call c119_1 h1 (by rw [show qx_args 159 [.ref t] = decide (qx_sh t = some (.inl 7)) from rfl]; exact decide_eq_true h2)
theorem c119_4 : qx_code 119 4 = some (4, .aload_n 0, 5, 0, 0, 0) := by decide +kernel
theorem s119_4 {L : Nat} {xs : Nat → Int32} {d x : Nat} {M : qxM} {st : List Value} {z : Nat} : Rs L xs (d) 119 4 [some (.ref z)] st M x = Rs L xs (d) 119 5 [some (.ref z)] (.ref z :: st) M x := Rs_next c119_4 rfl
theorem c119_5 : qx_code 119 5 = some (5, .invokevirtual 259, 8, 168, 1, 976) := by decide +kernel
theorem s119_5 {L : Nat} {xs : Nat → Int32} {d x : Nat} {M : qxM} {st : List Value} {ls : qxL} {t : Nat} (hk : qx_kd t = 17) (hs : st.length ≤ 4) : Rs L xs (d + 1) 119 5 ls (.ref t :: st) M x = (Rs L xs d 168 0 [some (.ref t)] [] M 0).bind (qx_kn L xs (d + 1) 119 5 8 168 ls st x) := by
  have h1 : qx_act L xs (qx_rt 119) (5, .invokevirtual 259, 8, 168, 1, 976) ls (.ref t :: st) M = if 1 ≤ (.ref t :: st).length ∧ st.length ≤ 4 then some (.inr (.inr (.inr (168, [.ref t], st)))) else none := rfl
  rw [if_pos ⟨by simp [List.length_cons]; try omega, hs⟩] at h1
  have h2 := qx_kd_obj (k := 7) (by decide) hk
  exact Rs_call c119_5 h1 (by rw [show qx_args 168 [.ref t] = decide (qx_sh t = some (.inl 7)) from rfl]; exact decide_eq_true h2)
theorem c119_8 : qx_code 119 8 = some (8, .invokevirtual 269, 11, 10, 1, 1042) := by decide +kernel
theorem s119_8 {L : Nat} {xs : Nat → Int32} {d x : Nat} {M : qxM} {st : List Value} {ls : qxL} {t : Nat} (hk : qx_kd t = 10) (hs : st.length ≤ 4) : Rs L xs (d + 1) 119 8 ls (.ref t :: st) M x = (Rs L xs d 10 0 [some (.ref t), none, none, none] [] M 0).bind (qx_kn L xs (d + 1) 119 8 11 10 ls st x) := by
  have h1 : qx_act L xs (qx_rt 119) (8, .invokevirtual 269, 11, 10, 1, 1042) ls (.ref t :: st) M = if 1 ≤ (.ref t :: st).length ∧ st.length ≤ 4 then some (.inr (.inr (.inr (10, [.ref t], st)))) else none := rfl
  rw [if_pos ⟨by simp [List.length_cons]; try omega, hs⟩] at h1
  have h2 := qx_kd_obj (k := 0) (by decide) hk
  exact Rs_call c119_8 h1 (by rw [show qx_args 10 [.ref t] = decide (qx_sh t = some (.inl 0)) from rfl]; exact decide_eq_true h2)
theorem c119_11 : qx_code 119 11 = some (11, .ireturn, 12, 0, 0, 0) := by decide +kernel
theorem s119_11 {L : Nat} {xs : Nat → Int32} {d x : Nat} {M : qxM} {ls : qxL} {z : Int32} : Rs L xs (d) 119 11 ls [.int z] M x = some (.inl (some (.int z)), M, x) := Rs_ret c119_11 rfl
theorem c120_0 : qx_code 120 0 = some (0, .aload_n 0, 1, 0, 0, 0) := by decide +kernel
theorem s120_0 {L : Nat} {xs : Nat → Int32} {d x : Nat} {M : qxM} {st : List Value} {a1 : Option Value} {z : Nat} : Rs L xs (d) 120 0 [some (.ref z), a1] st M x = Rs L xs (d) 120 1 [some (.ref z), a1] (.ref z :: st) M x := Rs_next c120_0 rfl
theorem c120_1 : qx_code 120 1 = some (1, .invokevirtual 107, 4, 159, 1, 728) := by decide +kernel
theorem s120_1 {L : Nat} {xs : Nat → Int32} {d x : Nat} {M : qxM} {st : List Value} {ls : qxL} {t : Nat} (hk : qx_kd t = 17) (hs : st.length ≤ 4) : Rs L xs (d + 1) 120 1 ls (.ref t :: st) M x = (Rs L xs d 159 0 [some (.ref t)] [] M 0).bind (qx_kn L xs (d + 1) 120 1 4 159 ls st x) := by
  have h1 : qx_act L xs (qx_rt 120) (1, .invokevirtual 107, 4, 159, 1, 728) ls (.ref t :: st) M = if 1 ≤ (.ref t :: st).length ∧ st.length ≤ 4 then some (.inr (.inr (.inr (159, [.ref t], st)))) else none := rfl
  rw [if_pos ⟨by simp [List.length_cons]; try omega, hs⟩] at h1
  have h2 := qx_kd_obj (k := 7) (by decide) hk
  exact Rs_call c120_1 h1 (by rw [show qx_args 159 [.ref t] = decide (qx_sh t = some (.inl 7)) from rfl]; exact decide_eq_true h2)
theorem c120_4 : qx_code 120 4 = some (4, .aload_n 0, 5, 0, 0, 0) := by decide +kernel
theorem s120_4 {L : Nat} {xs : Nat → Int32} {d x : Nat} {M : qxM} {st : List Value} {a1 : Option Value} {z : Nat} : Rs L xs (d) 120 4 [some (.ref z), a1] st M x = Rs L xs (d) 120 5 [some (.ref z), a1] (.ref z :: st) M x := Rs_next c120_4 rfl
theorem c120_5 : qx_code 120 5 = some (5, .invokevirtual 259, 8, 168, 1, 976) := by decide +kernel
theorem s120_5 {L : Nat} {xs : Nat → Int32} {d x : Nat} {M : qxM} {st : List Value} {ls : qxL} {t : Nat} (hk : qx_kd t = 17) (hs : st.length ≤ 4) : Rs L xs (d + 1) 120 5 ls (.ref t :: st) M x = (Rs L xs d 168 0 [some (.ref t)] [] M 0).bind (qx_kn L xs (d + 1) 120 5 8 168 ls st x) := by
  have h1 : qx_act L xs (qx_rt 120) (5, .invokevirtual 259, 8, 168, 1, 976) ls (.ref t :: st) M = if 1 ≤ (.ref t :: st).length ∧ st.length ≤ 4 then some (.inr (.inr (.inr (168, [.ref t], st)))) else none := rfl
  rw [if_pos ⟨by simp [List.length_cons]; try omega, hs⟩] at h1
  have h2 := qx_kd_obj (k := 7) (by decide) hk
  exact Rs_call c120_5 h1 (by rw [show qx_args 168 [.ref t] = decide (qx_sh t = some (.inl 7)) from rfl]; exact decide_eq_true h2)
theorem c120_8 : qx_code 120 8 = some (8, .astore_n 1, 9, 0, 0, 0) := by decide +kernel
theorem s120_8i {L : Nat} {xs : Nat → Int32} {d x : Nat} {M : qxM} {st : List Value} {a1 : Option Value} {z : Nat} {y : Int32} : Rs L xs (d) 120 8 [some (.int y), a1] (.ref z :: st) M x = Rs L xs (d) 120 9 [some (.int y), some (.ref z)] st M x := Rs_next c120_8 rfl
theorem s120_8r {L : Nat} {xs : Nat → Int32} {d x : Nat} {M : qxM} {st : List Value} {a1 : Option Value} {z : Nat} {y : Nat} : Rs L xs (d) 120 8 [some (.ref y), a1] (.ref z :: st) M x = Rs L xs (d) 120 9 [some (.ref y), some (.ref z)] st M x := Rs_next c120_8 rfl
theorem s120_8n {L : Nat} {xs : Nat → Int32} {d x : Nat} {M : qxM} {st : List Value} {a1 : Option Value} {z : Nat} : Rs L xs (d) 120 8 [none, a1] (.ref z :: st) M x = Rs L xs (d) 120 9 [none, some (.ref z)] st M x := Rs_next c120_8 rfl
theorem c120_9 : qx_code 120 9 = some (9, .aload_n 1, 10, 0, 0, 0) := by decide +kernel
theorem s120_9 {L : Nat} {xs : Nat → Int32} {d x : Nat} {M : qxM} {st : List Value} {a0 : Option Value} {z : Nat} : Rs L xs (d) 120 9 [a0, some (.ref z)] st M x = Rs L xs (d) 120 10 [a0, some (.ref z)] (.ref z :: st) M x := Rs_next c120_9 rfl
theorem c120_10 : qx_code 120 10 = some (10, .aload_n 1, 11, 0, 0, 0) := by decide +kernel
theorem s120_10 {L : Nat} {xs : Nat → Int32} {d x : Nat} {M : qxM} {st : List Value} {a0 : Option Value} {z : Nat} : Rs L xs (d) 120 10 [a0, some (.ref z)] st M x = Rs L xs (d) 120 11 [a0, some (.ref z)] (.ref z :: st) M x := Rs_next c120_10 rfl
theorem c120_11 : qx_code 120 11 = some (11, .invokevirtual 269, 14, 10, 1, 1042) := by decide +kernel
theorem s120_11 {L : Nat} {xs : Nat → Int32} {d x : Nat} {M : qxM} {st : List Value} {ls : qxL} {t : Nat} (hk : qx_kd t = 10) (hs : st.length ≤ 4) : Rs L xs (d + 1) 120 11 ls (.ref t :: st) M x = (Rs L xs d 10 0 [some (.ref t), none, none, none] [] M 0).bind (qx_kn L xs (d + 1) 120 11 14 10 ls st x) := by
  have h1 : qx_act L xs (qx_rt 120) (11, .invokevirtual 269, 14, 10, 1, 1042) ls (.ref t :: st) M = if 1 ≤ (.ref t :: st).length ∧ st.length ≤ 4 then some (.inr (.inr (.inr (10, [.ref t], st)))) else none := rfl
  rw [if_pos ⟨by simp [List.length_cons]; try omega, hs⟩] at h1
  have h2 := qx_kd_obj (k := 0) (by decide) hk
  exact Rs_call c120_11 h1 (by rw [show qx_args 10 [.ref t] = decide (qx_sh t = some (.inl 0)) from rfl]; exact decide_eq_true h2)
theorem c120_14 : qx_code 120 14 = some (14, .invokevirtual 272, 17, 11, 2, 1061) := by decide +kernel
theorem s120_14 {L : Nat} {xs : Nat → Int32} {d x : Nat} {M : qxM} {st : List Value} {ls : qxL} {t : Nat} {z0 : Int32} (hk : qx_kd t = 10) (hs : st.length ≤ 4) : Rs L xs (d + 1) 120 14 ls (.int z0 :: .ref t :: st) M x = (Rs L xs d 11 0 [some (.ref t), some (.int z0), none, none] [] M 0).bind (qx_kn L xs (d + 1) 120 14 17 11 ls st x) := by
  have h1 : qx_act L xs (qx_rt 120) (14, .invokevirtual 272, 17, 11, 2, 1061) ls (.int z0 :: .ref t :: st) M = if 2 ≤ (.int z0 :: .ref t :: st).length ∧ st.length ≤ 4 then some (.inr (.inr (.inr (11, [.ref t, .int z0], st)))) else none := rfl
  rw [if_pos ⟨by simp [List.length_cons]; try omega, hs⟩] at h1
  have h2 := qx_kd_obj (k := 0) (by decide) hk
  exact Rs_call c120_14 h1 (by rw [show qx_args 11 [.ref t, .int z0] = decide (qx_sh t = some (.inl 0)) from rfl]; exact decide_eq_true h2)
theorem c120_17 : qx_code 120 17 = some (17, .ireturn, 18, 0, 0, 0) := by decide +kernel
theorem s120_17 {L : Nat} {xs : Nat → Int32} {d x : Nat} {M : qxM} {ls : qxL} {z : Int32} : Rs L xs (d) 120 17 ls [.int z] M x = some (.inl (some (.int z)), M, x) := Rs_ret c120_17 rfl
theorem c121_0 : qx_code 121 0 = some (0, .aload_n 0, 1, 0, 0, 0) := by decide +kernel
theorem s121_0 {L : Nat} {xs : Nat → Int32} {d x : Nat} {M : qxM} {st : List Value} {a1 a2 : Option Value} {z : Nat} : Rs L xs (d) 121 0 [some (.ref z), a1, a2] st M x = Rs L xs (d) 121 1 [some (.ref z), a1, a2] (.ref z :: st) M x := Rs_next c121_0 rfl
theorem c121_1 : qx_code 121 1 = some (1, .invokevirtual 107, 4, 159, 1, 728) := by decide +kernel
theorem s121_1 {L : Nat} {xs : Nat → Int32} {d x : Nat} {M : qxM} {st : List Value} {ls : qxL} {t : Nat} (hk : qx_kd t = 17) (hs : st.length ≤ 4) : Rs L xs (d + 1) 121 1 ls (.ref t :: st) M x = (Rs L xs d 159 0 [some (.ref t)] [] M 0).bind (qx_kn L xs (d + 1) 121 1 4 159 ls st x) := by
  have h1 : qx_act L xs (qx_rt 121) (1, .invokevirtual 107, 4, 159, 1, 728) ls (.ref t :: st) M = if 1 ≤ (.ref t :: st).length ∧ st.length ≤ 4 then some (.inr (.inr (.inr (159, [.ref t], st)))) else none := rfl
  rw [if_pos ⟨by simp [List.length_cons]; try omega, hs⟩] at h1
  have h2 := qx_kd_obj (k := 7) (by decide) hk
  exact Rs_call c121_1 h1 (by rw [show qx_args 159 [.ref t] = decide (qx_sh t = some (.inl 7)) from rfl]; exact decide_eq_true h2)
theorem c121_4 : qx_code 121 4 = some (4, .aload_n 0, 5, 0, 0, 0) := by decide +kernel
theorem s121_4 {L : Nat} {xs : Nat → Int32} {d x : Nat} {M : qxM} {st : List Value} {a1 a2 : Option Value} {z : Nat} : Rs L xs (d) 121 4 [some (.ref z), a1, a2] st M x = Rs L xs (d) 121 5 [some (.ref z), a1, a2] (.ref z :: st) M x := Rs_next c121_4 rfl
theorem c121_5 : qx_code 121 5 = some (5, .invokevirtual 259, 8, 168, 1, 976) := by decide +kernel
theorem s121_5 {L : Nat} {xs : Nat → Int32} {d x : Nat} {M : qxM} {st : List Value} {ls : qxL} {t : Nat} (hk : qx_kd t = 17) (hs : st.length ≤ 4) : Rs L xs (d + 1) 121 5 ls (.ref t :: st) M x = (Rs L xs d 168 0 [some (.ref t)] [] M 0).bind (qx_kn L xs (d + 1) 121 5 8 168 ls st x) := by
  have h1 : qx_act L xs (qx_rt 121) (5, .invokevirtual 259, 8, 168, 1, 976) ls (.ref t :: st) M = if 1 ≤ (.ref t :: st).length ∧ st.length ≤ 4 then some (.inr (.inr (.inr (168, [.ref t], st)))) else none := rfl
  rw [if_pos ⟨by simp [List.length_cons]; try omega, hs⟩] at h1
  have h2 := qx_kd_obj (k := 7) (by decide) hk
  exact Rs_call c121_5 h1 (by rw [show qx_args 168 [.ref t] = decide (qx_sh t = some (.inl 7)) from rfl]; exact decide_eq_true h2)
theorem c121_8 : qx_code 121 8 = some (8, .astore_n 1, 9, 0, 0, 0) := by decide +kernel
theorem s121_8i {L : Nat} {xs : Nat → Int32} {d x : Nat} {M : qxM} {st : List Value} {a1 a2 : Option Value} {z : Nat} {y : Int32} : Rs L xs (d) 121 8 [some (.int y), a1, a2] (.ref z :: st) M x = Rs L xs (d) 121 9 [some (.int y), some (.ref z), a2] st M x := Rs_next c121_8 rfl
theorem s121_8r {L : Nat} {xs : Nat → Int32} {d x : Nat} {M : qxM} {st : List Value} {a1 a2 : Option Value} {z : Nat} {y : Nat} : Rs L xs (d) 121 8 [some (.ref y), a1, a2] (.ref z :: st) M x = Rs L xs (d) 121 9 [some (.ref y), some (.ref z), a2] st M x := Rs_next c121_8 rfl
theorem s121_8n {L : Nat} {xs : Nat → Int32} {d x : Nat} {M : qxM} {st : List Value} {a1 a2 : Option Value} {z : Nat} : Rs L xs (d) 121 8 [none, a1, a2] (.ref z :: st) M x = Rs L xs (d) 121 9 [none, some (.ref z), a2] st M x := Rs_next c121_8 rfl
theorem c121_9 : qx_code 121 9 = some (9, .aload_n 1, 10, 0, 0, 0) := by decide +kernel
theorem s121_9 {L : Nat} {xs : Nat → Int32} {d x : Nat} {M : qxM} {st : List Value} {a0 a2 : Option Value} {z : Nat} : Rs L xs (d) 121 9 [a0, some (.ref z), a2] st M x = Rs L xs (d) 121 10 [a0, some (.ref z), a2] (.ref z :: st) M x := Rs_next c121_9 rfl
theorem c121_10 : qx_code 121 10 = some (10, .invokevirtual 269, 13, 10, 1, 1042) := by decide +kernel
theorem s121_10 {L : Nat} {xs : Nat → Int32} {d x : Nat} {M : qxM} {st : List Value} {ls : qxL} {t : Nat} (hk : qx_kd t = 10) (hs : st.length ≤ 4) : Rs L xs (d + 1) 121 10 ls (.ref t :: st) M x = (Rs L xs d 10 0 [some (.ref t), none, none, none] [] M 0).bind (qx_kn L xs (d + 1) 121 10 13 10 ls st x) := by
  have h1 : qx_act L xs (qx_rt 121) (10, .invokevirtual 269, 13, 10, 1, 1042) ls (.ref t :: st) M = if 1 ≤ (.ref t :: st).length ∧ st.length ≤ 4 then some (.inr (.inr (.inr (10, [.ref t], st)))) else none := rfl
  rw [if_pos ⟨by simp [List.length_cons]; try omega, hs⟩] at h1
  have h2 := qx_kd_obj (k := 0) (by decide) hk
  exact Rs_call c121_10 h1 (by rw [show qx_args 10 [.ref t] = decide (qx_sh t = some (.inl 0)) from rfl]; exact decide_eq_true h2)
theorem c121_13 : qx_code 121 13 = some (13, .istore_n 2, 14, 0, 0, 0) := by decide +kernel
theorem s121_13i {L : Nat} {xs : Nat → Int32} {d x : Nat} {M : qxM} {st : List Value} {a0 a2 : Option Value} {z : Int32} {y : Int32} : Rs L xs (d) 121 13 [a0, some (.int y), a2] (.int z :: st) M x = Rs L xs (d) 121 14 [a0, some (.int y), some (.int z)] st M x := Rs_next c121_13 rfl
theorem s121_13r {L : Nat} {xs : Nat → Int32} {d x : Nat} {M : qxM} {st : List Value} {a0 a2 : Option Value} {z : Int32} {y : Nat} : Rs L xs (d) 121 13 [a0, some (.ref y), a2] (.int z :: st) M x = Rs L xs (d) 121 14 [a0, some (.ref y), some (.int z)] st M x := Rs_next c121_13 rfl
theorem s121_13n {L : Nat} {xs : Nat → Int32} {d x : Nat} {M : qxM} {st : List Value} {a0 a2 : Option Value} {z : Int32} : Rs L xs (d) 121 13 [a0, none, a2] (.int z :: st) M x = Rs L xs (d) 121 14 [a0, none, some (.int z)] st M x := Rs_next c121_13 rfl
theorem c121_14 : qx_code 121 14 = some (14, .aload_n 0, 15, 0, 0, 0) := by decide +kernel
theorem s121_14 {L : Nat} {xs : Nat → Int32} {d x : Nat} {M : qxM} {st : List Value} {a1 a2 : Option Value} {z : Nat} : Rs L xs (d) 121 14 [some (.ref z), a1, a2] st M x = Rs L xs (d) 121 15 [some (.ref z), a1, a2] (.ref z :: st) M x := Rs_next c121_14 rfl
theorem c121_15 : qx_code 121 15 = some (15, .getfield 33, 18, 7, 3, 384) := by decide +kernel
theorem s121_15 {L : Nat} {xs : Nat → Int32} {d x : Nat} {M : qxM} {st : List Value} {ls : qxL} {t : Nat} (hk : qx_kd t = 17) : Rs L xs (d) 121 15 ls (.ref t :: st) M x = Rs L xs (d) 121 18 ls (.ref (t + 90) :: st) M x := Rs_when (qx_kd_obj (k := 7) (by decide) hk) c121_15 rfl
theorem c121_18 : qx_code 121 18 = some (18, .getfield 93, 21, 4, 0, 356) := by decide +kernel
theorem s121_18 {L : Nat} {xs : Nat → Int32} {d x : Nat} {M : qxM} {st : List Value} {ls : qxL} {t : Nat} (hk : qx_kd t = 14) : Rs L xs (d) 121 18 ls (.ref t :: st) M x = Rs L xs (d) 121 21 ls (.ref (t + 1) :: st) M x := Rs_when (qx_kd_obj (k := 4) (by decide) hk) c121_18 rfl
theorem c121_21 : qx_code 121 21 = some (21, .invokevirtual 275, 24, 36, 1, 1072) := by decide +kernel
theorem s121_21 {L : Nat} {xs : Nat → Int32} {d x : Nat} {M : qxM} {st : List Value} {ls : qxL} {t : Nat} (hk : qx_kd t = 12) (hs : st.length ≤ 4) : Rs L xs (d + 1) 121 21 ls (.ref t :: st) M x = (Rs L xs d 36 0 [some (.ref t)] [] M 0).bind (qx_kn L xs (d + 1) 121 21 24 36 ls st x) := by
  have h1 : qx_act L xs (qx_rt 121) (21, .invokevirtual 275, 24, 36, 1, 1072) ls (.ref t :: st) M = if 1 ≤ (.ref t :: st).length ∧ st.length ≤ 4 then some (.inr (.inr (.inr (36, [.ref t], st)))) else none := rfl
  rw [if_pos ⟨by simp [List.length_cons]; try omega, hs⟩] at h1
  have h2 := qx_kd_obj (k := 2) (by decide) hk
  exact Rs_call c121_21 h1 (by rw [show qx_args 36 [.ref t] = decide (qx_sh t = some (.inl 2)) from rfl]; exact decide_eq_true h2)
theorem c121_24 : qx_code 121 24 = some (24, .iload_n 2, 25, 0, 0, 0) := by decide +kernel
theorem s121_24 {L : Nat} {xs : Nat → Int32} {d x : Nat} {M : qxM} {st : List Value} {a0 a1 : Option Value} {z : Int32} : Rs L xs (d) 121 24 [a0, a1, some (.int z)] st M x = Rs L xs (d) 121 25 [a0, a1, some (.int z)] (.int z :: st) M x := Rs_next c121_24 rfl
theorem c121_25 : qx_code 121 25 = some (25, .iconst (-1), 26, 0, 0, 0) := by decide +kernel
theorem s121_25 {L : Nat} {xs : Nat → Int32} {d x : Nat} {M : qxM} {st : List Value} {ls : qxL} : Rs L xs (d) 121 25 ls st M x = Rs L xs (d) 121 26 ls (.int (-1) :: st) M x := Rs_next c121_25 rfl
theorem c121_26 : qx_code 121 26 = some (26, .ixor, 27, 0, 0, 0) := by decide +kernel
theorem s121_26 {L : Nat} {xs : Nat → Int32} {d x : Nat} {M : qxM} {st : List Value} {ls : qxL} {z y : Int32} : Rs L xs (d) 121 26 ls (.int y :: .int z :: st) M x = Rs L xs (d) 121 27 ls (.int (z ^^^ y) :: st) M x := Rs_next c121_26 rfl
theorem c121_27 : qx_code 121 27 = some (27, .iand, 28, 0, 0, 0) := by decide +kernel
theorem s121_27 {L : Nat} {xs : Nat → Int32} {d x : Nat} {M : qxM} {st : List Value} {ls : qxL} {z y : Int32} : Rs L xs (d) 121 27 ls (.int y :: .int z :: st) M x = Rs L xs (d) 121 28 ls (.int (z &&& y) :: st) M x := Rs_next c121_27 rfl
theorem c121_28 : qx_code 121 28 = some (28, .aload_n 1, 29, 0, 0, 0) := by decide +kernel
theorem s121_28 {L : Nat} {xs : Nat → Int32} {d x : Nat} {M : qxM} {st : List Value} {a0 a2 : Option Value} {z : Nat} : Rs L xs (d) 121 28 [a0, some (.ref z), a2] st M x = Rs L xs (d) 121 29 [a0, some (.ref z), a2] (.ref z :: st) M x := Rs_next c121_28 rfl
theorem c121_29 : qx_code 121 29 = some (29, .iload_n 2, 30, 0, 0, 0) := by decide +kernel
theorem s121_29 {L : Nat} {xs : Nat → Int32} {d x : Nat} {M : qxM} {st : List Value} {a0 a1 : Option Value} {z : Int32} : Rs L xs (d) 121 29 [a0, a1, some (.int z)] st M x = Rs L xs (d) 121 30 [a0, a1, some (.int z)] (.int z :: st) M x := Rs_next c121_29 rfl
theorem c121_30 : qx_code 121 30 = some (30, .invokevirtual 272, 33, 11, 2, 1061) := by decide +kernel
theorem s121_30 {L : Nat} {xs : Nat → Int32} {d x : Nat} {M : qxM} {st : List Value} {ls : qxL} {t : Nat} {z0 : Int32} (hk : qx_kd t = 10) (hs : st.length ≤ 4) : Rs L xs (d + 1) 121 30 ls (.int z0 :: .ref t :: st) M x = (Rs L xs d 11 0 [some (.ref t), some (.int z0), none, none] [] M 0).bind (qx_kn L xs (d + 1) 121 30 33 11 ls st x) := by
  have h1 : qx_act L xs (qx_rt 121) (30, .invokevirtual 272, 33, 11, 2, 1061) ls (.int z0 :: .ref t :: st) M = if 2 ≤ (.int z0 :: .ref t :: st).length ∧ st.length ≤ 4 then some (.inr (.inr (.inr (11, [.ref t, .int z0], st)))) else none := rfl
  rw [if_pos ⟨by simp [List.length_cons]; try omega, hs⟩] at h1
  have h2 := qx_kd_obj (k := 0) (by decide) hk
  exact Rs_call c121_30 h1 (by rw [show qx_args 11 [.ref t, .int z0] = decide (qx_sh t = some (.inl 0)) from rfl]; exact decide_eq_true h2)
theorem c121_33 : qx_code 121 33 = some (33, .iconst (-1), 34, 0, 0, 0) := by decide +kernel
theorem s121_33 {L : Nat} {xs : Nat → Int32} {d x : Nat} {M : qxM} {st : List Value} {ls : qxL} : Rs L xs (d) 121 33 ls st M x = Rs L xs (d) 121 34 ls (.int (-1) :: st) M x := Rs_next c121_33 rfl
theorem c121_34 : qx_code 121 34 = some (34, .ixor, 35, 0, 0, 0) := by decide +kernel
theorem s121_34 {L : Nat} {xs : Nat → Int32} {d x : Nat} {M : qxM} {st : List Value} {ls : qxL} {z y : Int32} : Rs L xs (d) 121 34 ls (.int y :: .int z :: st) M x = Rs L xs (d) 121 35 ls (.int (z ^^^ y) :: st) M x := Rs_next c121_34 rfl
theorem c121_35 : qx_code 121 35 = some (35, .iand, 36, 0, 0, 0) := by decide +kernel
theorem s121_35 {L : Nat} {xs : Nat → Int32} {d x : Nat} {M : qxM} {st : List Value} {ls : qxL} {z y : Int32} : Rs L xs (d) 121 35 ls (.int y :: .int z :: st) M x = Rs L xs (d) 121 36 ls (.int (z &&& y) :: st) M x := Rs_next c121_35 rfl
theorem c121_36 : qx_code 121 36 = some (36, .ireturn, 37, 0, 0, 0) := by decide +kernel
theorem s121_36 {L : Nat} {xs : Nat → Int32} {d x : Nat} {M : qxM} {ls : qxL} {z : Int32} : Rs L xs (d) 121 36 ls [.int z] M x = some (.inl (some (.int z)), M, x) := Rs_ret c121_36 rfl
theorem c122_0 : qx_code 122 0 = some (0, .aload_n 0, 1, 0, 0, 0) := by decide +kernel
theorem s122_0 {L : Nat} {xs : Nat → Int32} {d x : Nat} {M : qxM} {st : List Value} {a1 : Option Value} {z : Nat} : Rs L xs (d) 122 0 [some (.ref z), a1] st M x = Rs L xs (d) 122 1 [some (.ref z), a1] (.ref z :: st) M x := Rs_next c122_0 rfl
theorem c122_1 : qx_code 122 1 = some (1, .invokevirtual 107, 4, 159, 1, 728) := by decide +kernel
theorem s122_1 {L : Nat} {xs : Nat → Int32} {d x : Nat} {M : qxM} {st : List Value} {ls : qxL} {t : Nat} (hk : qx_kd t = 17) (hs : st.length ≤ 4) : Rs L xs (d + 1) 122 1 ls (.ref t :: st) M x = (Rs L xs d 159 0 [some (.ref t)] [] M 0).bind (qx_kn L xs (d + 1) 122 1 4 159 ls st x) := by
  have h1 : qx_act L xs (qx_rt 122) (1, .invokevirtual 107, 4, 159, 1, 728) ls (.ref t :: st) M = if 1 ≤ (.ref t :: st).length ∧ st.length ≤ 4 then some (.inr (.inr (.inr (159, [.ref t], st)))) else none := rfl
  rw [if_pos ⟨by simp [List.length_cons]; try omega, hs⟩] at h1
  have h2 := qx_kd_obj (k := 7) (by decide) hk
  exact Rs_call c122_1 h1 (by rw [show qx_args 159 [.ref t] = decide (qx_sh t = some (.inl 7)) from rfl]; exact decide_eq_true h2)
theorem c122_4 : qx_code 122 4 = some (4, .aload_n 0, 5, 0, 0, 0) := by decide +kernel
theorem s122_4 {L : Nat} {xs : Nat → Int32} {d x : Nat} {M : qxM} {st : List Value} {a1 : Option Value} {z : Nat} : Rs L xs (d) 122 4 [some (.ref z), a1] st M x = Rs L xs (d) 122 5 [some (.ref z), a1] (.ref z :: st) M x := Rs_next c122_4 rfl
theorem c122_5 : qx_code 122 5 = some (5, .invokevirtual 259, 8, 168, 1, 976) := by decide +kernel
theorem s122_5 {L : Nat} {xs : Nat → Int32} {d x : Nat} {M : qxM} {st : List Value} {ls : qxL} {t : Nat} (hk : qx_kd t = 17) (hs : st.length ≤ 4) : Rs L xs (d + 1) 122 5 ls (.ref t :: st) M x = (Rs L xs d 168 0 [some (.ref t)] [] M 0).bind (qx_kn L xs (d + 1) 122 5 8 168 ls st x) := by
  have h1 : qx_act L xs (qx_rt 122) (5, .invokevirtual 259, 8, 168, 1, 976) ls (.ref t :: st) M = if 1 ≤ (.ref t :: st).length ∧ st.length ≤ 4 then some (.inr (.inr (.inr (168, [.ref t], st)))) else none := rfl
  rw [if_pos ⟨by simp [List.length_cons]; try omega, hs⟩] at h1
  have h2 := qx_kd_obj (k := 7) (by decide) hk
  exact Rs_call c122_5 h1 (by rw [show qx_args 168 [.ref t] = decide (qx_sh t = some (.inl 7)) from rfl]; exact decide_eq_true h2)
theorem c122_8 : qx_code 122 8 = some (8, .astore_n 1, 9, 0, 0, 0) := by decide +kernel
theorem s122_8i {L : Nat} {xs : Nat → Int32} {d x : Nat} {M : qxM} {st : List Value} {a1 : Option Value} {z : Nat} {y : Int32} : Rs L xs (d) 122 8 [some (.int y), a1] (.ref z :: st) M x = Rs L xs (d) 122 9 [some (.int y), some (.ref z)] st M x := Rs_next c122_8 rfl
theorem s122_8r {L : Nat} {xs : Nat → Int32} {d x : Nat} {M : qxM} {st : List Value} {a1 : Option Value} {z : Nat} {y : Nat} : Rs L xs (d) 122 8 [some (.ref y), a1] (.ref z :: st) M x = Rs L xs (d) 122 9 [some (.ref y), some (.ref z)] st M x := Rs_next c122_8 rfl
theorem s122_8n {L : Nat} {xs : Nat → Int32} {d x : Nat} {M : qxM} {st : List Value} {a1 : Option Value} {z : Nat} : Rs L xs (d) 122 8 [none, a1] (.ref z :: st) M x = Rs L xs (d) 122 9 [none, some (.ref z)] st M x := Rs_next c122_8 rfl
theorem c122_9 : qx_code 122 9 = some (9, .aload_n 1, 10, 0, 0, 0) := by decide +kernel
theorem s122_9 {L : Nat} {xs : Nat → Int32} {d x : Nat} {M : qxM} {st : List Value} {a0 : Option Value} {z : Nat} : Rs L xs (d) 122 9 [a0, some (.ref z)] st M x = Rs L xs (d) 122 10 [a0, some (.ref z)] (.ref z :: st) M x := Rs_next c122_9 rfl
theorem c122_10 : qx_code 122 10 = some (10, .aload_n 1, 11, 0, 0, 0) := by decide +kernel
theorem s122_10 {L : Nat} {xs : Nat → Int32} {d x : Nat} {M : qxM} {st : List Value} {a0 : Option Value} {z : Nat} : Rs L xs (d) 122 10 [a0, some (.ref z)] st M x = Rs L xs (d) 122 11 [a0, some (.ref z)] (.ref z :: st) M x := Rs_next c122_10 rfl
theorem c122_11 : qx_code 122 11 = some (11, .invokevirtual 269, 14, 10, 1, 1042) := by decide +kernel
theorem s122_11 {L : Nat} {xs : Nat → Int32} {d x : Nat} {M : qxM} {st : List Value} {ls : qxL} {t : Nat} (hk : qx_kd t = 10) (hs : st.length ≤ 4) : Rs L xs (d + 1) 122 11 ls (.ref t :: st) M x = (Rs L xs d 10 0 [some (.ref t), none, none, none] [] M 0).bind (qx_kn L xs (d + 1) 122 11 14 10 ls st x) := by
  have h1 : qx_act L xs (qx_rt 122) (11, .invokevirtual 269, 14, 10, 1, 1042) ls (.ref t :: st) M = if 1 ≤ (.ref t :: st).length ∧ st.length ≤ 4 then some (.inr (.inr (.inr (10, [.ref t], st)))) else none := rfl
  rw [if_pos ⟨by simp [List.length_cons]; try omega, hs⟩] at h1
  have h2 := qx_kd_obj (k := 0) (by decide) hk
  exact Rs_call c122_11 h1 (by rw [show qx_args 10 [.ref t] = decide (qx_sh t = some (.inl 0)) from rfl]; exact decide_eq_true h2)
theorem c122_14 : qx_code 122 14 = some (14, .iconst 0, 15, 0, 0, 0) := by decide +kernel
theorem s122_14 {L : Nat} {xs : Nat → Int32} {d x : Nat} {M : qxM} {st : List Value} {ls : qxL} : Rs L xs (d) 122 14 ls st M x = Rs L xs (d) 122 15 ls (.int (nI 0) :: st) M x := Rs_next c122_14 rfl
theorem c122_15 : qx_code 122 15 = some (15, .invokevirtual 278, 18, 17, 3, 1080) := by decide +kernel
theorem s122_15 {L : Nat} {xs : Nat → Int32} {d x : Nat} {M : qxM} {st : List Value} {ls : qxL} {t : Nat} {z0 : Int32} {z1 : Int32} (hk : qx_kd t = 10) (hs : st.length ≤ 4) : Rs L xs (d + 1) 122 15 ls (.int z1 :: .int z0 :: .ref t :: st) M x = (Rs L xs d 17 0 [some (.ref t), some (.int z0), some (.int z1), none, none, none, none] [] M 0).bind (qx_kn L xs (d + 1) 122 15 18 17 ls st x) := by
  have h1 : qx_act L xs (qx_rt 122) (15, .invokevirtual 278, 18, 17, 3, 1080) ls (.int z1 :: .int z0 :: .ref t :: st) M = if 3 ≤ (.int z1 :: .int z0 :: .ref t :: st).length ∧ st.length ≤ 4 then some (.inr (.inr (.inr (17, [.ref t, .int z0, .int z1], st)))) else none := rfl
  rw [if_pos ⟨by simp [List.length_cons]; try omega, hs⟩] at h1
  have h2 := qx_kd_obj (k := 0) (by decide) hk
  exact Rs_call c122_15 h1 (by rw [show qx_args 17 [.ref t, .int z0, .int z1] = decide (qx_sh t = some (.inl 0)) from rfl]; exact decide_eq_true h2)
theorem c122_18 : qx_code 122 18 = some (18, .ireturn, 19, 0, 0, 0) := by decide +kernel
theorem s122_18 {L : Nat} {xs : Nat → Int32} {d x : Nat} {M : qxM} {ls : qxL} {z : Int32} : Rs L xs (d) 122 18 ls [.int z] M x = some (.inl (some (.int z)), M, x) := Rs_ret c122_18 rfl
theorem c123_0 : qx_code 123 0 = some (0, .aload_n 0, 1, 0, 0, 0) := by decide +kernel
theorem s123_0 {L : Nat} {xs : Nat → Int32} {d x : Nat} {M : qxM} {st : List Value} {a1 a2 a3 a4 a5 : Option Value} {z : Nat} : Rs L xs (d) 123 0 [some (.ref z), a1, a2, a3, a4, a5] st M x = Rs L xs (d) 123 1 [some (.ref z), a1, a2, a3, a4, a5] (.ref z :: st) M x := Rs_next c123_0 rfl
theorem c123_1 : qx_code 123 1 = some (1, .invokevirtual 107, 4, 159, 1, 728) := by decide +kernel
theorem s123_1 {L : Nat} {xs : Nat → Int32} {d x : Nat} {M : qxM} {st : List Value} {ls : qxL} {t : Nat} (hk : qx_kd t = 17) (hs : st.length ≤ 4) : Rs L xs (d + 1) 123 1 ls (.ref t :: st) M x = (Rs L xs d 159 0 [some (.ref t)] [] M 0).bind (qx_kn L xs (d + 1) 123 1 4 159 ls st x) := by
  have h1 : qx_act L xs (qx_rt 123) (1, .invokevirtual 107, 4, 159, 1, 728) ls (.ref t :: st) M = if 1 ≤ (.ref t :: st).length ∧ st.length ≤ 4 then some (.inr (.inr (.inr (159, [.ref t], st)))) else none := rfl
  rw [if_pos ⟨by simp [List.length_cons]; try omega, hs⟩] at h1
  have h2 := qx_kd_obj (k := 7) (by decide) hk
  exact Rs_call c123_1 h1 (by rw [show qx_args 159 [.ref t] = decide (qx_sh t = some (.inl 7)) from rfl]; exact decide_eq_true h2)
theorem c123_4 : qx_code 123 4 = some (4, .aload_n 0, 5, 0, 0, 0) := by decide +kernel
theorem s123_4 {L : Nat} {xs : Nat → Int32} {d x : Nat} {M : qxM} {st : List Value} {a1 a2 a3 a4 a5 : Option Value} {z : Nat} : Rs L xs (d) 123 4 [some (.ref z), a1, a2, a3, a4, a5] st M x = Rs L xs (d) 123 5 [some (.ref z), a1, a2, a3, a4, a5] (.ref z :: st) M x := Rs_next c123_4 rfl
theorem c123_5 : qx_code 123 5 = some (5, .invokevirtual 259, 8, 168, 1, 976) := by decide +kernel
theorem s123_5 {L : Nat} {xs : Nat → Int32} {d x : Nat} {M : qxM} {st : List Value} {ls : qxL} {t : Nat} (hk : qx_kd t = 17) (hs : st.length ≤ 4) : Rs L xs (d + 1) 123 5 ls (.ref t :: st) M x = (Rs L xs d 168 0 [some (.ref t)] [] M 0).bind (qx_kn L xs (d + 1) 123 5 8 168 ls st x) := by
  have h1 : qx_act L xs (qx_rt 123) (5, .invokevirtual 259, 8, 168, 1, 976) ls (.ref t :: st) M = if 1 ≤ (.ref t :: st).length ∧ st.length ≤ 4 then some (.inr (.inr (.inr (168, [.ref t], st)))) else none := rfl
  rw [if_pos ⟨by simp [List.length_cons]; try omega, hs⟩] at h1
  have h2 := qx_kd_obj (k := 7) (by decide) hk
  exact Rs_call c123_5 h1 (by rw [show qx_args 168 [.ref t] = decide (qx_sh t = some (.inl 7)) from rfl]; exact decide_eq_true h2)
theorem c123_8 : qx_code 123 8 = some (8, .astore_n 2, 9, 0, 0, 0) := by decide +kernel
theorem s123_8i {L : Nat} {xs : Nat → Int32} {d x : Nat} {M : qxM} {st : List Value} {a0 a2 a3 a4 a5 : Option Value} {z : Nat} {y : Int32} : Rs L xs (d) 123 8 [a0, some (.int y), a2, a3, a4, a5] (.ref z :: st) M x = Rs L xs (d) 123 9 [a0, some (.int y), some (.ref z), a3, a4, a5] st M x := Rs_next c123_8 rfl
theorem s123_8r {L : Nat} {xs : Nat → Int32} {d x : Nat} {M : qxM} {st : List Value} {a0 a2 a3 a4 a5 : Option Value} {z : Nat} {y : Nat} : Rs L xs (d) 123 8 [a0, some (.ref y), a2, a3, a4, a5] (.ref z :: st) M x = Rs L xs (d) 123 9 [a0, some (.ref y), some (.ref z), a3, a4, a5] st M x := Rs_next c123_8 rfl
theorem s123_8n {L : Nat} {xs : Nat → Int32} {d x : Nat} {M : qxM} {st : List Value} {a0 a2 a3 a4 a5 : Option Value} {z : Nat} : Rs L xs (d) 123 8 [a0, none, a2, a3, a4, a5] (.ref z :: st) M x = Rs L xs (d) 123 9 [a0, none, some (.ref z), a3, a4, a5] st M x := Rs_next c123_8 rfl
theorem c123_9 : qx_code 123 9 = some (9, .aload_n 2, 10, 0, 0, 0) := by decide +kernel
theorem s123_9 {L : Nat} {xs : Nat → Int32} {d x : Nat} {M : qxM} {st : List Value} {a0 a1 a3 a4 a5 : Option Value} {z : Nat} : Rs L xs (d) 123 9 [a0, a1, some (.ref z), a3, a4, a5] st M x = Rs L xs (d) 123 10 [a0, a1, some (.ref z), a3, a4, a5] (.ref z :: st) M x := Rs_next c123_9 rfl
theorem c123_10 : qx_code 123 10 = some (10, .invokevirtual 269, 13, 10, 1, 1042) := by decide +kernel
theorem s123_10 {L : Nat} {xs : Nat → Int32} {d x : Nat} {M : qxM} {st : List Value} {ls : qxL} {t : Nat} (hk : qx_kd t = 10) (hs : st.length ≤ 4) : Rs L xs (d + 1) 123 10 ls (.ref t :: st) M x = (Rs L xs d 10 0 [some (.ref t), none, none, none] [] M 0).bind (qx_kn L xs (d + 1) 123 10 13 10 ls st x) := by
  have h1 : qx_act L xs (qx_rt 123) (10, .invokevirtual 269, 13, 10, 1, 1042) ls (.ref t :: st) M = if 1 ≤ (.ref t :: st).length ∧ st.length ≤ 4 then some (.inr (.inr (.inr (10, [.ref t], st)))) else none := rfl
  rw [if_pos ⟨by simp [List.length_cons]; try omega, hs⟩] at h1
  have h2 := qx_kd_obj (k := 0) (by decide) hk
  exact Rs_call c123_10 h1 (by rw [show qx_args 10 [.ref t] = decide (qx_sh t = some (.inl 0)) from rfl]; exact decide_eq_true h2)
theorem c123_13 : qx_code 123 13 = some (13, .istore_n 3, 14, 0, 0, 0) := by decide +kernel
theorem s123_13i {L : Nat} {xs : Nat → Int32} {d x : Nat} {M : qxM} {st : List Value} {a0 a1 a3 a4 a5 : Option Value} {z : Int32} {y : Int32} : Rs L xs (d) 123 13 [a0, a1, some (.int y), a3, a4, a5] (.int z :: st) M x = Rs L xs (d) 123 14 [a0, a1, some (.int y), some (.int z), a4, a5] st M x := Rs_next c123_13 rfl
theorem s123_13r {L : Nat} {xs : Nat → Int32} {d x : Nat} {M : qxM} {st : List Value} {a0 a1 a3 a4 a5 : Option Value} {z : Int32} {y : Nat} : Rs L xs (d) 123 13 [a0, a1, some (.ref y), a3, a4, a5] (.int z :: st) M x = Rs L xs (d) 123 14 [a0, a1, some (.ref y), some (.int z), a4, a5] st M x := Rs_next c123_13 rfl
theorem s123_13n {L : Nat} {xs : Nat → Int32} {d x : Nat} {M : qxM} {st : List Value} {a0 a1 a3 a4 a5 : Option Value} {z : Int32} : Rs L xs (d) 123 13 [a0, a1, none, a3, a4, a5] (.int z :: st) M x = Rs L xs (d) 123 14 [a0, a1, none, some (.int z), a4, a5] st M x := Rs_next c123_13 rfl
theorem c123_14 : qx_code 123 14 = some (14, .iconst 0, 15, 0, 0, 0) := by decide +kernel
theorem s123_14 {L : Nat} {xs : Nat → Int32} {d x : Nat} {M : qxM} {st : List Value} {ls : qxL} : Rs L xs (d) 123 14 ls st M x = Rs L xs (d) 123 15 ls (.int (nI 0) :: st) M x := Rs_next c123_14 rfl
theorem c123_15 : qx_code 123 15 = some (15, .istore 4, 17, 0, 0, 0) := by decide +kernel
theorem s123_15i {L : Nat} {xs : Nat → Int32} {d x : Nat} {M : qxM} {st : List Value} {a0 a1 a2 a4 a5 : Option Value} {z : Int32} {y : Int32} : Rs L xs (d) 123 15 [a0, a1, a2, some (.int y), a4, a5] (.int z :: st) M x = Rs L xs (d) 123 17 [a0, a1, a2, some (.int y), some (.int z), a5] st M x := Rs_next c123_15 rfl
theorem s123_15r {L : Nat} {xs : Nat → Int32} {d x : Nat} {M : qxM} {st : List Value} {a0 a1 a2 a4 a5 : Option Value} {z : Int32} {y : Nat} : Rs L xs (d) 123 15 [a0, a1, a2, some (.ref y), a4, a5] (.int z :: st) M x = Rs L xs (d) 123 17 [a0, a1, a2, some (.ref y), some (.int z), a5] st M x := Rs_next c123_15 rfl
theorem s123_15n {L : Nat} {xs : Nat → Int32} {d x : Nat} {M : qxM} {st : List Value} {a0 a1 a2 a4 a5 : Option Value} {z : Int32} : Rs L xs (d) 123 15 [a0, a1, a2, none, a4, a5] (.int z :: st) M x = Rs L xs (d) 123 17 [a0, a1, a2, none, some (.int z), a5] st M x := Rs_next c123_15 rfl
theorem c123_17 : qx_code 123 17 = some (17, .iload 4, 19, 0, 0, 0) := by decide +kernel
theorem s123_17 {L : Nat} {xs : Nat → Int32} {d x : Nat} {M : qxM} {st : List Value} {a0 a1 a2 a3 a5 : Option Value} {z : Int32} : Rs L xs (d) 123 17 [a0, a1, a2, a3, some (.int z), a5] st M x = Rs L xs (d) 123 19 [a0, a1, a2, a3, some (.int z), a5] (.int z :: st) M x := Rs_next c123_17 rfl
theorem c123_19 : qx_code 123 19 = some (19, .bipush 14, 21, 0, 0, 0) := by decide +kernel
theorem s123_19 {L : Nat} {xs : Nat → Int32} {d x : Nat} {M : qxM} {st : List Value} {ls : qxL} : Rs L xs (d) 123 19 ls st M x = Rs L xs (d) 123 21 ls (.int (nI 14) :: st) M x := Rs_next c123_19 rfl
theorem c123_21 : qx_code 123 21 = some (21, .if_icmp .ge 36, 24, 57, 0, 0) := by decide +kernel
theorem s123_21 {L : Nat} {xs : Nat → Int32} {d x : Nat} {M : qxM} {st : List Value} {ls : qxL} {z y : Int32} : Rs L xs (d) 123 21 ls (.int y :: .int z :: st) M x = if y ≤ z then Rs L xs (d) 123 57 ls st M x else Rs L xs (d) 123 24 ls st M x := Rs_ite c123_21 rfl
theorem c123_24 : qx_code 123 24 = some (24, .iload_n 3, 25, 0, 0, 0) := by decide +kernel
theorem s123_24 {L : Nat} {xs : Nat → Int32} {d x : Nat} {M : qxM} {st : List Value} {a0 a1 a2 a4 a5 : Option Value} {z : Int32} : Rs L xs (d) 123 24 [a0, a1, a2, some (.int z), a4, a5] st M x = Rs L xs (d) 123 25 [a0, a1, a2, some (.int z), a4, a5] (.int z :: st) M x := Rs_next c123_24 rfl
theorem c123_25 : qx_code 123 25 = some (25, .ifCond .eq 32, 28, 57, 0, 0) := by decide +kernel
theorem s123_25 {L : Nat} {xs : Nat → Int32} {d x : Nat} {M : qxM} {st : List Value} {ls : qxL} {z : Int32} : Rs L xs (d) 123 25 ls (.int z :: st) M x = if z = 0 then Rs L xs (d) 123 57 ls st M x else Rs L xs (d) 123 28 ls st M x := Rs_ite c123_25 rfl
theorem c123_28 : qx_code 123 28 = some (28, .aload_n 2, 29, 0, 0, 0) := by decide +kernel
theorem s123_28 {L : Nat} {xs : Nat → Int32} {d x : Nat} {M : qxM} {st : List Value} {a0 a1 a3 a4 a5 : Option Value} {z : Nat} : Rs L xs (d) 123 28 [a0, a1, some (.ref z), a3, a4, a5] st M x = Rs L xs (d) 123 29 [a0, a1, some (.ref z), a3, a4, a5] (.ref z :: st) M x := Rs_next c123_28 rfl
theorem c123_29 : qx_code 123 29 = some (29, .iload_n 3, 30, 0, 0, 0) := by decide +kernel
theorem s123_29 {L : Nat} {xs : Nat → Int32} {d x : Nat} {M : qxM} {st : List Value} {a0 a1 a2 a4 a5 : Option Value} {z : Int32} : Rs L xs (d) 123 29 [a0, a1, a2, some (.int z), a4, a5] st M x = Rs L xs (d) 123 30 [a0, a1, a2, some (.int z), a4, a5] (.int z :: st) M x := Rs_next c123_29 rfl
theorem c123_30 : qx_code 123 30 = some (30, .invokevirtual 282, 33, 18, 2, 1095) := by decide +kernel
theorem s123_30 {L : Nat} {xs : Nat → Int32} {d x : Nat} {M : qxM} {st : List Value} {ls : qxL} {t : Nat} {z0 : Int32} (hk : qx_kd t = 10) (hs : st.length ≤ 4) : Rs L xs (d + 1) 123 30 ls (.int z0 :: .ref t :: st) M x = (Rs L xs d 18 0 [some (.ref t), some (.int z0), none, none, none, none] [] M 0).bind (qx_kn L xs (d + 1) 123 30 33 18 ls st x) := by
  have h1 : qx_act L xs (qx_rt 123) (30, .invokevirtual 282, 33, 18, 2, 1095) ls (.int z0 :: .ref t :: st) M = if 2 ≤ (.int z0 :: .ref t :: st).length ∧ st.length ≤ 4 then some (.inr (.inr (.inr (18, [.ref t, .int z0], st)))) else none := rfl
  rw [if_pos ⟨by simp [List.length_cons]; try omega, hs⟩] at h1
  have h2 := qx_kd_obj (k := 0) (by decide) hk
  exact Rs_call c123_30 h1 (by rw [show qx_args 18 [.ref t, .int z0] = decide (qx_sh t = some (.inl 0)) from rfl]; exact decide_eq_true h2)
theorem c123_33 : qx_code 123 33 = some (33, .istore 5, 35, 0, 0, 0) := by decide +kernel
theorem s123_33i {L : Nat} {xs : Nat → Int32} {d x : Nat} {M : qxM} {st : List Value} {a0 a1 a2 a3 a5 : Option Value} {z : Int32} {y : Int32} : Rs L xs (d) 123 33 [a0, a1, a2, a3, some (.int y), a5] (.int z :: st) M x = Rs L xs (d) 123 35 [a0, a1, a2, a3, some (.int y), some (.int z)] st M x := Rs_next c123_33 rfl
theorem s123_33r {L : Nat} {xs : Nat → Int32} {d x : Nat} {M : qxM} {st : List Value} {a0 a1 a2 a3 a5 : Option Value} {z : Int32} {y : Nat} : Rs L xs (d) 123 33 [a0, a1, a2, a3, some (.ref y), a5] (.int z :: st) M x = Rs L xs (d) 123 35 [a0, a1, a2, a3, some (.ref y), some (.int z)] st M x := Rs_next c123_33 rfl
theorem s123_33n {L : Nat} {xs : Nat → Int32} {d x : Nat} {M : qxM} {st : List Value} {a0 a1 a2 a3 a5 : Option Value} {z : Int32} : Rs L xs (d) 123 33 [a0, a1, a2, a3, none, a5] (.int z :: st) M x = Rs L xs (d) 123 35 [a0, a1, a2, a3, none, some (.int z)] st M x := Rs_next c123_33 rfl
theorem c123_35 : qx_code 123 35 = some (35, .iload 4, 37, 0, 0, 0) := by decide +kernel
theorem s123_35 {L : Nat} {xs : Nat → Int32} {d x : Nat} {M : qxM} {st : List Value} {a0 a1 a2 a3 a5 : Option Value} {z : Int32} : Rs L xs (d) 123 35 [a0, a1, a2, a3, some (.int z), a5] st M x = Rs L xs (d) 123 37 [a0, a1, a2, a3, some (.int z), a5] (.int z :: st) M x := Rs_next c123_35 rfl
theorem c123_37 : qx_code 123 37 = some (37, .iload_n 1, 38, 0, 0, 0) := by decide +kernel
theorem s123_37 {L : Nat} {xs : Nat → Int32} {d x : Nat} {M : qxM} {st : List Value} {a0 a2 a3 a4 a5 : Option Value} {z : Int32} : Rs L xs (d) 123 37 [a0, some (.int z), a2, a3, a4, a5] st M x = Rs L xs (d) 123 38 [a0, some (.int z), a2, a3, a4, a5] (.int z :: st) M x := Rs_next c123_37 rfl
theorem c123_38 : qx_code 123 38 = some (38, .if_icmp .ne 6, 41, 44, 0, 0) := by decide +kernel
theorem s123_38 {L : Nat} {xs : Nat → Int32} {d x : Nat} {M : qxM} {st : List Value} {ls : qxL} {z y : Int32} : Rs L xs (d) 123 38 ls (.int y :: .int z :: st) M x = if z = y then Rs L xs (d) 123 41 ls st M x else Rs L xs (d) 123 44 ls st M x := Rs_ite c123_38 rfl
theorem c123_41 : qx_code 123 41 = some (41, .iload 5, 43, 0, 0, 0) := by decide +kernel
theorem s123_41 {L : Nat} {xs : Nat → Int32} {d x : Nat} {M : qxM} {st : List Value} {a0 a1 a2 a3 a4 : Option Value} {z : Int32} : Rs L xs (d) 123 41 [a0, a1, a2, a3, a4, some (.int z)] st M x = Rs L xs (d) 123 43 [a0, a1, a2, a3, a4, some (.int z)] (.int z :: st) M x := Rs_next c123_41 rfl
theorem c123_43 : qx_code 123 43 = some (43, .ireturn, 44, 0, 0, 0) := by decide +kernel
theorem s123_43 {L : Nat} {xs : Nat → Int32} {d x : Nat} {M : qxM} {ls : qxL} {z : Int32} : Rs L xs (d) 123 43 ls [.int z] M x = some (.inl (some (.int z)), M, x) := Rs_ret c123_43 rfl
theorem c123_44 : qx_code 123 44 = some (44, .iload_n 3, 45, 0, 0, 0) := by decide +kernel
theorem s123_44 {L : Nat} {xs : Nat → Int32} {d x : Nat} {M : qxM} {st : List Value} {a0 a1 a2 a4 a5 : Option Value} {z : Int32} : Rs L xs (d) 123 44 [a0, a1, a2, some (.int z), a4, a5] st M x = Rs L xs (d) 123 45 [a0, a1, a2, some (.int z), a4, a5] (.int z :: st) M x := Rs_next c123_44 rfl
theorem c123_45 : qx_code 123 45 = some (45, .iload 5, 47, 0, 0, 0) := by decide +kernel
theorem s123_45 {L : Nat} {xs : Nat → Int32} {d x : Nat} {M : qxM} {st : List Value} {a0 a1 a2 a3 a4 : Option Value} {z : Int32} : Rs L xs (d) 123 45 [a0, a1, a2, a3, a4, some (.int z)] st M x = Rs L xs (d) 123 47 [a0, a1, a2, a3, a4, some (.int z)] (.int z :: st) M x := Rs_next c123_45 rfl
theorem c123_47 : qx_code 123 47 = some (47, .iconst (-1), 48, 0, 0, 0) := by decide +kernel
theorem s123_47 {L : Nat} {xs : Nat → Int32} {d x : Nat} {M : qxM} {st : List Value} {ls : qxL} : Rs L xs (d) 123 47 ls st M x = Rs L xs (d) 123 48 ls (.int (-1) :: st) M x := Rs_next c123_47 rfl
theorem c123_48 : qx_code 123 48 = some (48, .ixor, 49, 0, 0, 0) := by decide +kernel
theorem s123_48 {L : Nat} {xs : Nat → Int32} {d x : Nat} {M : qxM} {st : List Value} {ls : qxL} {z y : Int32} : Rs L xs (d) 123 48 ls (.int y :: .int z :: st) M x = Rs L xs (d) 123 49 ls (.int (z ^^^ y) :: st) M x := Rs_next c123_48 rfl
theorem c123_49 : qx_code 123 49 = some (49, .iand, 50, 0, 0, 0) := by decide +kernel
theorem s123_49 {L : Nat} {xs : Nat → Int32} {d x : Nat} {M : qxM} {st : List Value} {ls : qxL} {z y : Int32} : Rs L xs (d) 123 49 ls (.int y :: .int z :: st) M x = Rs L xs (d) 123 50 ls (.int (z &&& y) :: st) M x := Rs_next c123_49 rfl
theorem c123_50 : qx_code 123 50 = some (50, .istore_n 3, 51, 0, 0, 0) := by decide +kernel
theorem s123_50i {L : Nat} {xs : Nat → Int32} {d x : Nat} {M : qxM} {st : List Value} {a0 a1 a3 a4 a5 : Option Value} {z : Int32} {y : Int32} : Rs L xs (d) 123 50 [a0, a1, some (.int y), a3, a4, a5] (.int z :: st) M x = Rs L xs (d) 123 51 [a0, a1, some (.int y), some (.int z), a4, a5] st M x := Rs_next c123_50 rfl
theorem s123_50r {L : Nat} {xs : Nat → Int32} {d x : Nat} {M : qxM} {st : List Value} {a0 a1 a3 a4 a5 : Option Value} {z : Int32} {y : Nat} : Rs L xs (d) 123 50 [a0, a1, some (.ref y), a3, a4, a5] (.int z :: st) M x = Rs L xs (d) 123 51 [a0, a1, some (.ref y), some (.int z), a4, a5] st M x := Rs_next c123_50 rfl
theorem s123_50n {L : Nat} {xs : Nat → Int32} {d x : Nat} {M : qxM} {st : List Value} {a0 a1 a3 a4 a5 : Option Value} {z : Int32} : Rs L xs (d) 123 50 [a0, a1, none, a3, a4, a5] (.int z :: st) M x = Rs L xs (d) 123 51 [a0, a1, none, some (.int z), a4, a5] st M x := Rs_next c123_50 rfl
theorem c123_51 : qx_code 123 51 = some (51, .iinc 4 1, 54, 0, 0, 0) := by decide +kernel
theorem s123_51i {L : Nat} {xs : Nat → Int32} {d x : Nat} {M : qxM} {st : List Value} {a0 a1 a2 a5 : Option Value} {z : Int32} {y : Int32} : Rs L xs (d) 123 51 [a0, a1, a2, some (.int y), some (.int z), a5] st M x = Rs L xs (d) 123 54 [a0, a1, a2, some (.int y), some (.int (z + (nI 1))), a5] st M x := Rs_next c123_51 rfl
theorem s123_51r {L : Nat} {xs : Nat → Int32} {d x : Nat} {M : qxM} {st : List Value} {a0 a1 a2 a5 : Option Value} {z : Int32} {y : Nat} : Rs L xs (d) 123 51 [a0, a1, a2, some (.ref y), some (.int z), a5] st M x = Rs L xs (d) 123 54 [a0, a1, a2, some (.ref y), some (.int (z + (nI 1))), a5] st M x := Rs_next c123_51 rfl
theorem s123_51n {L : Nat} {xs : Nat → Int32} {d x : Nat} {M : qxM} {st : List Value} {a0 a1 a2 a5 : Option Value} {z : Int32} : Rs L xs (d) 123 51 [a0, a1, a2, none, some (.int z), a5] st M x = Rs L xs (d) 123 54 [a0, a1, a2, none, some (.int (z + (nI 1))), a5] st M x := Rs_next c123_51 rfl
theorem c123_54 : qx_code 123 54 = some (54, .goto (-37), 57, 17, 0, 0) := by decide +kernel
theorem s123_54 {L : Nat} {xs : Nat → Int32} {d x : Nat} {M : qxM} {st : List Value} {ls : qxL} : Rs L xs (d) 123 54 ls st M x = Rs L xs (d) 123 17 ls st M x := Rs_next c123_54 rfl
theorem c123_57 : qx_code 123 57 = some (57, .iconst (-1), 58, 0, 0, 0) := by decide +kernel
theorem s123_57 {L : Nat} {xs : Nat → Int32} {d x : Nat} {M : qxM} {st : List Value} {ls : qxL} : Rs L xs (d) 123 57 ls st M x = Rs L xs (d) 123 58 ls (.int (-1) :: st) M x := Rs_next c123_57 rfl
theorem c123_58 : qx_code 123 58 = some (58, .ireturn, 59, 0, 0, 0) := by decide +kernel
theorem s123_58 {L : Nat} {xs : Nat → Int32} {d x : Nat} {M : qxM} {ls : qxL} {z : Int32} : Rs L xs (d) 123 58 ls [.int z] M x = some (.inl (some (.int z)), M, x) := Rs_ret c123_58 rfl
theorem c124_0 : qx_code 124 0 = some (0, .aload_n 0, 1, 0, 0, 0) := by decide +kernel
theorem s124_0 {L : Nat} {xs : Nat → Int32} {d x : Nat} {M : qxM} {st : List Value} {a1 a2 a3 : Option Value} {z : Nat} : Rs L xs (d) 124 0 [some (.ref z), a1, a2, a3] st M x = Rs L xs (d) 124 1 [some (.ref z), a1, a2, a3] (.ref z :: st) M x := Rs_next c124_0 rfl
theorem c124_1 : qx_code 124 1 = some (1, .invokevirtual 107, 4, 159, 1, 728) := by decide +kernel
theorem s124_1 {L : Nat} {xs : Nat → Int32} {d x : Nat} {M : qxM} {st : List Value} {ls : qxL} {t : Nat} (hk : qx_kd t = 17) (hs : st.length ≤ 4) : Rs L xs (d + 1) 124 1 ls (.ref t :: st) M x = (Rs L xs d 159 0 [some (.ref t)] [] M 0).bind (qx_kn L xs (d + 1) 124 1 4 159 ls st x) := by
  have h1 : qx_act L xs (qx_rt 124) (1, .invokevirtual 107, 4, 159, 1, 728) ls (.ref t :: st) M = if 1 ≤ (.ref t :: st).length ∧ st.length ≤ 4 then some (.inr (.inr (.inr (159, [.ref t], st)))) else none := rfl
  rw [if_pos ⟨by simp [List.length_cons]; try omega, hs⟩] at h1
  have h2 := qx_kd_obj (k := 7) (by decide) hk
  exact Rs_call c124_1 h1 (by rw [show qx_args 159 [.ref t] = decide (qx_sh t = some (.inl 7)) from rfl]; exact decide_eq_true h2)
theorem c124_4 : qx_code 124 4 = some (4, .aload_n 0, 5, 0, 0, 0) := by decide +kernel
theorem s124_4 {L : Nat} {xs : Nat → Int32} {d x : Nat} {M : qxM} {st : List Value} {a1 a2 a3 : Option Value} {z : Nat} : Rs L xs (d) 124 4 [some (.ref z), a1, a2, a3] st M x = Rs L xs (d) 124 5 [some (.ref z), a1, a2, a3] (.ref z :: st) M x := Rs_next c124_4 rfl
theorem c124_5 : qx_code 124 5 = some (5, .invokevirtual 259, 8, 168, 1, 976) := by decide +kernel
theorem s124_5 {L : Nat} {xs : Nat → Int32} {d x : Nat} {M : qxM} {st : List Value} {ls : qxL} {t : Nat} (hk : qx_kd t = 17) (hs : st.length ≤ 4) : Rs L xs (d + 1) 124 5 ls (.ref t :: st) M x = (Rs L xs d 168 0 [some (.ref t)] [] M 0).bind (qx_kn L xs (d + 1) 124 5 8 168 ls st x) := by
  have h1 : qx_act L xs (qx_rt 124) (5, .invokevirtual 259, 8, 168, 1, 976) ls (.ref t :: st) M = if 1 ≤ (.ref t :: st).length ∧ st.length ≤ 4 then some (.inr (.inr (.inr (168, [.ref t], st)))) else none := rfl
  rw [if_pos ⟨by simp [List.length_cons]; try omega, hs⟩] at h1
  have h2 := qx_kd_obj (k := 7) (by decide) hk
  exact Rs_call c124_5 h1 (by rw [show qx_args 168 [.ref t] = decide (qx_sh t = some (.inl 7)) from rfl]; exact decide_eq_true h2)
theorem c124_8 : qx_code 124 8 = some (8, .astore_n 1, 9, 0, 0, 0) := by decide +kernel
theorem s124_8i {L : Nat} {xs : Nat → Int32} {d x : Nat} {M : qxM} {st : List Value} {a1 a2 a3 : Option Value} {z : Nat} {y : Int32} : Rs L xs (d) 124 8 [some (.int y), a1, a2, a3] (.ref z :: st) M x = Rs L xs (d) 124 9 [some (.int y), some (.ref z), a2, a3] st M x := Rs_next c124_8 rfl
theorem s124_8r {L : Nat} {xs : Nat → Int32} {d x : Nat} {M : qxM} {st : List Value} {a1 a2 a3 : Option Value} {z : Nat} {y : Nat} : Rs L xs (d) 124 8 [some (.ref y), a1, a2, a3] (.ref z :: st) M x = Rs L xs (d) 124 9 [some (.ref y), some (.ref z), a2, a3] st M x := Rs_next c124_8 rfl
theorem s124_8n {L : Nat} {xs : Nat → Int32} {d x : Nat} {M : qxM} {st : List Value} {a1 a2 a3 : Option Value} {z : Nat} : Rs L xs (d) 124 8 [none, a1, a2, a3] (.ref z :: st) M x = Rs L xs (d) 124 9 [none, some (.ref z), a2, a3] st M x := Rs_next c124_8 rfl
theorem c124_9 : qx_code 124 9 = some (9, .aload_n 1, 10, 0, 0, 0) := by decide +kernel
theorem s124_9 {L : Nat} {xs : Nat → Int32} {d x : Nat} {M : qxM} {st : List Value} {a0 a2 a3 : Option Value} {z : Nat} : Rs L xs (d) 124 9 [a0, some (.ref z), a2, a3] st M x = Rs L xs (d) 124 10 [a0, some (.ref z), a2, a3] (.ref z :: st) M x := Rs_next c124_9 rfl
theorem c124_10 : qx_code 124 10 = some (10, .invokevirtual 269, 13, 10, 1, 1042) := by decide +kernel
theorem s124_10 {L : Nat} {xs : Nat → Int32} {d x : Nat} {M : qxM} {st : List Value} {ls : qxL} {t : Nat} (hk : qx_kd t = 10) (hs : st.length ≤ 4) : Rs L xs (d + 1) 124 10 ls (.ref t :: st) M x = (Rs L xs d 10 0 [some (.ref t), none, none, none] [] M 0).bind (qx_kn L xs (d + 1) 124 10 13 10 ls st x) := by
  have h1 : qx_act L xs (qx_rt 124) (10, .invokevirtual 269, 13, 10, 1, 1042) ls (.ref t :: st) M = if 1 ≤ (.ref t :: st).length ∧ st.length ≤ 4 then some (.inr (.inr (.inr (10, [.ref t], st)))) else none := rfl
  rw [if_pos ⟨by simp [List.length_cons]; try omega, hs⟩] at h1
  have h2 := qx_kd_obj (k := 0) (by decide) hk
  exact Rs_call c124_10 h1 (by rw [show qx_args 10 [.ref t] = decide (qx_sh t = some (.inl 0)) from rfl]; exact decide_eq_true h2)
theorem c124_13 : qx_code 124 13 = some (13, .istore_n 2, 14, 0, 0, 0) := by decide +kernel
theorem s124_13i {L : Nat} {xs : Nat → Int32} {d x : Nat} {M : qxM} {st : List Value} {a0 a2 a3 : Option Value} {z : Int32} {y : Int32} : Rs L xs (d) 124 13 [a0, some (.int y), a2, a3] (.int z :: st) M x = Rs L xs (d) 124 14 [a0, some (.int y), some (.int z), a3] st M x := Rs_next c124_13 rfl
theorem s124_13r {L : Nat} {xs : Nat → Int32} {d x : Nat} {M : qxM} {st : List Value} {a0 a2 a3 : Option Value} {z : Int32} {y : Nat} : Rs L xs (d) 124 13 [a0, some (.ref y), a2, a3] (.int z :: st) M x = Rs L xs (d) 124 14 [a0, some (.ref y), some (.int z), a3] st M x := Rs_next c124_13 rfl
theorem s124_13n {L : Nat} {xs : Nat → Int32} {d x : Nat} {M : qxM} {st : List Value} {a0 a2 a3 : Option Value} {z : Int32} : Rs L xs (d) 124 13 [a0, none, a2, a3] (.int z :: st) M x = Rs L xs (d) 124 14 [a0, none, some (.int z), a3] st M x := Rs_next c124_13 rfl
theorem c124_14 : qx_code 124 14 = some (14, .aload_n 1, 15, 0, 0, 0) := by decide +kernel
theorem s124_14 {L : Nat} {xs : Nat → Int32} {d x : Nat} {M : qxM} {st : List Value} {a0 a2 a3 : Option Value} {z : Nat} : Rs L xs (d) 124 14 [a0, some (.ref z), a2, a3] st M x = Rs L xs (d) 124 15 [a0, some (.ref z), a2, a3] (.ref z :: st) M x := Rs_next c124_14 rfl
theorem c124_15 : qx_code 124 15 = some (15, .iload_n 2, 16, 0, 0, 0) := by decide +kernel
theorem s124_15 {L : Nat} {xs : Nat → Int32} {d x : Nat} {M : qxM} {st : List Value} {a0 a1 a3 : Option Value} {z : Int32} : Rs L xs (d) 124 15 [a0, a1, some (.int z), a3] st M x = Rs L xs (d) 124 16 [a0, a1, some (.int z), a3] (.int z :: st) M x := Rs_next c124_15 rfl
theorem c124_16 : qx_code 124 16 = some (16, .invokevirtual 272, 19, 11, 2, 1061) := by decide +kernel
theorem s124_16 {L : Nat} {xs : Nat → Int32} {d x : Nat} {M : qxM} {st : List Value} {ls : qxL} {t : Nat} {z0 : Int32} (hk : qx_kd t = 10) (hs : st.length ≤ 4) : Rs L xs (d + 1) 124 16 ls (.int z0 :: .ref t :: st) M x = (Rs L xs d 11 0 [some (.ref t), some (.int z0), none, none] [] M 0).bind (qx_kn L xs (d + 1) 124 16 19 11 ls st x) := by
  have h1 : qx_act L xs (qx_rt 124) (16, .invokevirtual 272, 19, 11, 2, 1061) ls (.int z0 :: .ref t :: st) M = if 2 ≤ (.int z0 :: .ref t :: st).length ∧ st.length ≤ 4 then some (.inr (.inr (.inr (11, [.ref t, .int z0], st)))) else none := rfl
  rw [if_pos ⟨by simp [List.length_cons]; try omega, hs⟩] at h1
  have h2 := qx_kd_obj (k := 0) (by decide) hk
  exact Rs_call c124_16 h1 (by rw [show qx_args 11 [.ref t, .int z0] = decide (qx_sh t = some (.inl 0)) from rfl]; exact decide_eq_true h2)
theorem c124_19 : qx_code 124 19 = some (19, .invokestatic 130, 22, 334, 1, 772) := by decide +kernel
theorem s124_19 {L : Nat} {xs : Nat → Int32} {d x : Nat} {M : qxM} {st : List Value} {ls : qxL} {z0 : Int32} (hs : st.length ≤ 4) : Rs L xs (d + 1) 124 19 ls (.int z0 :: st) M x = (Rs L xs d 334 0 [some (.int z0)] [] M 0).bind (qx_kn L xs (d + 1) 124 19 22 334 ls st x) := by
  have h1 : qx_act L xs (qx_rt 124) (19, .invokestatic 130, 22, 334, 1, 772) ls (.int z0 :: st) M = if 1 ≤ (.int z0 :: st).length ∧ st.length ≤ 4 then some (.inr (.inr (.inr (334, [.int z0], st)))) else none := rfl
  rw [if_pos ⟨by simp [List.length_cons]; try omega, hs⟩] at h1
  exact Rs_call c124_19 h1 rfl
theorem c124_22 : qx_code 124 22 = some (22, .istore_n 3, 23, 0, 0, 0) := by decide +kernel
theorem s124_22i {L : Nat} {xs : Nat → Int32} {d x : Nat} {M : qxM} {st : List Value} {a0 a1 a3 : Option Value} {z : Int32} {y : Int32} : Rs L xs (d) 124 22 [a0, a1, some (.int y), a3] (.int z :: st) M x = Rs L xs (d) 124 23 [a0, a1, some (.int y), some (.int z)] st M x := Rs_next c124_22 rfl
theorem s124_22r {L : Nat} {xs : Nat → Int32} {d x : Nat} {M : qxM} {st : List Value} {a0 a1 a3 : Option Value} {z : Int32} {y : Nat} : Rs L xs (d) 124 22 [a0, a1, some (.ref y), a3] (.int z :: st) M x = Rs L xs (d) 124 23 [a0, a1, some (.ref y), some (.int z)] st M x := Rs_next c124_22 rfl
theorem s124_22n {L : Nat} {xs : Nat → Int32} {d x : Nat} {M : qxM} {st : List Value} {a0 a1 a3 : Option Value} {z : Int32} : Rs L xs (d) 124 22 [a0, a1, none, a3] (.int z :: st) M x = Rs L xs (d) 124 23 [a0, a1, none, some (.int z)] st M x := Rs_next c124_22 rfl
theorem c124_23 : qx_code 124 23 = some (23, .aload_n 0, 24, 0, 0, 0) := by decide +kernel
theorem s124_23 {L : Nat} {xs : Nat → Int32} {d x : Nat} {M : qxM} {st : List Value} {a1 a2 a3 : Option Value} {z : Nat} : Rs L xs (d) 124 23 [some (.ref z), a1, a2, a3] st M x = Rs L xs (d) 124 24 [some (.ref z), a1, a2, a3] (.ref z :: st) M x := Rs_next c124_23 rfl
theorem c124_24 : qx_code 124 24 = some (24, .getfield 33, 27, 7, 3, 384) := by decide +kernel
theorem s124_24 {L : Nat} {xs : Nat → Int32} {d x : Nat} {M : qxM} {st : List Value} {ls : qxL} {t : Nat} (hk : qx_kd t = 17) : Rs L xs (d) 124 24 ls (.ref t :: st) M x = Rs L xs (d) 124 27 ls (.ref (t + 90) :: st) M x := Rs_when (qx_kd_obj (k := 7) (by decide) hk) c124_24 rfl
theorem c124_27 : qx_code 124 27 = some (27, .getfield 93, 30, 4, 0, 356) := by decide +kernel
theorem s124_27 {L : Nat} {xs : Nat → Int32} {d x : Nat} {M : qxM} {st : List Value} {ls : qxL} {t : Nat} (hk : qx_kd t = 14) : Rs L xs (d) 124 27 ls (.ref t :: st) M x = Rs L xs (d) 124 30 ls (.ref (t + 1) :: st) M x := Rs_when (qx_kd_obj (k := 4) (by decide) hk) c124_27 rfl
theorem c124_30 : qx_code 124 30 = some (30, .getfield 96, 33, 2, 0, 166) := by decide +kernel
theorem s124_30 {L : Nat} {xs : Nat → Int32} {d x : Nat} {M : qxM} {st : List Value} {ls : qxL} {t : Nat} (hk : qx_kd t = 12) : Rs L xs (d) 124 30 ls (.ref t :: st) M x = Rs L xs (d) 124 33 ls (.int (M.1 t 0) :: st) M x := Rs_when (qx_kd_obj (k := 2) (by decide) hk) c124_30 rfl
theorem c124_33 : qx_code 124 33 = some (33, .iload_n 3, 34, 0, 0, 0) := by decide +kernel
theorem s124_33 {L : Nat} {xs : Nat → Int32} {d x : Nat} {M : qxM} {st : List Value} {a0 a1 a2 : Option Value} {z : Int32} : Rs L xs (d) 124 33 [a0, a1, a2, some (.int z)] st M x = Rs L xs (d) 124 34 [a0, a1, a2, some (.int z)] (.int z :: st) M x := Rs_next c124_33 rfl
theorem c124_34 : qx_code 124 34 = some (34, .iadd, 35, 0, 0, 0) := by decide +kernel
theorem s124_34 {L : Nat} {xs : Nat → Int32} {d x : Nat} {M : qxM} {st : List Value} {ls : qxL} {z y : Int32} : Rs L xs (d) 124 34 ls (.int y :: .int z :: st) M x = Rs L xs (d) 124 35 ls (.int (z + y) :: st) M x := Rs_next c124_34 rfl
theorem c124_35 : qx_code 124 35 = some (35, .aload_n 1, 36, 0, 0, 0) := by decide +kernel
theorem s124_35 {L : Nat} {xs : Nat → Int32} {d x : Nat} {M : qxM} {st : List Value} {a0 a2 a3 : Option Value} {z : Nat} : Rs L xs (d) 124 35 [a0, some (.ref z), a2, a3] st M x = Rs L xs (d) 124 36 [a0, some (.ref z), a2, a3] (.ref z :: st) M x := Rs_next c124_35 rfl
theorem c124_36 : qx_code 124 36 = some (36, .iload_n 2, 37, 0, 0, 0) := by decide +kernel
theorem s124_36 {L : Nat} {xs : Nat → Int32} {d x : Nat} {M : qxM} {st : List Value} {a0 a1 a3 : Option Value} {z : Int32} : Rs L xs (d) 124 36 [a0, a1, some (.int z), a3] st M x = Rs L xs (d) 124 37 [a0, a1, some (.int z), a3] (.int z :: st) M x := Rs_next c124_36 rfl
theorem c124_37 : qx_code 124 37 = some (37, .iconst 0, 38, 0, 0, 0) := by decide +kernel
theorem s124_37 {L : Nat} {xs : Nat → Int32} {d x : Nat} {M : qxM} {st : List Value} {ls : qxL} : Rs L xs (d) 124 37 ls st M x = Rs L xs (d) 124 38 ls (.int (nI 0) :: st) M x := Rs_next c124_37 rfl
theorem c124_38 : qx_code 124 38 = some (38, .invokevirtual 278, 41, 17, 3, 1080) := by decide +kernel
theorem s124_38 {L : Nat} {xs : Nat → Int32} {d x : Nat} {M : qxM} {st : List Value} {ls : qxL} {t : Nat} {z0 : Int32} {z1 : Int32} (hk : qx_kd t = 10) (hs : st.length ≤ 4) : Rs L xs (d + 1) 124 38 ls (.int z1 :: .int z0 :: .ref t :: st) M x = (Rs L xs d 17 0 [some (.ref t), some (.int z0), some (.int z1), none, none, none, none] [] M 0).bind (qx_kn L xs (d + 1) 124 38 41 17 ls st x) := by
  have h1 : qx_act L xs (qx_rt 124) (38, .invokevirtual 278, 41, 17, 3, 1080) ls (.int z1 :: .int z0 :: .ref t :: st) M = if 3 ≤ (.int z1 :: .int z0 :: .ref t :: st).length ∧ st.length ≤ 4 then some (.inr (.inr (.inr (17, [.ref t, .int z0, .int z1], st)))) else none := rfl
  rw [if_pos ⟨by simp [List.length_cons]; try omega, hs⟩] at h1
  have h2 := qx_kd_obj (k := 0) (by decide) hk
  exact Rs_call c124_38 h1 (by rw [show qx_args 17 [.ref t, .int z0, .int z1] = decide (qx_sh t = some (.inl 0)) from rfl]; exact decide_eq_true h2)
theorem c124_41 : qx_code 124 41 = some (41, .isub, 42, 0, 0, 0) := by decide +kernel
theorem s124_41 {L : Nat} {xs : Nat → Int32} {d x : Nat} {M : qxM} {st : List Value} {ls : qxL} {z y : Int32} : Rs L xs (d) 124 41 ls (.int y :: .int z :: st) M x = Rs L xs (d) 124 42 ls (.int (z - y) :: st) M x := Rs_next c124_41 rfl
theorem c124_42 : qx_code 124 42 = some (42, .iconst 2, 43, 0, 0, 0) := by decide +kernel
theorem s124_42 {L : Nat} {xs : Nat → Int32} {d x : Nat} {M : qxM} {st : List Value} {ls : qxL} : Rs L xs (d) 124 42 ls st M x = Rs L xs (d) 124 43 ls (.int (nI 2) :: st) M x := Rs_next c124_42 rfl
theorem c124_43 : qx_code 124 43 = some (43, .idiv, 44, 0, 0, 0) := by decide +kernel
theorem s124_43 {L : Nat} {xs : Nat → Int32} {d x : Nat} {M : qxM} {st : List Value} {ls : qxL} {z y : Int32} (h : ¬ y = 0) : Rs L xs (d) 124 43 ls (.int y :: .int z :: st) M x = Rs L xs (d) 124 44 ls (.int (z / y) :: st) M x := Rs_unless h c124_43 rfl
theorem c124_44 : qx_code 124 44 = some (44, .ireturn, 45, 0, 0, 0) := by decide +kernel
theorem s124_44 {L : Nat} {xs : Nat → Int32} {d x : Nat} {M : qxM} {ls : qxL} {z : Int32} : Rs L xs (d) 124 44 ls [.int z] M x = some (.inl (some (.int z)), M, x) := Rs_ret c124_44 rfl
theorem c125_0 : qx_code 125 0 = some (0, .aload_n 0, 1, 0, 0, 0) := by decide +kernel
theorem s125_0 {L : Nat} {xs : Nat → Int32} {d x : Nat} {M : qxM} {st : List Value} {a1 : Option Value} {z : Nat} : Rs L xs (d) 125 0 [some (.ref z), a1] st M x = Rs L xs (d) 125 1 [some (.ref z), a1] (.ref z :: st) M x := Rs_next c125_0 rfl
theorem c125_1 : qx_code 125 1 = some (1, .invokevirtual 107, 4, 159, 1, 728) := by decide +kernel
theorem s125_1 {L : Nat} {xs : Nat → Int32} {d x : Nat} {M : qxM} {st : List Value} {ls : qxL} {t : Nat} (hk : qx_kd t = 17) (hs : st.length ≤ 4) : Rs L xs (d + 1) 125 1 ls (.ref t :: st) M x = (Rs L xs d 159 0 [some (.ref t)] [] M 0).bind (qx_kn L xs (d + 1) 125 1 4 159 ls st x) := by
  have h1 : qx_act L xs (qx_rt 125) (1, .invokevirtual 107, 4, 159, 1, 728) ls (.ref t :: st) M = if 1 ≤ (.ref t :: st).length ∧ st.length ≤ 4 then some (.inr (.inr (.inr (159, [.ref t], st)))) else none := rfl
  rw [if_pos ⟨by simp [List.length_cons]; try omega, hs⟩] at h1
  have h2 := qx_kd_obj (k := 7) (by decide) hk
  exact Rs_call c125_1 h1 (by rw [show qx_args 159 [.ref t] = decide (qx_sh t = some (.inl 7)) from rfl]; exact decide_eq_true h2)
theorem c125_4 : qx_code 125 4 = some (4, .aload_n 0, 5, 0, 0, 0) := by decide +kernel
theorem s125_4 {L : Nat} {xs : Nat → Int32} {d x : Nat} {M : qxM} {st : List Value} {a1 : Option Value} {z : Nat} : Rs L xs (d) 125 4 [some (.ref z), a1] st M x = Rs L xs (d) 125 5 [some (.ref z), a1] (.ref z :: st) M x := Rs_next c125_4 rfl
theorem c125_5 : qx_code 125 5 = some (5, .iload_n 1, 6, 0, 0, 0) := by decide +kernel
theorem s125_5 {L : Nat} {xs : Nat → Int32} {d x : Nat} {M : qxM} {st : List Value} {a0 : Option Value} {z : Int32} : Rs L xs (d) 125 5 [a0, some (.int z)] st M x = Rs L xs (d) 125 6 [a0, some (.int z)] (.int z :: st) M x := Rs_next c125_5 rfl
theorem c125_6 : qx_code 125 6 = some (6, .invokevirtual 285, 9, 163, 2, 1110) := by decide +kernel
theorem s125_6 {L : Nat} {xs : Nat → Int32} {d x : Nat} {M : qxM} {st : List Value} {ls : qxL} {t : Nat} {z0 : Int32} (hk : qx_kd t = 17) (hs : st.length ≤ 4) : Rs L xs (d + 1) 125 6 ls (.int z0 :: .ref t :: st) M x = (Rs L xs d 163 0 [some (.ref t), some (.int z0)] [] M 0).bind (qx_kn L xs (d + 1) 125 6 9 163 ls st x) := by
  have h1 : qx_act L xs (qx_rt 125) (6, .invokevirtual 285, 9, 163, 2, 1110) ls (.int z0 :: .ref t :: st) M = if 2 ≤ (.int z0 :: .ref t :: st).length ∧ st.length ≤ 4 then some (.inr (.inr (.inr (163, [.ref t, .int z0], st)))) else none := rfl
  rw [if_pos ⟨by simp [List.length_cons]; try omega, hs⟩] at h1
  have h2 := qx_kd_obj (k := 7) (by decide) hk
  exact Rs_call c125_6 h1 (by rw [show qx_args 163 [.ref t, .int z0] = decide (qx_sh t = some (.inl 7)) from rfl]; exact decide_eq_true h2)
theorem c125_9 : qx_code 125 9 = some (9, .aload_n 0, 10, 0, 0, 0) := by decide +kernel
theorem s125_9 {L : Nat} {xs : Nat → Int32} {d x : Nat} {M : qxM} {st : List Value} {a1 : Option Value} {z : Nat} : Rs L xs (d) 125 9 [some (.ref z), a1] st M x = Rs L xs (d) 125 10 [some (.ref z), a1] (.ref z :: st) M x := Rs_next c125_9 rfl
theorem c125_10 : qx_code 125 10 = some (10, .invokevirtual 259, 13, 168, 1, 976) := by decide +kernel
theorem s125_10 {L : Nat} {xs : Nat → Int32} {d x : Nat} {M : qxM} {st : List Value} {ls : qxL} {t : Nat} (hk : qx_kd t = 17) (hs : st.length ≤ 4) : Rs L xs (d + 1) 125 10 ls (.ref t :: st) M x = (Rs L xs d 168 0 [some (.ref t)] [] M 0).bind (qx_kn L xs (d + 1) 125 10 13 168 ls st x) := by
  have h1 : qx_act L xs (qx_rt 125) (10, .invokevirtual 259, 13, 168, 1, 976) ls (.ref t :: st) M = if 1 ≤ (.ref t :: st).length ∧ st.length ≤ 4 then some (.inr (.inr (.inr (168, [.ref t], st)))) else none := rfl
  rw [if_pos ⟨by simp [List.length_cons]; try omega, hs⟩] at h1
  have h2 := qx_kd_obj (k := 7) (by decide) hk
  exact Rs_call c125_10 h1 (by rw [show qx_args 168 [.ref t] = decide (qx_sh t = some (.inl 7)) from rfl]; exact decide_eq_true h2)
theorem c125_13 : qx_code 125 13 = some (13, .iload_n 1, 14, 0, 0, 0) := by decide +kernel
theorem s125_13 {L : Nat} {xs : Nat → Int32} {d x : Nat} {M : qxM} {st : List Value} {a0 : Option Value} {z : Int32} : Rs L xs (d) 125 13 [a0, some (.int z)] st M x = Rs L xs (d) 125 14 [a0, some (.int z)] (.int z :: st) M x := Rs_next c125_13 rfl
theorem c125_14 : qx_code 125 14 = some (14, .invokevirtual 288, 17, 14, 2, 1115) := by decide +kernel
theorem s125_14 {L : Nat} {xs : Nat → Int32} {d x : Nat} {M : qxM} {st : List Value} {ls : qxL} {t : Nat} {z0 : Int32} (hk : qx_kd t = 10) (hs : st.length ≤ 4) : Rs L xs (d + 1) 125 14 ls (.int z0 :: .ref t :: st) M x = (Rs L xs d 14 0 [some (.ref t), some (.int z0)] [] M 0).bind (qx_kn L xs (d + 1) 125 14 17 14 ls st x) := by
  have h1 : qx_act L xs (qx_rt 125) (14, .invokevirtual 288, 17, 14, 2, 1115) ls (.int z0 :: .ref t :: st) M = if 2 ≤ (.int z0 :: .ref t :: st).length ∧ st.length ≤ 4 then some (.inr (.inr (.inr (14, [.ref t, .int z0], st)))) else none := rfl
  rw [if_pos ⟨by simp [List.length_cons]; try omega, hs⟩] at h1
  have h2 := qx_kd_obj (k := 0) (by decide) hk
  exact Rs_call c125_14 h1 (by rw [show qx_args 14 [.ref t, .int z0] = decide (qx_sh t = some (.inl 0)) from rfl]; exact decide_eq_true h2)
theorem c125_17 : qx_code 125 17 = some (17, .ireturn, 18, 0, 0, 0) := by decide +kernel
theorem s125_17 {L : Nat} {xs : Nat → Int32} {d x : Nat} {M : qxM} {ls : qxL} {z : Int32} : Rs L xs (d) 125 17 ls [.int z] M x = some (.inl (some (.int z)), M, x) := Rs_ret c125_17 rfl
theorem c126_0 : qx_code 126 0 = some (0, .aload_n 0, 1, 0, 0, 0) := by decide +kernel
theorem s126_0 {L : Nat} {xs : Nat → Int32} {d x : Nat} {M : qxM} {st : List Value} {a1 a2 : Option Value} {z : Nat} : Rs L xs (d) 126 0 [some (.ref z), a1, a2] st M x = Rs L xs (d) 126 1 [some (.ref z), a1, a2] (.ref z :: st) M x := Rs_next c126_0 rfl
theorem c126_1 : qx_code 126 1 = some (1, .invokevirtual 107, 4, 159, 1, 728) := by decide +kernel
theorem s126_1 {L : Nat} {xs : Nat → Int32} {d x : Nat} {M : qxM} {st : List Value} {ls : qxL} {t : Nat} (hk : qx_kd t = 17) (hs : st.length ≤ 4) : Rs L xs (d + 1) 126 1 ls (.ref t :: st) M x = (Rs L xs d 159 0 [some (.ref t)] [] M 0).bind (qx_kn L xs (d + 1) 126 1 4 159 ls st x) := by
  have h1 : qx_act L xs (qx_rt 126) (1, .invokevirtual 107, 4, 159, 1, 728) ls (.ref t :: st) M = if 1 ≤ (.ref t :: st).length ∧ st.length ≤ 4 then some (.inr (.inr (.inr (159, [.ref t], st)))) else none := rfl
  rw [if_pos ⟨by simp [List.length_cons]; try omega, hs⟩] at h1
  have h2 := qx_kd_obj (k := 7) (by decide) hk
  exact Rs_call c126_1 h1 (by rw [show qx_args 159 [.ref t] = decide (qx_sh t = some (.inl 7)) from rfl]; exact decide_eq_true h2)
theorem c126_4 : qx_code 126 4 = some (4, .aload_n 0, 5, 0, 0, 0) := by decide +kernel
theorem s126_4 {L : Nat} {xs : Nat → Int32} {d x : Nat} {M : qxM} {st : List Value} {a1 a2 : Option Value} {z : Nat} : Rs L xs (d) 126 4 [some (.ref z), a1, a2] st M x = Rs L xs (d) 126 5 [some (.ref z), a1, a2] (.ref z :: st) M x := Rs_next c126_4 rfl
theorem c126_5 : qx_code 126 5 = some (5, .iload_n 1, 6, 0, 0, 0) := by decide +kernel
theorem s126_5 {L : Nat} {xs : Nat → Int32} {d x : Nat} {M : qxM} {st : List Value} {a0 a2 : Option Value} {z : Int32} : Rs L xs (d) 126 5 [a0, some (.int z), a2] st M x = Rs L xs (d) 126 6 [a0, some (.int z), a2] (.int z :: st) M x := Rs_next c126_5 rfl
theorem c126_6 : qx_code 126 6 = some (6, .invokevirtual 285, 9, 163, 2, 1110) := by decide +kernel
theorem s126_6 {L : Nat} {xs : Nat → Int32} {d x : Nat} {M : qxM} {st : List Value} {ls : qxL} {t : Nat} {z0 : Int32} (hk : qx_kd t = 17) (hs : st.length ≤ 4) : Rs L xs (d + 1) 126 6 ls (.int z0 :: .ref t :: st) M x = (Rs L xs d 163 0 [some (.ref t), some (.int z0)] [] M 0).bind (qx_kn L xs (d + 1) 126 6 9 163 ls st x) := by
  have h1 : qx_act L xs (qx_rt 126) (6, .invokevirtual 285, 9, 163, 2, 1110) ls (.int z0 :: .ref t :: st) M = if 2 ≤ (.int z0 :: .ref t :: st).length ∧ st.length ≤ 4 then some (.inr (.inr (.inr (163, [.ref t, .int z0], st)))) else none := rfl
  rw [if_pos ⟨by simp [List.length_cons]; try omega, hs⟩] at h1
  have h2 := qx_kd_obj (k := 7) (by decide) hk
  exact Rs_call c126_6 h1 (by rw [show qx_args 163 [.ref t, .int z0] = decide (qx_sh t = some (.inl 7)) from rfl]; exact decide_eq_true h2)
theorem c126_9 : qx_code 126 9 = some (9, .aload_n 0, 10, 0, 0, 0) := by decide +kernel
theorem s126_9 {L : Nat} {xs : Nat → Int32} {d x : Nat} {M : qxM} {st : List Value} {a1 a2 : Option Value} {z : Nat} : Rs L xs (d) 126 9 [some (.ref z), a1, a2] st M x = Rs L xs (d) 126 10 [some (.ref z), a1, a2] (.ref z :: st) M x := Rs_next c126_9 rfl
theorem c126_10 : qx_code 126 10 = some (10, .invokevirtual 259, 13, 168, 1, 976) := by decide +kernel
theorem s126_10 {L : Nat} {xs : Nat → Int32} {d x : Nat} {M : qxM} {st : List Value} {ls : qxL} {t : Nat} (hk : qx_kd t = 17) (hs : st.length ≤ 4) : Rs L xs (d + 1) 126 10 ls (.ref t :: st) M x = (Rs L xs d 168 0 [some (.ref t)] [] M 0).bind (qx_kn L xs (d + 1) 126 10 13 168 ls st x) := by
  have h1 : qx_act L xs (qx_rt 126) (10, .invokevirtual 259, 13, 168, 1, 976) ls (.ref t :: st) M = if 1 ≤ (.ref t :: st).length ∧ st.length ≤ 4 then some (.inr (.inr (.inr (168, [.ref t], st)))) else none := rfl
  rw [if_pos ⟨by simp [List.length_cons]; try omega, hs⟩] at h1
  have h2 := qx_kd_obj (k := 7) (by decide) hk
  exact Rs_call c126_10 h1 (by rw [show qx_args 168 [.ref t] = decide (qx_sh t = some (.inl 7)) from rfl]; exact decide_eq_true h2)
theorem c126_13 : qx_code 126 13 = some (13, .astore_n 2, 14, 0, 0, 0) := by decide +kernel
theorem s126_13i {L : Nat} {xs : Nat → Int32} {d x : Nat} {M : qxM} {st : List Value} {a0 a2 : Option Value} {z : Nat} {y : Int32} : Rs L xs (d) 126 13 [a0, some (.int y), a2] (.ref z :: st) M x = Rs L xs (d) 126 14 [a0, some (.int y), some (.ref z)] st M x := Rs_next c126_13 rfl
theorem s126_13r {L : Nat} {xs : Nat → Int32} {d x : Nat} {M : qxM} {st : List Value} {a0 a2 : Option Value} {z : Nat} {y : Nat} : Rs L xs (d) 126 13 [a0, some (.ref y), a2] (.ref z :: st) M x = Rs L xs (d) 126 14 [a0, some (.ref y), some (.ref z)] st M x := Rs_next c126_13 rfl
theorem s126_13n {L : Nat} {xs : Nat → Int32} {d x : Nat} {M : qxM} {st : List Value} {a0 a2 : Option Value} {z : Nat} : Rs L xs (d) 126 13 [a0, none, a2] (.ref z :: st) M x = Rs L xs (d) 126 14 [a0, none, some (.ref z)] st M x := Rs_next c126_13 rfl
theorem c126_14 : qx_code 126 14 = some (14, .aload_n 2, 15, 0, 0, 0) := by decide +kernel
theorem s126_14 {L : Nat} {xs : Nat → Int32} {d x : Nat} {M : qxM} {st : List Value} {a0 a1 : Option Value} {z : Nat} : Rs L xs (d) 126 14 [a0, a1, some (.ref z)] st M x = Rs L xs (d) 126 15 [a0, a1, some (.ref z)] (.ref z :: st) M x := Rs_next c126_14 rfl
theorem c126_15 : qx_code 126 15 = some (15, .iload_n 1, 16, 0, 0, 0) := by decide +kernel
theorem s126_15 {L : Nat} {xs : Nat → Int32} {d x : Nat} {M : qxM} {st : List Value} {a0 a2 : Option Value} {z : Int32} : Rs L xs (d) 126 15 [a0, some (.int z), a2] st M x = Rs L xs (d) 126 16 [a0, some (.int z), a2] (.int z :: st) M x := Rs_next c126_15 rfl
theorem c126_16 : qx_code 126 16 = some (16, .aload_n 2, 17, 0, 0, 0) := by decide +kernel
theorem s126_16 {L : Nat} {xs : Nat → Int32} {d x : Nat} {M : qxM} {st : List Value} {a0 a1 : Option Value} {z : Nat} : Rs L xs (d) 126 16 [a0, a1, some (.ref z)] st M x = Rs L xs (d) 126 17 [a0, a1, some (.ref z)] (.ref z :: st) M x := Rs_next c126_16 rfl
theorem c126_17 : qx_code 126 17 = some (17, .invokevirtual 266, 20, 2, 1, 1029) := by decide +kernel
theorem s126_17 {L : Nat} {xs : Nat → Int32} {d x : Nat} {M : qxM} {st : List Value} {ls : qxL} {t : Nat} (hk : qx_kd t = 10) (hs : st.length ≤ 4) : Rs L xs (d + 1) 126 17 ls (.ref t :: st) M x = (Rs L xs d 2 0 [some (.ref t)] [] M 0).bind (qx_kn L xs (d + 1) 126 17 20 2 ls st x) := by
  have h1 : qx_act L xs (qx_rt 126) (17, .invokevirtual 266, 20, 2, 1, 1029) ls (.ref t :: st) M = if 1 ≤ (.ref t :: st).length ∧ st.length ≤ 4 then some (.inr (.inr (.inr (2, [.ref t], st)))) else none := rfl
  rw [if_pos ⟨by simp [List.length_cons]; try omega, hs⟩] at h1
  have h2 := qx_kd_obj (k := 0) (by decide) hk
  exact Rs_call c126_17 h1 (by rw [show qx_args 2 [.ref t] = decide (qx_sh t = some (.inl 0)) from rfl]; exact decide_eq_true h2)
theorem c126_20 : qx_code 126 20 = some (20, .invokevirtual 291, 23, 15, 3, 1127) := by decide +kernel
theorem s126_20 {L : Nat} {xs : Nat → Int32} {d x : Nat} {M : qxM} {st : List Value} {ls : qxL} {t : Nat} {z0 : Int32} {z1 : Int32} (hk : qx_kd t = 10) (hs : st.length ≤ 4) : Rs L xs (d + 1) 126 20 ls (.int z1 :: .int z0 :: .ref t :: st) M x = (Rs L xs d 15 0 [some (.ref t), some (.int z0), some (.int z1)] [] M 0).bind (qx_kn L xs (d + 1) 126 20 23 15 ls st x) := by
  have h1 : qx_act L xs (qx_rt 126) (20, .invokevirtual 291, 23, 15, 3, 1127) ls (.int z1 :: .int z0 :: .ref t :: st) M = if 3 ≤ (.int z1 :: .int z0 :: .ref t :: st).length ∧ st.length ≤ 4 then some (.inr (.inr (.inr (15, [.ref t, .int z0, .int z1], st)))) else none := rfl
  rw [if_pos ⟨by simp [List.length_cons]; try omega, hs⟩] at h1
  have h2 := qx_kd_obj (k := 0) (by decide) hk
  exact Rs_call c126_20 h1 (by rw [show qx_args 15 [.ref t, .int z0, .int z1] = decide (qx_sh t = some (.inl 0)) from rfl]; exact decide_eq_true h2)
theorem c126_23 : qx_code 126 23 = some (23, .ireturn, 24, 0, 0, 0) := by decide +kernel
theorem s126_23 {L : Nat} {xs : Nat → Int32} {d x : Nat} {M : qxM} {ls : qxL} {z : Int32} (h01 : z = 0 ∨ z = 1) : Rs L xs (d) 126 23 ls [.int z] M x = some (.inl (some (.int z)), M, x) := Rs_retw h01 c126_23 rfl
theorem c127_0 : qx_code 127 0 = some (0, .aload_n 0, 1, 0, 0, 0) := by decide +kernel
theorem s127_0 {L : Nat} {xs : Nat → Int32} {d x : Nat} {M : qxM} {st : List Value} {a1 a2 a3 a4 a5 a6 a7 : Option Value} {z : Nat} : Rs L xs (d) 127 0 [some (.ref z), a1, a2, a3, a4, a5, a6, a7] st M x = Rs L xs (d) 127 1 [some (.ref z), a1, a2, a3, a4, a5, a6, a7] (.ref z :: st) M x := Rs_next c127_0 rfl
theorem c127_1 : qx_code 127 1 = some (1, .invokevirtual 107, 4, 159, 1, 728) := by decide +kernel
theorem s127_1 {L : Nat} {xs : Nat → Int32} {d x : Nat} {M : qxM} {st : List Value} {ls : qxL} {t : Nat} (hk : qx_kd t = 17) (hs : st.length ≤ 4) : Rs L xs (d + 1) 127 1 ls (.ref t :: st) M x = (Rs L xs d 159 0 [some (.ref t)] [] M 0).bind (qx_kn L xs (d + 1) 127 1 4 159 ls st x) := by
  have h1 : qx_act L xs (qx_rt 127) (1, .invokevirtual 107, 4, 159, 1, 728) ls (.ref t :: st) M = if 1 ≤ (.ref t :: st).length ∧ st.length ≤ 4 then some (.inr (.inr (.inr (159, [.ref t], st)))) else none := rfl
  rw [if_pos ⟨by simp [List.length_cons]; try omega, hs⟩] at h1
  have h2 := qx_kd_obj (k := 7) (by decide) hk
  exact Rs_call c127_1 h1 (by rw [show qx_args 159 [.ref t] = decide (qx_sh t = some (.inl 7)) from rfl]; exact decide_eq_true h2)
theorem c127_4 : qx_code 127 4 = some (4, .aload_n 0, 5, 0, 0, 0) := by decide +kernel
theorem s127_4 {L : Nat} {xs : Nat → Int32} {d x : Nat} {M : qxM} {st : List Value} {a1 a2 a3 a4 a5 a6 a7 : Option Value} {z : Nat} : Rs L xs (d) 127 4 [some (.ref z), a1, a2, a3, a4, a5, a6, a7] st M x = Rs L xs (d) 127 5 [some (.ref z), a1, a2, a3, a4, a5, a6, a7] (.ref z :: st) M x := Rs_next c127_4 rfl
theorem c127_5 : qx_code 127 5 = some (5, .invokevirtual 259, 8, 168, 1, 976) := by decide +kernel
theorem s127_5 {L : Nat} {xs : Nat → Int32} {d x : Nat} {M : qxM} {st : List Value} {ls : qxL} {t : Nat} (hk : qx_kd t = 17) (hs : st.length ≤ 4) : Rs L xs (d + 1) 127 5 ls (.ref t :: st) M x = (Rs L xs d 168 0 [some (.ref t)] [] M 0).bind (qx_kn L xs (d + 1) 127 5 8 168 ls st x) := by
  have h1 : qx_act L xs (qx_rt 127) (5, .invokevirtual 259, 8, 168, 1, 976) ls (.ref t :: st) M = if 1 ≤ (.ref t :: st).length ∧ st.length ≤ 4 then some (.inr (.inr (.inr (168, [.ref t], st)))) else none := rfl
  rw [if_pos ⟨by simp [List.length_cons]; try omega, hs⟩] at h1
  have h2 := qx_kd_obj (k := 7) (by decide) hk
  exact Rs_call c127_5 h1 (by rw [show qx_args 168 [.ref t] = decide (qx_sh t = some (.inl 7)) from rfl]; exact decide_eq_true h2)
theorem c127_8 : qx_code 127 8 = some (8, .astore_n 1, 9, 0, 0, 0) := by decide +kernel
theorem s127_8i {L : Nat} {xs : Nat → Int32} {d x : Nat} {M : qxM} {st : List Value} {a1 a2 a3 a4 a5 a6 a7 : Option Value} {z : Nat} {y : Int32} : Rs L xs (d) 127 8 [some (.int y), a1, a2, a3, a4, a5, a6, a7] (.ref z :: st) M x = Rs L xs (d) 127 9 [some (.int y), some (.ref z), a2, a3, a4, a5, a6, a7] st M x := Rs_next c127_8 rfl
theorem s127_8r {L : Nat} {xs : Nat → Int32} {d x : Nat} {M : qxM} {st : List Value} {a1 a2 a3 a4 a5 a6 a7 : Option Value} {z : Nat} {y : Nat} : Rs L xs (d) 127 8 [some (.ref y), a1, a2, a3, a4, a5, a6, a7] (.ref z :: st) M x = Rs L xs (d) 127 9 [some (.ref y), some (.ref z), a2, a3, a4, a5, a6, a7] st M x := Rs_next c127_8 rfl
theorem s127_8n {L : Nat} {xs : Nat → Int32} {d x : Nat} {M : qxM} {st : List Value} {a1 a2 a3 a4 a5 a6 a7 : Option Value} {z : Nat} : Rs L xs (d) 127 8 [none, a1, a2, a3, a4, a5, a6, a7] (.ref z :: st) M x = Rs L xs (d) 127 9 [none, some (.ref z), a2, a3, a4, a5, a6, a7] st M x := Rs_next c127_8 rfl
theorem c127_9 : qx_code 127 9 = some (9, .aload_n 0, 10, 0, 0, 0) := by decide +kernel
theorem s127_9 {L : Nat} {xs : Nat → Int32} {d x : Nat} {M : qxM} {st : List Value} {a1 a2 a3 a4 a5 a6 a7 : Option Value} {z : Nat} : Rs L xs (d) 127 9 [some (.ref z), a1, a2, a3, a4, a5, a6, a7] st M x = Rs L xs (d) 127 10 [some (.ref z), a1, a2, a3, a4, a5, a6, a7] (.ref z :: st) M x := Rs_next c127_9 rfl
theorem c127_10 : qx_code 127 10 = some (10, .getfield 33, 13, 7, 3, 384) := by decide +kernel
theorem s127_10 {L : Nat} {xs : Nat → Int32} {d x : Nat} {M : qxM} {st : List Value} {ls : qxL} {t : Nat} (hk : qx_kd t = 17) : Rs L xs (d) 127 10 ls (.ref t :: st) M x = Rs L xs (d) 127 13 ls (.ref (t + 90) :: st) M x := Rs_when (qx_kd_obj (k := 7) (by decide) hk) c127_10 rfl
theorem c127_13 : qx_code 127 13 = some (13, .getfield 93, 16, 4, 0, 356) := by decide +kernel
theorem s127_13 {L : Nat} {xs : Nat → Int32} {d x : Nat} {M : qxM} {st : List Value} {ls : qxL} {t : Nat} (hk : qx_kd t = 14) : Rs L xs (d) 127 13 ls (.ref t :: st) M x = Rs L xs (d) 127 16 ls (.ref (t + 1) :: st) M x := Rs_when (qx_kd_obj (k := 4) (by decide) hk) c127_13 rfl
theorem c127_16 : qx_code 127 16 = some (16, .invokevirtual 275, 19, 36, 1, 1072) := by decide +kernel
theorem s127_16 {L : Nat} {xs : Nat → Int32} {d x : Nat} {M : qxM} {st : List Value} {ls : qxL} {t : Nat} (hk : qx_kd t = 12) (hs : st.length ≤ 4) : Rs L xs (d + 1) 127 16 ls (.ref t :: st) M x = (Rs L xs d 36 0 [some (.ref t)] [] M 0).bind (qx_kn L xs (d + 1) 127 16 19 36 ls st x) := by
  have h1 : qx_act L xs (qx_rt 127) (16, .invokevirtual 275, 19, 36, 1, 1072) ls (.ref t :: st) M = if 1 ≤ (.ref t :: st).length ∧ st.length ≤ 4 then some (.inr (.inr (.inr (36, [.ref t], st)))) else none := rfl
  rw [if_pos ⟨by simp [List.length_cons]; try omega, hs⟩] at h1
  have h2 := qx_kd_obj (k := 2) (by decide) hk
  exact Rs_call c127_16 h1 (by rw [show qx_args 36 [.ref t] = decide (qx_sh t = some (.inl 2)) from rfl]; exact decide_eq_true h2)
theorem c127_19 : qx_code 127 19 = some (19, .aload_n 1, 20, 0, 0, 0) := by decide +kernel
theorem s127_19 {L : Nat} {xs : Nat → Int32} {d x : Nat} {M : qxM} {st : List Value} {a0 a2 a3 a4 a5 a6 a7 : Option Value} {z : Nat} : Rs L xs (d) 127 19 [a0, some (.ref z), a2, a3, a4, a5, a6, a7] st M x = Rs L xs (d) 127 20 [a0, some (.ref z), a2, a3, a4, a5, a6, a7] (.ref z :: st) M x := Rs_next c127_19 rfl
theorem c127_20 : qx_code 127 20 = some (20, .invokevirtual 269, 23, 10, 1, 1042) := by decide +kernel
theorem s127_20 {L : Nat} {xs : Nat → Int32} {d x : Nat} {M : qxM} {st : List Value} {ls : qxL} {t : Nat} (hk : qx_kd t = 10) (hs : st.length ≤ 4) : Rs L xs (d + 1) 127 20 ls (.ref t :: st) M x = (Rs L xs d 10 0 [some (.ref t), none, none, none] [] M 0).bind (qx_kn L xs (d + 1) 127 20 23 10 ls st x) := by
  have h1 : qx_act L xs (qx_rt 127) (20, .invokevirtual 269, 23, 10, 1, 1042) ls (.ref t :: st) M = if 1 ≤ (.ref t :: st).length ∧ st.length ≤ 4 then some (.inr (.inr (.inr (10, [.ref t], st)))) else none := rfl
  rw [if_pos ⟨by simp [List.length_cons]; try omega, hs⟩] at h1
  have h2 := qx_kd_obj (k := 0) (by decide) hk
  exact Rs_call c127_20 h1 (by rw [show qx_args 10 [.ref t] = decide (qx_sh t = some (.inl 0)) from rfl]; exact decide_eq_true h2)
theorem c127_23 : qx_code 127 23 = some (23, .iconst (-1), 24, 0, 0, 0) := by decide +kernel
theorem s127_23 {L : Nat} {xs : Nat → Int32} {d x : Nat} {M : qxM} {st : List Value} {ls : qxL} : Rs L xs (d) 127 23 ls st M x = Rs L xs (d) 127 24 ls (.int (-1) :: st) M x := Rs_next c127_23 rfl
theorem c127_24 : qx_code 127 24 = some (24, .ixor, 25, 0, 0, 0) := by decide +kernel
theorem s127_24 {L : Nat} {xs : Nat → Int32} {d x : Nat} {M : qxM} {st : List Value} {ls : qxL} {z y : Int32} : Rs L xs (d) 127 24 ls (.int y :: .int z :: st) M x = Rs L xs (d) 127 25 ls (.int (z ^^^ y) :: st) M x := Rs_next c127_24 rfl
theorem c127_25 : qx_code 127 25 = some (25, .iand, 26, 0, 0, 0) := by decide +kernel
theorem s127_25 {L : Nat} {xs : Nat → Int32} {d x : Nat} {M : qxM} {st : List Value} {ls : qxL} {z y : Int32} : Rs L xs (d) 127 25 ls (.int y :: .int z :: st) M x = Rs L xs (d) 127 26 ls (.int (z &&& y) :: st) M x := Rs_next c127_25 rfl
theorem c127_26 : qx_code 127 26 = some (26, .istore_n 2, 27, 0, 0, 0) := by decide +kernel
theorem s127_26i {L : Nat} {xs : Nat → Int32} {d x : Nat} {M : qxM} {st : List Value} {a0 a2 a3 a4 a5 a6 a7 : Option Value} {z : Int32} {y : Int32} : Rs L xs (d) 127 26 [a0, some (.int y), a2, a3, a4, a5, a6, a7] (.int z :: st) M x = Rs L xs (d) 127 27 [a0, some (.int y), some (.int z), a3, a4, a5, a6, a7] st M x := Rs_next c127_26 rfl
theorem s127_26r {L : Nat} {xs : Nat → Int32} {d x : Nat} {M : qxM} {st : List Value} {a0 a2 a3 a4 a5 a6 a7 : Option Value} {z : Int32} {y : Nat} : Rs L xs (d) 127 26 [a0, some (.ref y), a2, a3, a4, a5, a6, a7] (.int z :: st) M x = Rs L xs (d) 127 27 [a0, some (.ref y), some (.int z), a3, a4, a5, a6, a7] st M x := Rs_next c127_26 rfl
theorem s127_26n {L : Nat} {xs : Nat → Int32} {d x : Nat} {M : qxM} {st : List Value} {a0 a2 a3 a4 a5 a6 a7 : Option Value} {z : Int32} : Rs L xs (d) 127 26 [a0, none, a2, a3, a4, a5, a6, a7] (.int z :: st) M x = Rs L xs (d) 127 27 [a0, none, some (.int z), a3, a4, a5, a6, a7] st M x := Rs_next c127_26 rfl
theorem c127_27 : qx_code 127 27 = some (27, .aload_n 1, 28, 0, 0, 0) := by decide +kernel
theorem s127_27 {L : Nat} {xs : Nat → Int32} {d x : Nat} {M : qxM} {st : List Value} {a0 a2 a3 a4 a5 a6 a7 : Option Value} {z : Nat} : Rs L xs (d) 127 27 [a0, some (.ref z), a2, a3, a4, a5, a6, a7] st M x = Rs L xs (d) 127 28 [a0, some (.ref z), a2, a3, a4, a5, a6, a7] (.ref z :: st) M x := Rs_next c127_27 rfl
theorem c127_28 : qx_code 127 28 = some (28, .invokevirtual 266, 31, 2, 1, 1029) := by decide +kernel
theorem s127_28 {L : Nat} {xs : Nat → Int32} {d x : Nat} {M : qxM} {st : List Value} {ls : qxL} {t : Nat} (hk : qx_kd t = 10) (hs : st.length ≤ 4) : Rs L xs (d + 1) 127 28 ls (.ref t :: st) M x = (Rs L xs d 2 0 [some (.ref t)] [] M 0).bind (qx_kn L xs (d + 1) 127 28 31 2 ls st x) := by
  have h1 : qx_act L xs (qx_rt 127) (28, .invokevirtual 266, 31, 2, 1, 1029) ls (.ref t :: st) M = if 1 ≤ (.ref t :: st).length ∧ st.length ≤ 4 then some (.inr (.inr (.inr (2, [.ref t], st)))) else none := rfl
  rw [if_pos ⟨by simp [List.length_cons]; try omega, hs⟩] at h1
  have h2 := qx_kd_obj (k := 0) (by decide) hk
  exact Rs_call c127_28 h1 (by rw [show qx_args 2 [.ref t] = decide (qx_sh t = some (.inl 0)) from rfl]; exact decide_eq_true h2)
theorem c127_31 : qx_code 127 31 = some (31, .istore_n 3, 32, 0, 0, 0) := by decide +kernel
theorem s127_31i {L : Nat} {xs : Nat → Int32} {d x : Nat} {M : qxM} {st : List Value} {a0 a1 a3 a4 a5 a6 a7 : Option Value} {z : Int32} {y : Int32} : Rs L xs (d) 127 31 [a0, a1, some (.int y), a3, a4, a5, a6, a7] (.int z :: st) M x = Rs L xs (d) 127 32 [a0, a1, some (.int y), some (.int z), a4, a5, a6, a7] st M x := Rs_next c127_31 rfl
theorem s127_31r {L : Nat} {xs : Nat → Int32} {d x : Nat} {M : qxM} {st : List Value} {a0 a1 a3 a4 a5 a6 a7 : Option Value} {z : Int32} {y : Nat} : Rs L xs (d) 127 31 [a0, a1, some (.ref y), a3, a4, a5, a6, a7] (.int z :: st) M x = Rs L xs (d) 127 32 [a0, a1, some (.ref y), some (.int z), a4, a5, a6, a7] st M x := Rs_next c127_31 rfl
theorem s127_31n {L : Nat} {xs : Nat → Int32} {d x : Nat} {M : qxM} {st : List Value} {a0 a1 a3 a4 a5 a6 a7 : Option Value} {z : Int32} : Rs L xs (d) 127 31 [a0, a1, none, a3, a4, a5, a6, a7] (.int z :: st) M x = Rs L xs (d) 127 32 [a0, a1, none, some (.int z), a4, a5, a6, a7] st M x := Rs_next c127_31 rfl
theorem c127_32 : qx_code 127 32 = some (32, .iload_n 2, 33, 0, 0, 0) := by decide +kernel
theorem s127_32 {L : Nat} {xs : Nat → Int32} {d x : Nat} {M : qxM} {st : List Value} {a0 a1 a3 a4 a5 a6 a7 : Option Value} {z : Int32} : Rs L xs (d) 127 32 [a0, a1, some (.int z), a3, a4, a5, a6, a7] st M x = Rs L xs (d) 127 33 [a0, a1, some (.int z), a3, a4, a5, a6, a7] (.int z :: st) M x := Rs_next c127_32 rfl
theorem c127_33 : qx_code 127 33 = some (33, .istore 4, 35, 0, 0, 0) := by decide +kernel
theorem s127_33i {L : Nat} {xs : Nat → Int32} {d x : Nat} {M : qxM} {st : List Value} {a0 a1 a2 a4 a5 a6 a7 : Option Value} {z : Int32} {y : Int32} : Rs L xs (d) 127 33 [a0, a1, a2, some (.int y), a4, a5, a6, a7] (.int z :: st) M x = Rs L xs (d) 127 35 [a0, a1, a2, some (.int y), some (.int z), a5, a6, a7] st M x := Rs_next c127_33 rfl
theorem s127_33r {L : Nat} {xs : Nat → Int32} {d x : Nat} {M : qxM} {st : List Value} {a0 a1 a2 a4 a5 a6 a7 : Option Value} {z : Int32} {y : Nat} : Rs L xs (d) 127 33 [a0, a1, a2, some (.ref y), a4, a5, a6, a7] (.int z :: st) M x = Rs L xs (d) 127 35 [a0, a1, a2, some (.ref y), some (.int z), a5, a6, a7] st M x := Rs_next c127_33 rfl
theorem s127_33n {L : Nat} {xs : Nat → Int32} {d x : Nat} {M : qxM} {st : List Value} {a0 a1 a2 a4 a5 a6 a7 : Option Value} {z : Int32} : Rs L xs (d) 127 33 [a0, a1, a2, none, a4, a5, a6, a7] (.int z :: st) M x = Rs L xs (d) 127 35 [a0, a1, a2, none, some (.int z), a5, a6, a7] st M x := Rs_next c127_33 rfl
theorem c127_35 : qx_code 127 35 = some (35, .bipush 15, 37, 0, 0, 0) := by decide +kernel
theorem s127_35 {L : Nat} {xs : Nat → Int32} {d x : Nat} {M : qxM} {st : List Value} {ls : qxL} : Rs L xs (d) 127 35 ls st M x = Rs L xs (d) 127 37 ls (.int (nI 15) :: st) M x := Rs_next c127_35 rfl
theorem c127_37 : qx_code 127 37 = some (37, .istore 5, 39, 0, 0, 0) := by decide +kernel
theorem s127_37i {L : Nat} {xs : Nat → Int32} {d x : Nat} {M : qxM} {st : List Value} {a0 a1 a2 a3 a5 a6 a7 : Option Value} {z : Int32} {y : Int32} : Rs L xs (d) 127 37 [a0, a1, a2, a3, some (.int y), a5, a6, a7] (.int z :: st) M x = Rs L xs (d) 127 39 [a0, a1, a2, a3, some (.int y), some (.int z), a6, a7] st M x := Rs_next c127_37 rfl
theorem s127_37r {L : Nat} {xs : Nat → Int32} {d x : Nat} {M : qxM} {st : List Value} {a0 a1 a2 a3 a5 a6 a7 : Option Value} {z : Int32} {y : Nat} : Rs L xs (d) 127 37 [a0, a1, a2, a3, some (.ref y), a5, a6, a7] (.int z :: st) M x = Rs L xs (d) 127 39 [a0, a1, a2, a3, some (.ref y), some (.int z), a6, a7] st M x := Rs_next c127_37 rfl
theorem s127_37n {L : Nat} {xs : Nat → Int32} {d x : Nat} {M : qxM} {st : List Value} {a0 a1 a2 a3 a5 a6 a7 : Option Value} {z : Int32} : Rs L xs (d) 127 37 [a0, a1, a2, a3, none, a5, a6, a7] (.int z :: st) M x = Rs L xs (d) 127 39 [a0, a1, a2, a3, none, some (.int z), a6, a7] st M x := Rs_next c127_37 rfl
theorem c127_39 : qx_code 127 39 = some (39, .iconst 0, 40, 0, 0, 0) := by decide +kernel
theorem s127_39 {L : Nat} {xs : Nat → Int32} {d x : Nat} {M : qxM} {st : List Value} {ls : qxL} : Rs L xs (d) 127 39 ls st M x = Rs L xs (d) 127 40 ls (.int (nI 0) :: st) M x := Rs_next c127_39 rfl
theorem c127_40 : qx_code 127 40 = some (40, .istore 6, 42, 0, 0, 0) := by decide +kernel
theorem s127_40i {L : Nat} {xs : Nat → Int32} {d x : Nat} {M : qxM} {st : List Value} {a0 a1 a2 a3 a4 a6 a7 : Option Value} {z : Int32} {y : Int32} : Rs L xs (d) 127 40 [a0, a1, a2, a3, a4, some (.int y), a6, a7] (.int z :: st) M x = Rs L xs (d) 127 42 [a0, a1, a2, a3, a4, some (.int y), some (.int z), a7] st M x := Rs_next c127_40 rfl
theorem s127_40r {L : Nat} {xs : Nat → Int32} {d x : Nat} {M : qxM} {st : List Value} {a0 a1 a2 a3 a4 a6 a7 : Option Value} {z : Int32} {y : Nat} : Rs L xs (d) 127 40 [a0, a1, a2, a3, a4, some (.ref y), a6, a7] (.int z :: st) M x = Rs L xs (d) 127 42 [a0, a1, a2, a3, a4, some (.ref y), some (.int z), a7] st M x := Rs_next c127_40 rfl
theorem s127_40n {L : Nat} {xs : Nat → Int32} {d x : Nat} {M : qxM} {st : List Value} {a0 a1 a2 a3 a4 a6 a7 : Option Value} {z : Int32} : Rs L xs (d) 127 40 [a0, a1, a2, a3, a4, none, a6, a7] (.int z :: st) M x = Rs L xs (d) 127 42 [a0, a1, a2, a3, a4, none, some (.int z), a7] st M x := Rs_next c127_40 rfl
theorem c127_42 : qx_code 127 42 = some (42, .iconst 0, 43, 0, 0, 0) := by decide +kernel
theorem s127_42 {L : Nat} {xs : Nat → Int32} {d x : Nat} {M : qxM} {st : List Value} {ls : qxL} : Rs L xs (d) 127 42 ls st M x = Rs L xs (d) 127 43 ls (.int (nI 0) :: st) M x := Rs_next c127_42 rfl
theorem c127_43 : qx_code 127 43 = some (43, .istore 7, 45, 0, 0, 0) := by decide +kernel
theorem s127_43i {L : Nat} {xs : Nat → Int32} {d x : Nat} {M : qxM} {st : List Value} {a0 a1 a2 a3 a4 a5 a7 : Option Value} {z : Int32} {y : Int32} : Rs L xs (d) 127 43 [a0, a1, a2, a3, a4, a5, some (.int y), a7] (.int z :: st) M x = Rs L xs (d) 127 45 [a0, a1, a2, a3, a4, a5, some (.int y), some (.int z)] st M x := Rs_next c127_43 rfl
theorem s127_43r {L : Nat} {xs : Nat → Int32} {d x : Nat} {M : qxM} {st : List Value} {a0 a1 a2 a3 a4 a5 a7 : Option Value} {z : Int32} {y : Nat} : Rs L xs (d) 127 43 [a0, a1, a2, a3, a4, a5, some (.ref y), a7] (.int z :: st) M x = Rs L xs (d) 127 45 [a0, a1, a2, a3, a4, a5, some (.ref y), some (.int z)] st M x := Rs_next c127_43 rfl
theorem s127_43n {L : Nat} {xs : Nat → Int32} {d x : Nat} {M : qxM} {st : List Value} {a0 a1 a2 a3 a4 a5 a7 : Option Value} {z : Int32} : Rs L xs (d) 127 43 [a0, a1, a2, a3, a4, a5, none, a7] (.int z :: st) M x = Rs L xs (d) 127 45 [a0, a1, a2, a3, a4, a5, none, some (.int z)] st M x := Rs_next c127_43 rfl
theorem c127_45 : qx_code 127 45 = some (45, .iload 7, 47, 0, 0, 0) := by decide +kernel
theorem s127_45 {L : Nat} {xs : Nat → Int32} {d x : Nat} {M : qxM} {st : List Value} {a0 a1 a2 a3 a4 a5 a6 : Option Value} {z : Int32} : Rs L xs (d) 127 45 [a0, a1, a2, a3, a4, a5, a6, some (.int z)] st M x = Rs L xs (d) 127 47 [a0, a1, a2, a3, a4, a5, a6, some (.int z)] (.int z :: st) M x := Rs_next c127_45 rfl
theorem c127_47 : qx_code 127 47 = some (47, .sipush 16384, 50, 0, 0, 0) := by decide +kernel
theorem s127_47 {L : Nat} {xs : Nat → Int32} {d x : Nat} {M : qxM} {st : List Value} {ls : qxL} : Rs L xs (d) 127 47 ls st M x = Rs L xs (d) 127 50 ls (.int (nI 16384) :: st) M x := Rs_next c127_47 rfl
theorem c127_50 : qx_code 127 50 = some (50, .if_icmp .ge 61, 53, 111, 0, 0) := by decide +kernel
theorem s127_50 {L : Nat} {xs : Nat → Int32} {d x : Nat} {M : qxM} {st : List Value} {ls : qxL} {z y : Int32} : Rs L xs (d) 127 50 ls (.int y :: .int z :: st) M x = if y ≤ z then Rs L xs (d) 127 111 ls st M x else Rs L xs (d) 127 53 ls st M x := Rs_ite c127_50 rfl
theorem c127_53 : qx_code 127 53 = some (53, .iload 5, 55, 0, 0, 0) := by decide +kernel
theorem s127_53 {L : Nat} {xs : Nat → Int32} {d x : Nat} {M : qxM} {st : List Value} {a0 a1 a2 a3 a4 a6 a7 : Option Value} {z : Int32} : Rs L xs (d) 127 53 [a0, a1, a2, a3, a4, some (.int z), a6, a7] st M x = Rs L xs (d) 127 55 [a0, a1, a2, a3, a4, some (.int z), a6, a7] (.int z :: st) M x := Rs_next c127_53 rfl
theorem c127_55 : qx_code 127 55 = some (55, .ifCond .le 56, 58, 111, 0, 0) := by decide +kernel
theorem s127_55 {L : Nat} {xs : Nat → Int32} {d x : Nat} {M : qxM} {st : List Value} {ls : qxL} {z : Int32} : Rs L xs (d) 127 55 ls (.int z :: st) M x = if z ≤ 0 then Rs L xs (d) 127 111 ls st M x else Rs L xs (d) 127 58 ls st M x := Rs_ite c127_55 rfl
theorem c127_58 : qx_code 127 58 = some (58, .iload 6, 60, 0, 0, 0) := by decide +kernel
theorem s127_58 {L : Nat} {xs : Nat → Int32} {d x : Nat} {M : qxM} {st : List Value} {a0 a1 a2 a3 a4 a5 a7 : Option Value} {z : Int32} : Rs L xs (d) 127 58 [a0, a1, a2, a3, a4, a5, some (.int z), a7] st M x = Rs L xs (d) 127 60 [a0, a1, a2, a3, a4, a5, some (.int z), a7] (.int z :: st) M x := Rs_next c127_58 rfl
theorem c127_60 : qx_code 127 60 = some (60, .invokestatic 130, 63, 334, 1, 772) := by decide +kernel
theorem s127_60 {L : Nat} {xs : Nat → Int32} {d x : Nat} {M : qxM} {st : List Value} {ls : qxL} {z0 : Int32} (hs : st.length ≤ 4) : Rs L xs (d + 1) 127 60 ls (.int z0 :: st) M x = (Rs L xs d 334 0 [some (.int z0)] [] M 0).bind (qx_kn L xs (d + 1) 127 60 63 334 ls st x) := by
  have h1 : qx_act L xs (qx_rt 127) (60, .invokestatic 130, 63, 334, 1, 772) ls (.int z0 :: st) M = if 1 ≤ (.int z0 :: st).length ∧ st.length ≤ 4 then some (.inr (.inr (.inr (334, [.int z0], st)))) else none := rfl
  rw [if_pos ⟨by simp [List.length_cons]; try omega, hs⟩] at h1
  exact Rs_call c127_60 h1 rfl
theorem c127_63 : qx_code 127 63 = some (63, .iload 5, 65, 0, 0, 0) := by decide +kernel
theorem s127_63 {L : Nat} {xs : Nat → Int32} {d x : Nat} {M : qxM} {st : List Value} {a0 a1 a2 a3 a4 a6 a7 : Option Value} {z : Int32} : Rs L xs (d) 127 63 [a0, a1, a2, a3, a4, some (.int z), a6, a7] st M x = Rs L xs (d) 127 65 [a0, a1, a2, a3, a4, some (.int z), a6, a7] (.int z :: st) M x := Rs_next c127_63 rfl
theorem c127_65 : qx_code 127 65 = some (65, .if_icmp .ge 24, 68, 89, 0, 0) := by decide +kernel
theorem s127_65 {L : Nat} {xs : Nat → Int32} {d x : Nat} {M : qxM} {st : List Value} {ls : qxL} {z y : Int32} : Rs L xs (d) 127 65 ls (.int y :: .int z :: st) M x = if y ≤ z then Rs L xs (d) 127 89 ls st M x else Rs L xs (d) 127 68 ls st M x := Rs_ite c127_65 rfl
theorem c127_68 : qx_code 127 68 = some (68, .aload_n 1, 69, 0, 0, 0) := by decide +kernel
theorem s127_68 {L : Nat} {xs : Nat → Int32} {d x : Nat} {M : qxM} {st : List Value} {a0 a2 a3 a4 a5 a6 a7 : Option Value} {z : Nat} : Rs L xs (d) 127 68 [a0, some (.ref z), a2, a3, a4, a5, a6, a7] st M x = Rs L xs (d) 127 69 [a0, some (.ref z), a2, a3, a4, a5, a6, a7] (.ref z :: st) M x := Rs_next c127_68 rfl
theorem c127_69 : qx_code 127 69 = some (69, .iload 6, 71, 0, 0, 0) := by decide +kernel
theorem s127_69 {L : Nat} {xs : Nat → Int32} {d x : Nat} {M : qxM} {st : List Value} {a0 a1 a2 a3 a4 a5 a7 : Option Value} {z : Int32} : Rs L xs (d) 127 69 [a0, a1, a2, a3, a4, a5, some (.int z), a7] st M x = Rs L xs (d) 127 71 [a0, a1, a2, a3, a4, a5, some (.int z), a7] (.int z :: st) M x := Rs_next c127_69 rfl
theorem c127_71 : qx_code 127 71 = some (71, .iload_n 3, 72, 0, 0, 0) := by decide +kernel
theorem s127_71 {L : Nat} {xs : Nat → Int32} {d x : Nat} {M : qxM} {st : List Value} {a0 a1 a2 a4 a5 a6 a7 : Option Value} {z : Int32} : Rs L xs (d) 127 71 [a0, a1, a2, some (.int z), a4, a5, a6, a7] st M x = Rs L xs (d) 127 72 [a0, a1, a2, some (.int z), a4, a5, a6, a7] (.int z :: st) M x := Rs_next c127_71 rfl
theorem c127_72 : qx_code 127 72 = some (72, .invokevirtual 291, 75, 15, 3, 1127) := by decide +kernel
theorem s127_72 {L : Nat} {xs : Nat → Int32} {d x : Nat} {M : qxM} {st : List Value} {ls : qxL} {t : Nat} {z0 : Int32} {z1 : Int32} (hk : qx_kd t = 10) (hs : st.length ≤ 4) : Rs L xs (d + 1) 127 72 ls (.int z1 :: .int z0 :: .ref t :: st) M x = (Rs L xs d 15 0 [some (.ref t), some (.int z0), some (.int z1)] [] M 0).bind (qx_kn L xs (d + 1) 127 72 75 15 ls st x) := by
  have h1 : qx_act L xs (qx_rt 127) (72, .invokevirtual 291, 75, 15, 3, 1127) ls (.int z1 :: .int z0 :: .ref t :: st) M = if 3 ≤ (.int z1 :: .int z0 :: .ref t :: st).length ∧ st.length ≤ 4 then some (.inr (.inr (.inr (15, [.ref t, .int z0, .int z1], st)))) else none := rfl
  rw [if_pos ⟨by simp [List.length_cons]; try omega, hs⟩] at h1
  have h2 := qx_kd_obj (k := 0) (by decide) hk
  exact Rs_call c127_72 h1 (by rw [show qx_args 15 [.ref t, .int z0, .int z1] = decide (qx_sh t = some (.inl 0)) from rfl]; exact decide_eq_true h2)
theorem c127_75 : qx_code 127 75 = some (75, .ifCond .eq 14, 78, 89, 0, 0) := by decide +kernel
theorem s127_75 {L : Nat} {xs : Nat → Int32} {d x : Nat} {M : qxM} {st : List Value} {ls : qxL} {z : Int32} : Rs L xs (d) 127 75 ls (.int z :: st) M x = if z = 0 then Rs L xs (d) 127 89 ls st M x else Rs L xs (d) 127 78 ls st M x := Rs_ite c127_75 rfl
theorem c127_78 : qx_code 127 78 = some (78, .iload 6, 80, 0, 0, 0) := by decide +kernel
theorem s127_78 {L : Nat} {xs : Nat → Int32} {d x : Nat} {M : qxM} {st : List Value} {a0 a1 a2 a3 a4 a5 a7 : Option Value} {z : Int32} : Rs L xs (d) 127 78 [a0, a1, a2, a3, a4, a5, some (.int z), a7] st M x = Rs L xs (d) 127 80 [a0, a1, a2, a3, a4, a5, some (.int z), a7] (.int z :: st) M x := Rs_next c127_78 rfl
theorem c127_80 : qx_code 127 80 = some (80, .istore 4, 82, 0, 0, 0) := by decide +kernel
theorem s127_80i {L : Nat} {xs : Nat → Int32} {d x : Nat} {M : qxM} {st : List Value} {a0 a1 a2 a4 a5 a6 a7 : Option Value} {z : Int32} {y : Int32} : Rs L xs (d) 127 80 [a0, a1, a2, some (.int y), a4, a5, a6, a7] (.int z :: st) M x = Rs L xs (d) 127 82 [a0, a1, a2, some (.int y), some (.int z), a5, a6, a7] st M x := Rs_next c127_80 rfl
theorem s127_80r {L : Nat} {xs : Nat → Int32} {d x : Nat} {M : qxM} {st : List Value} {a0 a1 a2 a4 a5 a6 a7 : Option Value} {z : Int32} {y : Nat} : Rs L xs (d) 127 80 [a0, a1, a2, some (.ref y), a4, a5, a6, a7] (.int z :: st) M x = Rs L xs (d) 127 82 [a0, a1, a2, some (.ref y), some (.int z), a5, a6, a7] st M x := Rs_next c127_80 rfl
theorem s127_80n {L : Nat} {xs : Nat → Int32} {d x : Nat} {M : qxM} {st : List Value} {a0 a1 a2 a4 a5 a6 a7 : Option Value} {z : Int32} : Rs L xs (d) 127 80 [a0, a1, a2, none, a4, a5, a6, a7] (.int z :: st) M x = Rs L xs (d) 127 82 [a0, a1, a2, none, some (.int z), a5, a6, a7] st M x := Rs_next c127_80 rfl
theorem c127_82 : qx_code 127 82 = some (82, .iload 6, 84, 0, 0, 0) := by decide +kernel
theorem s127_82 {L : Nat} {xs : Nat → Int32} {d x : Nat} {M : qxM} {st : List Value} {a0 a1 a2 a3 a4 a5 a7 : Option Value} {z : Int32} : Rs L xs (d) 127 82 [a0, a1, a2, a3, a4, a5, some (.int z), a7] st M x = Rs L xs (d) 127 84 [a0, a1, a2, a3, a4, a5, some (.int z), a7] (.int z :: st) M x := Rs_next c127_82 rfl
theorem c127_84 : qx_code 127 84 = some (84, .invokestatic 130, 87, 334, 1, 772) := by decide +kernel
theorem s127_84 {L : Nat} {xs : Nat → Int32} {d x : Nat} {M : qxM} {st : List Value} {ls : qxL} {z0 : Int32} (hs : st.length ≤ 4) : Rs L xs (d + 1) 127 84 ls (.int z0 :: st) M x = (Rs L xs d 334 0 [some (.int z0)] [] M 0).bind (qx_kn L xs (d + 1) 127 84 87 334 ls st x) := by
  have h1 : qx_act L xs (qx_rt 127) (84, .invokestatic 130, 87, 334, 1, 772) ls (.int z0 :: st) M = if 1 ≤ (.int z0 :: st).length ∧ st.length ≤ 4 then some (.inr (.inr (.inr (334, [.int z0], st)))) else none := rfl
  rw [if_pos ⟨by simp [List.length_cons]; try omega, hs⟩] at h1
  exact Rs_call c127_84 h1 rfl
theorem c127_87 : qx_code 127 87 = some (87, .istore 5, 89, 0, 0, 0) := by decide +kernel
theorem s127_87i {L : Nat} {xs : Nat → Int32} {d x : Nat} {M : qxM} {st : List Value} {a0 a1 a2 a3 a5 a6 a7 : Option Value} {z : Int32} {y : Int32} : Rs L xs (d) 127 87 [a0, a1, a2, a3, some (.int y), a5, a6, a7] (.int z :: st) M x = Rs L xs (d) 127 89 [a0, a1, a2, a3, some (.int y), some (.int z), a6, a7] st M x := Rs_next c127_87 rfl
theorem s127_87r {L : Nat} {xs : Nat → Int32} {d x : Nat} {M : qxM} {st : List Value} {a0 a1 a2 a3 a5 a6 a7 : Option Value} {z : Int32} {y : Nat} : Rs L xs (d) 127 87 [a0, a1, a2, a3, some (.ref y), a5, a6, a7] (.int z :: st) M x = Rs L xs (d) 127 89 [a0, a1, a2, a3, some (.ref y), some (.int z), a6, a7] st M x := Rs_next c127_87 rfl
theorem s127_87n {L : Nat} {xs : Nat → Int32} {d x : Nat} {M : qxM} {st : List Value} {a0 a1 a2 a3 a5 a6 a7 : Option Value} {z : Int32} : Rs L xs (d) 127 87 [a0, a1, a2, a3, none, a5, a6, a7] (.int z :: st) M x = Rs L xs (d) 127 89 [a0, a1, a2, a3, none, some (.int z), a6, a7] st M x := Rs_next c127_87 rfl
theorem c127_89 : qx_code 127 89 = some (89, .iload 6, 91, 0, 0, 0) := by decide +kernel
theorem s127_89 {L : Nat} {xs : Nat → Int32} {d x : Nat} {M : qxM} {st : List Value} {a0 a1 a2 a3 a4 a5 a7 : Option Value} {z : Int32} : Rs L xs (d) 127 89 [a0, a1, a2, a3, a4, a5, some (.int z), a7] st M x = Rs L xs (d) 127 91 [a0, a1, a2, a3, a4, a5, some (.int z), a7] (.int z :: st) M x := Rs_next c127_89 rfl
theorem c127_91 : qx_code 127 91 = some (91, .iload_n 2, 92, 0, 0, 0) := by decide +kernel
theorem s127_91 {L : Nat} {xs : Nat → Int32} {d x : Nat} {M : qxM} {st : List Value} {a0 a1 a3 a4 a5 a6 a7 : Option Value} {z : Int32} : Rs L xs (d) 127 91 [a0, a1, some (.int z), a3, a4, a5, a6, a7] st M x = Rs L xs (d) 127 92 [a0, a1, some (.int z), a3, a4, a5, a6, a7] (.int z :: st) M x := Rs_next c127_91 rfl
theorem c127_92 : qx_code 127 92 = some (92, .isub, 93, 0, 0, 0) := by decide +kernel
theorem s127_92 {L : Nat} {xs : Nat → Int32} {d x : Nat} {M : qxM} {st : List Value} {ls : qxL} {z y : Int32} : Rs L xs (d) 127 92 ls (.int y :: .int z :: st) M x = Rs L xs (d) 127 93 ls (.int (z - y) :: st) M x := Rs_next c127_92 rfl
theorem c127_93 : qx_code 127 93 = some (93, .iload_n 2, 94, 0, 0, 0) := by decide +kernel
theorem s127_93 {L : Nat} {xs : Nat → Int32} {d x : Nat} {M : qxM} {st : List Value} {a0 a1 a3 a4 a5 a6 a7 : Option Value} {z : Int32} : Rs L xs (d) 127 93 [a0, a1, some (.int z), a3, a4, a5, a6, a7] st M x = Rs L xs (d) 127 94 [a0, a1, some (.int z), a3, a4, a5, a6, a7] (.int z :: st) M x := Rs_next c127_93 rfl
theorem c127_94 : qx_code 127 94 = some (94, .iand, 95, 0, 0, 0) := by decide +kernel
theorem s127_94 {L : Nat} {xs : Nat → Int32} {d x : Nat} {M : qxM} {st : List Value} {ls : qxL} {z y : Int32} : Rs L xs (d) 127 94 ls (.int y :: .int z :: st) M x = Rs L xs (d) 127 95 ls (.int (z &&& y) :: st) M x := Rs_next c127_94 rfl
theorem c127_95 : qx_code 127 95 = some (95, .istore 6, 97, 0, 0, 0) := by decide +kernel
theorem s127_95i {L : Nat} {xs : Nat → Int32} {d x : Nat} {M : qxM} {st : List Value} {a0 a1 a2 a3 a4 a6 a7 : Option Value} {z : Int32} {y : Int32} : Rs L xs (d) 127 95 [a0, a1, a2, a3, a4, some (.int y), a6, a7] (.int z :: st) M x = Rs L xs (d) 127 97 [a0, a1, a2, a3, a4, some (.int y), some (.int z), a7] st M x := Rs_next c127_95 rfl
theorem s127_95r {L : Nat} {xs : Nat → Int32} {d x : Nat} {M : qxM} {st : List Value} {a0 a1 a2 a3 a4 a6 a7 : Option Value} {z : Int32} {y : Nat} : Rs L xs (d) 127 95 [a0, a1, a2, a3, a4, some (.ref y), a6, a7] (.int z :: st) M x = Rs L xs (d) 127 97 [a0, a1, a2, a3, a4, some (.ref y), some (.int z), a7] st M x := Rs_next c127_95 rfl
theorem s127_95n {L : Nat} {xs : Nat → Int32} {d x : Nat} {M : qxM} {st : List Value} {a0 a1 a2 a3 a4 a6 a7 : Option Value} {z : Int32} : Rs L xs (d) 127 95 [a0, a1, a2, a3, a4, none, a6, a7] (.int z :: st) M x = Rs L xs (d) 127 97 [a0, a1, a2, a3, a4, none, some (.int z), a7] st M x := Rs_next c127_95 rfl
theorem c127_97 : qx_code 127 97 = some (97, .iload 6, 99, 0, 0, 0) := by decide +kernel
theorem s127_97 {L : Nat} {xs : Nat → Int32} {d x : Nat} {M : qxM} {st : List Value} {a0 a1 a2 a3 a4 a5 a7 : Option Value} {z : Int32} : Rs L xs (d) 127 97 [a0, a1, a2, a3, a4, a5, some (.int z), a7] st M x = Rs L xs (d) 127 99 [a0, a1, a2, a3, a4, a5, some (.int z), a7] (.int z :: st) M x := Rs_next c127_97 rfl
theorem c127_99 : qx_code 127 99 = some (99, .ifCond .ne 6, 102, 105, 0, 0) := by decide +kernel
theorem s127_99 {L : Nat} {xs : Nat → Int32} {d x : Nat} {M : qxM} {st : List Value} {ls : qxL} {z : Int32} : Rs L xs (d) 127 99 ls (.int z :: st) M x = if z = 0 then Rs L xs (d) 127 102 ls st M x else Rs L xs (d) 127 105 ls st M x := Rs_ite c127_99 rfl
theorem c127_102 : qx_code 127 102 = some (102, .goto 9, 105, 111, 0, 0) := by decide +kernel
theorem s127_102 {L : Nat} {xs : Nat → Int32} {d x : Nat} {M : qxM} {st : List Value} {ls : qxL} : Rs L xs (d) 127 102 ls st M x = Rs L xs (d) 127 111 ls st M x := Rs_next c127_102 rfl
theorem c127_105 : qx_code 127 105 = some (105, .iinc 7 1, 108, 0, 0, 0) := by decide +kernel
theorem s127_105i {L : Nat} {xs : Nat → Int32} {d x : Nat} {M : qxM} {st : List Value} {a0 a1 a2 a3 a4 a5 : Option Value} {z : Int32} {y : Int32} : Rs L xs (d) 127 105 [a0, a1, a2, a3, a4, a5, some (.int y), some (.int z)] st M x = Rs L xs (d) 127 108 [a0, a1, a2, a3, a4, a5, some (.int y), some (.int (z + (nI 1)))] st M x := Rs_next c127_105 rfl
theorem s127_105r {L : Nat} {xs : Nat → Int32} {d x : Nat} {M : qxM} {st : List Value} {a0 a1 a2 a3 a4 a5 : Option Value} {z : Int32} {y : Nat} : Rs L xs (d) 127 105 [a0, a1, a2, a3, a4, a5, some (.ref y), some (.int z)] st M x = Rs L xs (d) 127 108 [a0, a1, a2, a3, a4, a5, some (.ref y), some (.int (z + (nI 1)))] st M x := Rs_next c127_105 rfl
theorem s127_105n {L : Nat} {xs : Nat → Int32} {d x : Nat} {M : qxM} {st : List Value} {a0 a1 a2 a3 a4 a5 : Option Value} {z : Int32} : Rs L xs (d) 127 105 [a0, a1, a2, a3, a4, a5, none, some (.int z)] st M x = Rs L xs (d) 127 108 [a0, a1, a2, a3, a4, a5, none, some (.int (z + (nI 1)))] st M x := Rs_next c127_105 rfl
theorem c127_108 : qx_code 127 108 = some (108, .goto (-63), 111, 45, 0, 0) := by decide +kernel
theorem s127_108 {L : Nat} {xs : Nat → Int32} {d x : Nat} {M : qxM} {st : List Value} {ls : qxL} : Rs L xs (d) 127 108 ls st M x = Rs L xs (d) 127 45 ls st M x := Rs_next c127_108 rfl
theorem c127_111 : qx_code 127 111 = some (111, .iload 4, 113, 0, 0, 0) := by decide +kernel
theorem s127_111 {L : Nat} {xs : Nat → Int32} {d x : Nat} {M : qxM} {st : List Value} {a0 a1 a2 a3 a5 a6 a7 : Option Value} {z : Int32} : Rs L xs (d) 127 111 [a0, a1, a2, a3, some (.int z), a5, a6, a7] st M x = Rs L xs (d) 127 113 [a0, a1, a2, a3, some (.int z), a5, a6, a7] (.int z :: st) M x := Rs_next c127_111 rfl
theorem c127_113 : qx_code 127 113 = some (113, .ireturn, 114, 0, 0, 0) := by decide +kernel
theorem s127_113 {L : Nat} {xs : Nat → Int32} {d x : Nat} {M : qxM} {ls : qxL} {z : Int32} : Rs L xs (d) 127 113 ls [.int z] M x = some (.inl (some (.int z)), M, x) := Rs_ret c127_113 rfl
theorem c128_0 : qx_code 128 0 = some (0, .aload_n 0, 1, 0, 0, 0) := by decide +kernel
theorem s128_0 {L : Nat} {xs : Nat → Int32} {d x : Nat} {M : qxM} {st : List Value} {a1 a2 : Option Value} {z : Nat} : Rs L xs (d) 128 0 [some (.ref z), a1, a2] st M x = Rs L xs (d) 128 1 [some (.ref z), a1, a2] (.ref z :: st) M x := Rs_next c128_0 rfl
theorem c128_1 : qx_code 128 1 = some (1, .iload_n 1, 2, 0, 0, 0) := by decide +kernel
theorem s128_1 {L : Nat} {xs : Nat → Int32} {d x : Nat} {M : qxM} {st : List Value} {a0 a2 : Option Value} {z : Int32} : Rs L xs (d) 128 1 [a0, some (.int z), a2] st M x = Rs L xs (d) 128 2 [a0, some (.int z), a2] (.int z :: st) M x := Rs_next c128_1 rfl
theorem c128_2 : qx_code 128 2 = some (2, .iload_n 2, 3, 0, 0, 0) := by decide +kernel
theorem s128_2 {L : Nat} {xs : Nat → Int32} {d x : Nat} {M : qxM} {st : List Value} {a0 a1 : Option Value} {z : Int32} : Rs L xs (d) 128 2 [a0, a1, some (.int z)] st M x = Rs L xs (d) 128 3 [a0, a1, some (.int z)] (.int z :: st) M x := Rs_next c128_2 rfl
theorem c128_3 : qx_code 128 3 = some (3, .invokevirtual 163, 6, 161, 3, 799) := by decide +kernel
theorem s128_3 {L : Nat} {xs : Nat → Int32} {d x : Nat} {M : qxM} {st : List Value} {ls : qxL} {t : Nat} {z0 : Int32} {z1 : Int32} (hk : qx_kd t = 17) (hs : st.length ≤ 4) : Rs L xs (d + 1) 128 3 ls (.int z1 :: .int z0 :: .ref t :: st) M x = (Rs L xs d 161 0 [some (.ref t), some (.int z0), some (.int z1)] [] M 0).bind (qx_kn L xs (d + 1) 128 3 6 161 ls st x) := by
  have h1 : qx_act L xs (qx_rt 128) (3, .invokevirtual 163, 6, 161, 3, 799) ls (.int z1 :: .int z0 :: .ref t :: st) M = if 3 ≤ (.int z1 :: .int z0 :: .ref t :: st).length ∧ st.length ≤ 4 then some (.inr (.inr (.inr (161, [.ref t, .int z0, .int z1], st)))) else none := rfl
  rw [if_pos ⟨by simp [List.length_cons]; try omega, hs⟩] at h1
  have h2 := qx_kd_obj (k := 7) (by decide) hk
  exact Rs_call c128_3 h1 (by rw [show qx_args 161 [.ref t, .int z0, .int z1] = decide (qx_sh t = some (.inl 7)) from rfl]; exact decide_eq_true h2)
theorem c128_6 : qx_code 128 6 = some (6, .aload_n 0, 7, 0, 0, 0) := by decide +kernel
theorem s128_6 {L : Nat} {xs : Nat → Int32} {d x : Nat} {M : qxM} {st : List Value} {a1 a2 : Option Value} {z : Nat} : Rs L xs (d) 128 6 [some (.ref z), a1, a2] st M x = Rs L xs (d) 128 7 [some (.ref z), a1, a2] (.ref z :: st) M x := Rs_next c128_6 rfl
theorem c128_7 : qx_code 128 7 = some (7, .invokevirtual 259, 10, 168, 1, 976) := by decide +kernel
theorem s128_7 {L : Nat} {xs : Nat → Int32} {d x : Nat} {M : qxM} {st : List Value} {ls : qxL} {t : Nat} (hk : qx_kd t = 17) (hs : st.length ≤ 4) : Rs L xs (d + 1) 128 7 ls (.ref t :: st) M x = (Rs L xs d 168 0 [some (.ref t)] [] M 0).bind (qx_kn L xs (d + 1) 128 7 10 168 ls st x) := by
  have h1 : qx_act L xs (qx_rt 128) (7, .invokevirtual 259, 10, 168, 1, 976) ls (.ref t :: st) M = if 1 ≤ (.ref t :: st).length ∧ st.length ≤ 4 then some (.inr (.inr (.inr (168, [.ref t], st)))) else none := rfl
  rw [if_pos ⟨by simp [List.length_cons]; try omega, hs⟩] at h1
  have h2 := qx_kd_obj (k := 7) (by decide) hk
  exact Rs_call c128_7 h1 (by rw [show qx_args 168 [.ref t] = decide (qx_sh t = some (.inl 7)) from rfl]; exact decide_eq_true h2)
theorem c128_10 : qx_code 128 10 = some (10, .iload_n 1, 11, 0, 0, 0) := by decide +kernel
theorem s128_10 {L : Nat} {xs : Nat → Int32} {d x : Nat} {M : qxM} {st : List Value} {a0 a2 : Option Value} {z : Int32} : Rs L xs (d) 128 10 [a0, some (.int z), a2] st M x = Rs L xs (d) 128 11 [a0, some (.int z), a2] (.int z :: st) M x := Rs_next c128_10 rfl
theorem c128_11 : qx_code 128 11 = some (11, .iload_n 2, 12, 0, 0, 0) := by decide +kernel
theorem s128_11 {L : Nat} {xs : Nat → Int32} {d x : Nat} {M : qxM} {st : List Value} {a0 a1 : Option Value} {z : Int32} : Rs L xs (d) 128 11 [a0, a1, some (.int z)] st M x = Rs L xs (d) 128 12 [a0, a1, some (.int z)] (.int z :: st) M x := Rs_next c128_11 rfl
theorem c128_12 : qx_code 128 12 = some (12, .invokevirtual 294, 15, 12, 3, 1146) := by decide +kernel
theorem s128_12 {L : Nat} {xs : Nat → Int32} {d x : Nat} {M : qxM} {st : List Value} {ls : qxL} {t : Nat} {z0 : Int32} {z1 : Int32} (hk : qx_kd t = 10) (hs : st.length ≤ 4) : Rs L xs (d + 1) 128 12 ls (.int z1 :: .int z0 :: .ref t :: st) M x = (Rs L xs d 12 0 [some (.ref t), some (.int z0), some (.int z1)] [] M 0).bind (qx_kn L xs (d + 1) 128 12 15 12 ls st x) := by
  have h1 : qx_act L xs (qx_rt 128) (12, .invokevirtual 294, 15, 12, 3, 1146) ls (.int z1 :: .int z0 :: .ref t :: st) M = if 3 ≤ (.int z1 :: .int z0 :: .ref t :: st).length ∧ st.length ≤ 4 then some (.inr (.inr (.inr (12, [.ref t, .int z0, .int z1], st)))) else none := rfl
  rw [if_pos ⟨by simp [List.length_cons]; try omega, hs⟩] at h1
  have h2 := qx_kd_obj (k := 0) (by decide) hk
  exact Rs_call c128_12 h1 (by rw [show qx_args 12 [.ref t, .int z0, .int z1] = decide (qx_sh t = some (.inl 0)) from rfl]; exact decide_eq_true h2)
theorem c128_15 : qx_code 128 15 = some (15, .ireturn, 16, 0, 0, 0) := by decide +kernel
theorem s128_15 {L : Nat} {xs : Nat → Int32} {d x : Nat} {M : qxM} {ls : qxL} {z : Int32} (h01 : z = 0 ∨ z = 1) : Rs L xs (d) 128 15 ls [.int z] M x = some (.inl (some (.int z)), M, x) := Rs_retw h01 c128_15 rfl
theorem c129_0 : qx_code 129 0 = some (0, .aload_n 0, 1, 0, 0, 0) := by decide +kernel
theorem s129_0 {L : Nat} {xs : Nat → Int32} {d x : Nat} {M : qxM} {st : List Value} {a1 a2 : Option Value} {z : Nat} : Rs L xs (d) 129 0 [some (.ref z), a1, a2] st M x = Rs L xs (d) 129 1 [some (.ref z), a1, a2] (.ref z :: st) M x := Rs_next c129_0 rfl
theorem c129_1 : qx_code 129 1 = some (1, .iload_n 1, 2, 0, 0, 0) := by decide +kernel
theorem s129_1 {L : Nat} {xs : Nat → Int32} {d x : Nat} {M : qxM} {st : List Value} {a0 a2 : Option Value} {z : Int32} : Rs L xs (d) 129 1 [a0, some (.int z), a2] st M x = Rs L xs (d) 129 2 [a0, some (.int z), a2] (.int z :: st) M x := Rs_next c129_1 rfl
theorem c129_2 : qx_code 129 2 = some (2, .iload_n 2, 3, 0, 0, 0) := by decide +kernel
theorem s129_2 {L : Nat} {xs : Nat → Int32} {d x : Nat} {M : qxM} {st : List Value} {a0 a1 : Option Value} {z : Int32} : Rs L xs (d) 129 2 [a0, a1, some (.int z)] st M x = Rs L xs (d) 129 3 [a0, a1, some (.int z)] (.int z :: st) M x := Rs_next c129_2 rfl
theorem c129_3 : qx_code 129 3 = some (3, .invokevirtual 163, 6, 161, 3, 799) := by decide +kernel
theorem s129_3 {L : Nat} {xs : Nat → Int32} {d x : Nat} {M : qxM} {st : List Value} {ls : qxL} {t : Nat} {z0 : Int32} {z1 : Int32} (hk : qx_kd t = 17) (hs : st.length ≤ 4) : Rs L xs (d + 1) 129 3 ls (.int z1 :: .int z0 :: .ref t :: st) M x = (Rs L xs d 161 0 [some (.ref t), some (.int z0), some (.int z1)] [] M 0).bind (qx_kn L xs (d + 1) 129 3 6 161 ls st x) := by
  have h1 : qx_act L xs (qx_rt 129) (3, .invokevirtual 163, 6, 161, 3, 799) ls (.int z1 :: .int z0 :: .ref t :: st) M = if 3 ≤ (.int z1 :: .int z0 :: .ref t :: st).length ∧ st.length ≤ 4 then some (.inr (.inr (.inr (161, [.ref t, .int z0, .int z1], st)))) else none := rfl
  rw [if_pos ⟨by simp [List.length_cons]; try omega, hs⟩] at h1
  have h2 := qx_kd_obj (k := 7) (by decide) hk
  exact Rs_call c129_3 h1 (by rw [show qx_args 161 [.ref t, .int z0, .int z1] = decide (qx_sh t = some (.inl 7)) from rfl]; exact decide_eq_true h2)
theorem c129_6 : qx_code 129 6 = some (6, .aload_n 0, 7, 0, 0, 0) := by decide +kernel
theorem s129_6 {L : Nat} {xs : Nat → Int32} {d x : Nat} {M : qxM} {st : List Value} {a1 a2 : Option Value} {z : Nat} : Rs L xs (d) 129 6 [some (.ref z), a1, a2] st M x = Rs L xs (d) 129 7 [some (.ref z), a1, a2] (.ref z :: st) M x := Rs_next c129_6 rfl
theorem c129_7 : qx_code 129 7 = some (7, .invokevirtual 259, 10, 168, 1, 976) := by decide +kernel
theorem s129_7 {L : Nat} {xs : Nat → Int32} {d x : Nat} {M : qxM} {st : List Value} {ls : qxL} {t : Nat} (hk : qx_kd t = 17) (hs : st.length ≤ 4) : Rs L xs (d + 1) 129 7 ls (.ref t :: st) M x = (Rs L xs d 168 0 [some (.ref t)] [] M 0).bind (qx_kn L xs (d + 1) 129 7 10 168 ls st x) := by
  have h1 : qx_act L xs (qx_rt 129) (7, .invokevirtual 259, 10, 168, 1, 976) ls (.ref t :: st) M = if 1 ≤ (.ref t :: st).length ∧ st.length ≤ 4 then some (.inr (.inr (.inr (168, [.ref t], st)))) else none := rfl
  rw [if_pos ⟨by simp [List.length_cons]; try omega, hs⟩] at h1
  have h2 := qx_kd_obj (k := 7) (by decide) hk
  exact Rs_call c129_7 h1 (by rw [show qx_args 168 [.ref t] = decide (qx_sh t = some (.inl 7)) from rfl]; exact decide_eq_true h2)
theorem c129_10 : qx_code 129 10 = some (10, .iload_n 1, 11, 0, 0, 0) := by decide +kernel
theorem s129_10 {L : Nat} {xs : Nat → Int32} {d x : Nat} {M : qxM} {st : List Value} {a0 a2 : Option Value} {z : Int32} : Rs L xs (d) 129 10 [a0, some (.int z), a2] st M x = Rs L xs (d) 129 11 [a0, some (.int z), a2] (.int z :: st) M x := Rs_next c129_10 rfl
theorem c129_11 : qx_code 129 11 = some (11, .iload_n 2, 12, 0, 0, 0) := by decide +kernel
theorem s129_11 {L : Nat} {xs : Nat → Int32} {d x : Nat} {M : qxM} {st : List Value} {a0 a1 : Option Value} {z : Int32} : Rs L xs (d) 129 11 [a0, a1, some (.int z)] st M x = Rs L xs (d) 129 12 [a0, a1, some (.int z)] (.int z :: st) M x := Rs_next c129_11 rfl
theorem c129_12 : qx_code 129 12 = some (12, .invokevirtual 297, 15, 13, 3, 1157) := by decide +kernel
theorem s129_12 {L : Nat} {xs : Nat → Int32} {d x : Nat} {M : qxM} {st : List Value} {ls : qxL} {t : Nat} {z0 : Int32} {z1 : Int32} (hk : qx_kd t = 10) (hs : st.length ≤ 4) : Rs L xs (d + 1) 129 12 ls (.int z1 :: .int z0 :: .ref t :: st) M x = (Rs L xs d 13 0 [some (.ref t), some (.int z0), some (.int z1)] [] M 0).bind (qx_kn L xs (d + 1) 129 12 15 13 ls st x) := by
  have h1 : qx_act L xs (qx_rt 129) (12, .invokevirtual 297, 15, 13, 3, 1157) ls (.int z1 :: .int z0 :: .ref t :: st) M = if 3 ≤ (.int z1 :: .int z0 :: .ref t :: st).length ∧ st.length ≤ 4 then some (.inr (.inr (.inr (13, [.ref t, .int z0, .int z1], st)))) else none := rfl
  rw [if_pos ⟨by simp [List.length_cons]; try omega, hs⟩] at h1
  have h2 := qx_kd_obj (k := 0) (by decide) hk
  exact Rs_call c129_12 h1 (by rw [show qx_args 13 [.ref t, .int z0, .int z1] = decide (qx_sh t = some (.inl 0)) from rfl]; exact decide_eq_true h2)
theorem c129_15 : qx_code 129 15 = some (15, .ireturn, 16, 0, 0, 0) := by decide +kernel
theorem s129_15 {L : Nat} {xs : Nat → Int32} {d x : Nat} {M : qxM} {ls : qxL} {z : Int32} (h01 : z = 0 ∨ z = 1) : Rs L xs (d) 129 15 ls [.int z] M x = some (.inl (some (.int z)), M, x) := Rs_retw h01 c129_15 rfl
theorem c130_0 : qx_code 130 0 = some (0, .aload_n 0, 1, 0, 0, 0) := by decide +kernel
theorem s130_0 {L : Nat} {xs : Nat → Int32} {d x : Nat} {M : qxM} {st : List Value} {z : Nat} : Rs L xs (d) 130 0 [some (.ref z)] st M x = Rs L xs (d) 130 1 [some (.ref z)] (.ref z :: st) M x := Rs_next c130_0 rfl
theorem c130_1 : qx_code 130 1 = some (1, .invokevirtual 107, 4, 159, 1, 728) := by decide +kernel
theorem s130_1 {L : Nat} {xs : Nat → Int32} {d x : Nat} {M : qxM} {st : List Value} {ls : qxL} {t : Nat} (hk : qx_kd t = 17) (hs : st.length ≤ 4) : Rs L xs (d + 1) 130 1 ls (.ref t :: st) M x = (Rs L xs d 159 0 [some (.ref t)] [] M 0).bind (qx_kn L xs (d + 1) 130 1 4 159 ls st x) := by
  have h1 : qx_act L xs (qx_rt 130) (1, .invokevirtual 107, 4, 159, 1, 728) ls (.ref t :: st) M = if 1 ≤ (.ref t :: st).length ∧ st.length ≤ 4 then some (.inr (.inr (.inr (159, [.ref t], st)))) else none := rfl
  rw [if_pos ⟨by simp [List.length_cons]; try omega, hs⟩] at h1
  have h2 := qx_kd_obj (k := 7) (by decide) hk
  exact Rs_call c130_1 h1 (by rw [show qx_args 159 [.ref t] = decide (qx_sh t = some (.inl 7)) from rfl]; exact decide_eq_true h2)
theorem c130_4 : qx_code 130 4 = some (4, .aload_n 0, 5, 0, 0, 0) := by decide +kernel
theorem s130_4 {L : Nat} {xs : Nat → Int32} {d x : Nat} {M : qxM} {st : List Value} {z : Nat} : Rs L xs (d) 130 4 [some (.ref z)] st M x = Rs L xs (d) 130 5 [some (.ref z)] (.ref z :: st) M x := Rs_next c130_4 rfl
theorem c130_5 : qx_code 130 5 = some (5, .invokevirtual 259, 8, 168, 1, 976) := by decide +kernel
theorem s130_5 {L : Nat} {xs : Nat → Int32} {d x : Nat} {M : qxM} {st : List Value} {ls : qxL} {t : Nat} (hk : qx_kd t = 17) (hs : st.length ≤ 4) : Rs L xs (d + 1) 130 5 ls (.ref t :: st) M x = (Rs L xs d 168 0 [some (.ref t)] [] M 0).bind (qx_kn L xs (d + 1) 130 5 8 168 ls st x) := by
  have h1 : qx_act L xs (qx_rt 130) (5, .invokevirtual 259, 8, 168, 1, 976) ls (.ref t :: st) M = if 1 ≤ (.ref t :: st).length ∧ st.length ≤ 4 then some (.inr (.inr (.inr (168, [.ref t], st)))) else none := rfl
  rw [if_pos ⟨by simp [List.length_cons]; try omega, hs⟩] at h1
  have h2 := qx_kd_obj (k := 7) (by decide) hk
  exact Rs_call c130_5 h1 (by rw [show qx_args 168 [.ref t] = decide (qx_sh t = some (.inl 7)) from rfl]; exact decide_eq_true h2)
theorem c130_8 : qx_code 130 8 = some (8, .aload_n 0, 9, 0, 0, 0) := by decide +kernel
theorem s130_8 {L : Nat} {xs : Nat → Int32} {d x : Nat} {M : qxM} {st : List Value} {z : Nat} : Rs L xs (d) 130 8 [some (.ref z)] st M x = Rs L xs (d) 130 9 [some (.ref z)] (.ref z :: st) M x := Rs_next c130_8 rfl
theorem c130_9 : qx_code 130 9 = some (9, .getfield 33, 12, 7, 3, 384) := by decide +kernel
theorem s130_9 {L : Nat} {xs : Nat → Int32} {d x : Nat} {M : qxM} {st : List Value} {ls : qxL} {t : Nat} (hk : qx_kd t = 17) : Rs L xs (d) 130 9 ls (.ref t :: st) M x = Rs L xs (d) 130 12 ls (.ref (t + 90) :: st) M x := Rs_when (qx_kd_obj (k := 7) (by decide) hk) c130_9 rfl
theorem c130_12 : qx_code 130 12 = some (12, .getfield 93, 15, 4, 0, 356) := by decide +kernel
theorem s130_12 {L : Nat} {xs : Nat → Int32} {d x : Nat} {M : qxM} {st : List Value} {ls : qxL} {t : Nat} (hk : qx_kd t = 14) : Rs L xs (d) 130 12 ls (.ref t :: st) M x = Rs L xs (d) 130 15 ls (.ref (t + 1) :: st) M x := Rs_when (qx_kd_obj (k := 4) (by decide) hk) c130_12 rfl
theorem c130_15 : qx_code 130 15 = some (15, .invokevirtual 275, 18, 36, 1, 1072) := by decide +kernel
theorem s130_15 {L : Nat} {xs : Nat → Int32} {d x : Nat} {M : qxM} {st : List Value} {ls : qxL} {t : Nat} (hk : qx_kd t = 12) (hs : st.length ≤ 4) : Rs L xs (d + 1) 130 15 ls (.ref t :: st) M x = (Rs L xs d 36 0 [some (.ref t)] [] M 0).bind (qx_kn L xs (d + 1) 130 15 18 36 ls st x) := by
  have h1 : qx_act L xs (qx_rt 130) (15, .invokevirtual 275, 18, 36, 1, 1072) ls (.ref t :: st) M = if 1 ≤ (.ref t :: st).length ∧ st.length ≤ 4 then some (.inr (.inr (.inr (36, [.ref t], st)))) else none := rfl
  rw [if_pos ⟨by simp [List.length_cons]; try omega, hs⟩] at h1
  have h2 := qx_kd_obj (k := 2) (by decide) hk
  exact Rs_call c130_15 h1 (by rw [show qx_args 36 [.ref t] = decide (qx_sh t = some (.inl 2)) from rfl]; exact decide_eq_true h2)
theorem c130_18 : qx_code 130 18 = some (18, .invokevirtual 300, 21, 6, 2, 1173) := by decide +kernel
theorem s130_18 {L : Nat} {xs : Nat → Int32} {d x : Nat} {M : qxM} {st : List Value} {ls : qxL} {t : Nat} {z0 : Int32} (hk : qx_kd t = 10) (hs : st.length ≤ 4) : Rs L xs (d + 1) 130 18 ls (.int z0 :: .ref t :: st) M x = (Rs L xs d 6 0 [some (.ref t), some (.int z0)] [] M 0).bind (qx_kn L xs (d + 1) 130 18 21 6 ls st x) := by
  have h1 : qx_act L xs (qx_rt 130) (18, .invokevirtual 300, 21, 6, 2, 1173) ls (.int z0 :: .ref t :: st) M = if 2 ≤ (.int z0 :: .ref t :: st).length ∧ st.length ≤ 4 then some (.inr (.inr (.inr (6, [.ref t, .int z0], st)))) else none := rfl
  rw [if_pos ⟨by simp [List.length_cons]; try omega, hs⟩] at h1
  have h2 := qx_kd_obj (k := 0) (by decide) hk
  exact Rs_call c130_18 h1 (by rw [show qx_args 6 [.ref t, .int z0] = decide (qx_sh t = some (.inl 0)) from rfl]; exact decide_eq_true h2)
theorem c130_21 : qx_code 130 21 = some (21, .i2l, 22, 0, 0, 0) := by decide +kernel
theorem s130_21 {L : Nat} {xs : Nat → Int32} {d x : Nat} {M : qxM} {st : List Value} {ls : qxL} {z : Int32} : Rs L xs (d) 130 21 ls (.int z :: st) M x = Rs L xs (d) 130 22 ls (.long z.toInt64 :: st) M x := Rs_next c130_21 rfl
theorem c130_22 : qx_code 130 22 = some (22, .lreturn, 23, 0, 0, 0) := by decide +kernel
theorem s130_22 {L : Nat} {xs : Nat → Int32} {d x : Nat} {M : qxM} {ls : qxL} {z : Int64} : Rs L xs (d) 130 22 ls [.long z] M x = some (.inl (some (.long z)), M, x) := Rs_ret c130_22 rfl
theorem c131_0 : qx_code 131 0 = some (0, .aload_n 0, 1, 0, 0, 0) := by decide +kernel
theorem s131_0 {L : Nat} {xs : Nat → Int32} {d x : Nat} {M : qxM} {st : List Value} {a1 a2 a3 a4 a5 : Option Value} {z : Nat} : Rs L xs (d) 131 0 [some (.ref z), a1, a2, a3, a4, a5] st M x = Rs L xs (d) 131 1 [some (.ref z), a1, a2, a3, a4, a5] (.ref z :: st) M x := Rs_next c131_0 rfl
theorem c131_1 : qx_code 131 1 = some (1, .iload_n 1, 2, 0, 0, 0) := by decide +kernel
theorem s131_1 {L : Nat} {xs : Nat → Int32} {d x : Nat} {M : qxM} {st : List Value} {a0 a2 a3 a4 a5 : Option Value} {z : Int32} : Rs L xs (d) 131 1 [a0, some (.int z), a2, a3, a4, a5] st M x = Rs L xs (d) 131 2 [a0, some (.int z), a2, a3, a4, a5] (.int z :: st) M x := Rs_next c131_1 rfl
theorem c131_2 : qx_code 131 2 = some (2, .invokevirtual 148, 5, 160, 2, 780) := by decide +kernel
theorem s131_2 {L : Nat} {xs : Nat → Int32} {d x : Nat} {M : qxM} {st : List Value} {ls : qxL} {t : Nat} {z0 : Int32} (hk : qx_kd t = 17) (hs : st.length ≤ 4) : Rs L xs (d + 1) 131 2 ls (.int z0 :: .ref t :: st) M x = (Rs L xs d 160 0 [some (.ref t), some (.int z0)] [] M 0).bind (qx_kn L xs (d + 1) 131 2 5 160 ls st x) := by
  have h1 : qx_act L xs (qx_rt 131) (2, .invokevirtual 148, 5, 160, 2, 780) ls (.int z0 :: .ref t :: st) M = if 2 ≤ (.int z0 :: .ref t :: st).length ∧ st.length ≤ 4 then some (.inr (.inr (.inr (160, [.ref t, .int z0], st)))) else none := rfl
  rw [if_pos ⟨by simp [List.length_cons]; try omega, hs⟩] at h1
  have h2 := qx_kd_obj (k := 7) (by decide) hk
  exact Rs_call c131_2 h1 (by rw [show qx_args 160 [.ref t, .int z0] = decide (qx_sh t = some (.inl 7)) from rfl]; exact decide_eq_true h2)
theorem c131_5 : qx_code 131 5 = some (5, .aload_n 0, 6, 0, 0, 0) := by decide +kernel
theorem s131_5 {L : Nat} {xs : Nat → Int32} {d x : Nat} {M : qxM} {st : List Value} {a1 a2 a3 a4 a5 : Option Value} {z : Nat} : Rs L xs (d) 131 5 [some (.ref z), a1, a2, a3, a4, a5] st M x = Rs L xs (d) 131 6 [some (.ref z), a1, a2, a3, a4, a5] (.ref z :: st) M x := Rs_next c131_5 rfl
theorem c131_6 : qx_code 131 6 = some (6, .invokevirtual 259, 9, 168, 1, 976) := by decide +kernel
theorem s131_6 {L : Nat} {xs : Nat → Int32} {d x : Nat} {M : qxM} {st : List Value} {ls : qxL} {t : Nat} (hk : qx_kd t = 17) (hs : st.length ≤ 4) : Rs L xs (d + 1) 131 6 ls (.ref t :: st) M x = (Rs L xs d 168 0 [some (.ref t)] [] M 0).bind (qx_kn L xs (d + 1) 131 6 9 168 ls st x) := by
  have h1 : qx_act L xs (qx_rt 131) (6, .invokevirtual 259, 9, 168, 1, 976) ls (.ref t :: st) M = if 1 ≤ (.ref t :: st).length ∧ st.length ≤ 4 then some (.inr (.inr (.inr (168, [.ref t], st)))) else none := rfl
  rw [if_pos ⟨by simp [List.length_cons]; try omega, hs⟩] at h1
  have h2 := qx_kd_obj (k := 7) (by decide) hk
  exact Rs_call c131_6 h1 (by rw [show qx_args 168 [.ref t] = decide (qx_sh t = some (.inl 7)) from rfl]; exact decide_eq_true h2)
theorem c131_9 : qx_code 131 9 = some (9, .astore_n 2, 10, 0, 0, 0) := by decide +kernel
theorem s131_9i {L : Nat} {xs : Nat → Int32} {d x : Nat} {M : qxM} {st : List Value} {a0 a2 a3 a4 a5 : Option Value} {z : Nat} {y : Int32} : Rs L xs (d) 131 9 [a0, some (.int y), a2, a3, a4, a5] (.ref z :: st) M x = Rs L xs (d) 131 10 [a0, some (.int y), some (.ref z), a3, a4, a5] st M x := Rs_next c131_9 rfl
theorem s131_9r {L : Nat} {xs : Nat → Int32} {d x : Nat} {M : qxM} {st : List Value} {a0 a2 a3 a4 a5 : Option Value} {z : Nat} {y : Nat} : Rs L xs (d) 131 9 [a0, some (.ref y), a2, a3, a4, a5] (.ref z :: st) M x = Rs L xs (d) 131 10 [a0, some (.ref y), some (.ref z), a3, a4, a5] st M x := Rs_next c131_9 rfl
theorem s131_9n {L : Nat} {xs : Nat → Int32} {d x : Nat} {M : qxM} {st : List Value} {a0 a2 a3 a4 a5 : Option Value} {z : Nat} : Rs L xs (d) 131 9 [a0, none, a2, a3, a4, a5] (.ref z :: st) M x = Rs L xs (d) 131 10 [a0, none, some (.ref z), a3, a4, a5] st M x := Rs_next c131_9 rfl
theorem c131_10 : qx_code 131 10 = some (10, .aload_n 0, 11, 0, 0, 0) := by decide +kernel
theorem s131_10 {L : Nat} {xs : Nat → Int32} {d x : Nat} {M : qxM} {st : List Value} {a1 a2 a3 a4 a5 : Option Value} {z : Nat} : Rs L xs (d) 131 10 [some (.ref z), a1, a2, a3, a4, a5] st M x = Rs L xs (d) 131 11 [some (.ref z), a1, a2, a3, a4, a5] (.ref z :: st) M x := Rs_next c131_10 rfl
theorem c131_11 : qx_code 131 11 = some (11, .getfield 33, 14, 7, 3, 384) := by decide +kernel
theorem s131_11 {L : Nat} {xs : Nat → Int32} {d x : Nat} {M : qxM} {st : List Value} {ls : qxL} {t : Nat} (hk : qx_kd t = 17) : Rs L xs (d) 131 11 ls (.ref t :: st) M x = Rs L xs (d) 131 14 ls (.ref (t + 90) :: st) M x := Rs_when (qx_kd_obj (k := 7) (by decide) hk) c131_11 rfl
theorem c131_14 : qx_code 131 14 = some (14, .getfield 93, 17, 4, 0, 356) := by decide +kernel
theorem s131_14 {L : Nat} {xs : Nat → Int32} {d x : Nat} {M : qxM} {st : List Value} {ls : qxL} {t : Nat} (hk : qx_kd t = 14) : Rs L xs (d) 131 14 ls (.ref t :: st) M x = Rs L xs (d) 131 17 ls (.ref (t + 1) :: st) M x := Rs_when (qx_kd_obj (k := 4) (by decide) hk) c131_14 rfl
theorem c131_17 : qx_code 131 17 = some (17, .invokevirtual 275, 20, 36, 1, 1072) := by decide +kernel
theorem s131_17 {L : Nat} {xs : Nat → Int32} {d x : Nat} {M : qxM} {st : List Value} {ls : qxL} {t : Nat} (hk : qx_kd t = 12) (hs : st.length ≤ 4) : Rs L xs (d + 1) 131 17 ls (.ref t :: st) M x = (Rs L xs d 36 0 [some (.ref t)] [] M 0).bind (qx_kn L xs (d + 1) 131 17 20 36 ls st x) := by
  have h1 : qx_act L xs (qx_rt 131) (17, .invokevirtual 275, 20, 36, 1, 1072) ls (.ref t :: st) M = if 1 ≤ (.ref t :: st).length ∧ st.length ≤ 4 then some (.inr (.inr (.inr (36, [.ref t], st)))) else none := rfl
  rw [if_pos ⟨by simp [List.length_cons]; try omega, hs⟩] at h1
  have h2 := qx_kd_obj (k := 2) (by decide) hk
  exact Rs_call c131_17 h1 (by rw [show qx_args 36 [.ref t] = decide (qx_sh t = some (.inl 2)) from rfl]; exact decide_eq_true h2)
theorem c131_20 : qx_code 131 20 = some (20, .istore_n 3, 21, 0, 0, 0) := by decide +kernel
theorem s131_20i {L : Nat} {xs : Nat → Int32} {d x : Nat} {M : qxM} {st : List Value} {a0 a1 a3 a4 a5 : Option Value} {z : Int32} {y : Int32} : Rs L xs (d) 131 20 [a0, a1, some (.int y), a3, a4, a5] (.int z :: st) M x = Rs L xs (d) 131 21 [a0, a1, some (.int y), some (.int z), a4, a5] st M x := Rs_next c131_20 rfl
theorem s131_20r {L : Nat} {xs : Nat → Int32} {d x : Nat} {M : qxM} {st : List Value} {a0 a1 a3 a4 a5 : Option Value} {z : Int32} {y : Nat} : Rs L xs (d) 131 20 [a0, a1, some (.ref y), a3, a4, a5] (.int z :: st) M x = Rs L xs (d) 131 21 [a0, a1, some (.ref y), some (.int z), a4, a5] st M x := Rs_next c131_20 rfl
theorem s131_20n {L : Nat} {xs : Nat → Int32} {d x : Nat} {M : qxM} {st : List Value} {a0 a1 a3 a4 a5 : Option Value} {z : Int32} : Rs L xs (d) 131 20 [a0, a1, none, a3, a4, a5] (.int z :: st) M x = Rs L xs (d) 131 21 [a0, a1, none, some (.int z), a4, a5] st M x := Rs_next c131_20 rfl
theorem c131_21 : qx_code 131 21 = some (21, .iconst 0, 22, 0, 0, 0) := by decide +kernel
theorem s131_21 {L : Nat} {xs : Nat → Int32} {d x : Nat} {M : qxM} {st : List Value} {ls : qxL} : Rs L xs (d) 131 21 ls st M x = Rs L xs (d) 131 22 ls (.int (nI 0) :: st) M x := Rs_next c131_21 rfl
theorem c131_22 : qx_code 131 22 = some (22, .istore 4, 24, 0, 0, 0) := by decide +kernel
theorem s131_22i {L : Nat} {xs : Nat → Int32} {d x : Nat} {M : qxM} {st : List Value} {a0 a1 a2 a4 a5 : Option Value} {z : Int32} {y : Int32} : Rs L xs (d) 131 22 [a0, a1, a2, some (.int y), a4, a5] (.int z :: st) M x = Rs L xs (d) 131 24 [a0, a1, a2, some (.int y), some (.int z), a5] st M x := Rs_next c131_22 rfl
theorem s131_22r {L : Nat} {xs : Nat → Int32} {d x : Nat} {M : qxM} {st : List Value} {a0 a1 a2 a4 a5 : Option Value} {z : Int32} {y : Nat} : Rs L xs (d) 131 22 [a0, a1, a2, some (.ref y), a4, a5] (.int z :: st) M x = Rs L xs (d) 131 24 [a0, a1, a2, some (.ref y), some (.int z), a5] st M x := Rs_next c131_22 rfl
theorem s131_22n {L : Nat} {xs : Nat → Int32} {d x : Nat} {M : qxM} {st : List Value} {a0 a1 a2 a4 a5 : Option Value} {z : Int32} : Rs L xs (d) 131 22 [a0, a1, a2, none, a4, a5] (.int z :: st) M x = Rs L xs (d) 131 24 [a0, a1, a2, none, some (.int z), a5] st M x := Rs_next c131_22 rfl
theorem c131_24 : qx_code 131 24 = some (24, .iload 4, 26, 0, 0, 0) := by decide +kernel
theorem s131_24 {L : Nat} {xs : Nat → Int32} {d x : Nat} {M : qxM} {st : List Value} {a0 a1 a2 a3 a5 : Option Value} {z : Int32} : Rs L xs (d) 131 24 [a0, a1, a2, a3, some (.int z), a5] st M x = Rs L xs (d) 131 26 [a0, a1, a2, a3, some (.int z), a5] (.int z :: st) M x := Rs_next c131_24 rfl
theorem c131_26 : qx_code 131 26 = some (26, .bipush 14, 28, 0, 0, 0) := by decide +kernel
theorem s131_26 {L : Nat} {xs : Nat → Int32} {d x : Nat} {M : qxM} {st : List Value} {ls : qxL} : Rs L xs (d) 131 26 ls st M x = Rs L xs (d) 131 28 ls (.int (nI 14) :: st) M x := Rs_next c131_26 rfl
theorem c131_28 : qx_code 131 28 = some (28, .if_icmp .ge 69, 31, 97, 0, 0) := by decide +kernel
theorem s131_28 {L : Nat} {xs : Nat → Int32} {d x : Nat} {M : qxM} {st : List Value} {ls : qxL} {z y : Int32} : Rs L xs (d) 131 28 ls (.int y :: .int z :: st) M x = if y ≤ z then Rs L xs (d) 131 97 ls st M x else Rs L xs (d) 131 31 ls st M x := Rs_ite c131_28 rfl
theorem c131_31 : qx_code 131 31 = some (31, .iload_n 3, 32, 0, 0, 0) := by decide +kernel
theorem s131_31 {L : Nat} {xs : Nat → Int32} {d x : Nat} {M : qxM} {st : List Value} {a0 a1 a2 a4 a5 : Option Value} {z : Int32} : Rs L xs (d) 131 31 [a0, a1, a2, some (.int z), a4, a5] st M x = Rs L xs (d) 131 32 [a0, a1, a2, some (.int z), a4, a5] (.int z :: st) M x := Rs_next c131_31 rfl
theorem c131_32 : qx_code 131 32 = some (32, .iload 4, 34, 0, 0, 0) := by decide +kernel
theorem s131_32 {L : Nat} {xs : Nat → Int32} {d x : Nat} {M : qxM} {st : List Value} {a0 a1 a2 a3 a5 : Option Value} {z : Int32} : Rs L xs (d) 131 32 [a0, a1, a2, a3, some (.int z), a5] st M x = Rs L xs (d) 131 34 [a0, a1, a2, a3, some (.int z), a5] (.int z :: st) M x := Rs_next c131_32 rfl
theorem c131_34 : qx_code 131 34 = some (34, .invokestatic 166, 37, 170, 2, 803) := by decide +kernel
theorem s131_34 {L : Nat} {xs : Nat → Int32} {d x : Nat} {M : qxM} {st : List Value} {ls : qxL} {z0 : Int32} {z1 : Int32} (hs : st.length ≤ 4) : Rs L xs (d + 1) 131 34 ls (.int z1 :: .int z0 :: st) M x = (Rs L xs d 170 0 [some (.int z0), some (.int z1)] [] M 0).bind (qx_kn L xs (d + 1) 131 34 37 170 ls st x) := by
  have h1 : qx_act L xs (qx_rt 131) (34, .invokestatic 166, 37, 170, 2, 803) ls (.int z1 :: .int z0 :: st) M = if 2 ≤ (.int z1 :: .int z0 :: st).length ∧ st.length ≤ 4 then some (.inr (.inr (.inr (170, [.int z0, .int z1], st)))) else none := rfl
  rw [if_pos ⟨by simp [List.length_cons]; try omega, hs⟩] at h1
  exact Rs_call c131_34 h1 rfl
theorem c131_37 : qx_code 131 37 = some (37, .ifCond .eq 54, 40, 91, 0, 0) := by decide +kernel
theorem s131_37 {L : Nat} {xs : Nat → Int32} {d x : Nat} {M : qxM} {st : List Value} {ls : qxL} {z : Int32} : Rs L xs (d) 131 37 ls (.int z :: st) M x = if z = 0 then Rs L xs (d) 131 91 ls st M x else Rs L xs (d) 131 40 ls st M x := Rs_ite c131_37 rfl
theorem c131_40 : qx_code 131 40 = some (40, .aload_n 2, 41, 0, 0, 0) := by decide +kernel
theorem s131_40 {L : Nat} {xs : Nat → Int32} {d x : Nat} {M : qxM} {st : List Value} {a0 a1 a3 a4 a5 : Option Value} {z : Nat} : Rs L xs (d) 131 40 [a0, a1, some (.ref z), a3, a4, a5] st M x = Rs L xs (d) 131 41 [a0, a1, some (.ref z), a3, a4, a5] (.ref z :: st) M x := Rs_next c131_40 rfl
theorem c131_41 : qx_code 131 41 = some (41, .iload_n 3, 42, 0, 0, 0) := by decide +kernel
theorem s131_41 {L : Nat} {xs : Nat → Int32} {d x : Nat} {M : qxM} {st : List Value} {a0 a1 a2 a4 a5 : Option Value} {z : Int32} : Rs L xs (d) 131 41 [a0, a1, a2, some (.int z), a4, a5] st M x = Rs L xs (d) 131 42 [a0, a1, a2, some (.int z), a4, a5] (.int z :: st) M x := Rs_next c131_41 rfl
theorem c131_42 : qx_code 131 42 = some (42, .iload 4, 44, 0, 0, 0) := by decide +kernel
theorem s131_42 {L : Nat} {xs : Nat → Int32} {d x : Nat} {M : qxM} {st : List Value} {a0 a1 a2 a3 a5 : Option Value} {z : Int32} : Rs L xs (d) 131 42 [a0, a1, a2, a3, some (.int z), a5] st M x = Rs L xs (d) 131 44 [a0, a1, a2, a3, some (.int z), a5] (.int z :: st) M x := Rs_next c131_42 rfl
theorem c131_44 : qx_code 131 44 = some (44, .invokevirtual 303, 47, 16, 3, 1181) := by decide +kernel
theorem s131_44 {L : Nat} {xs : Nat → Int32} {d x : Nat} {M : qxM} {st : List Value} {ls : qxL} {t : Nat} {z0 : Int32} {z1 : Int32} (hk : qx_kd t = 10) (hs : st.length ≤ 4) : Rs L xs (d + 1) 131 44 ls (.int z1 :: .int z0 :: .ref t :: st) M x = (Rs L xs d 16 0 [some (.ref t), some (.int z0), some (.int z1), none, none, none] [] M 0).bind (qx_kn L xs (d + 1) 131 44 47 16 ls st x) := by
  have h1 : qx_act L xs (qx_rt 131) (44, .invokevirtual 303, 47, 16, 3, 1181) ls (.int z1 :: .int z0 :: .ref t :: st) M = if 3 ≤ (.int z1 :: .int z0 :: .ref t :: st).length ∧ st.length ≤ 4 then some (.inr (.inr (.inr (16, [.ref t, .int z0, .int z1], st)))) else none := rfl
  rw [if_pos ⟨by simp [List.length_cons]; try omega, hs⟩] at h1
  have h2 := qx_kd_obj (k := 0) (by decide) hk
  exact Rs_call c131_44 h1 (by rw [show qx_args 16 [.ref t, .int z0, .int z1] = decide (qx_sh t = some (.inl 0)) from rfl]; exact decide_eq_true h2)
theorem c131_47 : qx_code 131 47 = some (47, .istore 5, 49, 0, 0, 0) := by decide +kernel
theorem s131_47i {L : Nat} {xs : Nat → Int32} {d x : Nat} {M : qxM} {st : List Value} {a0 a1 a2 a3 a5 : Option Value} {z : Int32} {y : Int32} : Rs L xs (d) 131 47 [a0, a1, a2, a3, some (.int y), a5] (.int z :: st) M x = Rs L xs (d) 131 49 [a0, a1, a2, a3, some (.int y), some (.int z)] st M x := Rs_next c131_47 rfl
theorem s131_47r {L : Nat} {xs : Nat → Int32} {d x : Nat} {M : qxM} {st : List Value} {a0 a1 a2 a3 a5 : Option Value} {z : Int32} {y : Nat} : Rs L xs (d) 131 47 [a0, a1, a2, a3, some (.ref y), a5] (.int z :: st) M x = Rs L xs (d) 131 49 [a0, a1, a2, a3, some (.ref y), some (.int z)] st M x := Rs_next c131_47 rfl
theorem s131_47n {L : Nat} {xs : Nat → Int32} {d x : Nat} {M : qxM} {st : List Value} {a0 a1 a2 a3 a5 : Option Value} {z : Int32} : Rs L xs (d) 131 47 [a0, a1, a2, a3, none, a5] (.int z :: st) M x = Rs L xs (d) 131 49 [a0, a1, a2, a3, none, some (.int z)] st M x := Rs_next c131_47 rfl
theorem c131_49 : qx_code 131 49 = some (49, .iload 4, 51, 0, 0, 0) := by decide +kernel
theorem s131_49 {L : Nat} {xs : Nat → Int32} {d x : Nat} {M : qxM} {st : List Value} {a0 a1 a2 a3 a5 : Option Value} {z : Int32} : Rs L xs (d) 131 49 [a0, a1, a2, a3, some (.int z), a5] st M x = Rs L xs (d) 131 51 [a0, a1, a2, a3, some (.int z), a5] (.int z :: st) M x := Rs_next c131_49 rfl
theorem c131_51 : qx_code 131 51 = some (51, .iload_n 1, 52, 0, 0, 0) := by decide +kernel
theorem s131_51 {L : Nat} {xs : Nat → Int32} {d x : Nat} {M : qxM} {st : List Value} {a0 a2 a3 a4 a5 : Option Value} {z : Int32} : Rs L xs (d) 131 51 [a0, some (.int z), a2, a3, a4, a5] st M x = Rs L xs (d) 131 52 [a0, some (.int z), a2, a3, a4, a5] (.int z :: st) M x := Rs_next c131_51 rfl
theorem c131_52 : qx_code 131 52 = some (52, .if_icmp .eq 9, 55, 61, 0, 0) := by decide +kernel
theorem s131_52 {L : Nat} {xs : Nat → Int32} {d x : Nat} {M : qxM} {st : List Value} {ls : qxL} {z y : Int32} : Rs L xs (d) 131 52 ls (.int y :: .int z :: st) M x = if z = y then Rs L xs (d) 131 61 ls st M x else Rs L xs (d) 131 55 ls st M x := Rs_ite c131_52 rfl
theorem c131_55 : qx_code 131 55 = some (55, .iload 5, 57, 0, 0, 0) := by decide +kernel
theorem s131_55 {L : Nat} {xs : Nat → Int32} {d x : Nat} {M : qxM} {st : List Value} {a0 a1 a2 a3 a4 : Option Value} {z : Int32} : Rs L xs (d) 131 55 [a0, a1, a2, a3, a4, some (.int z)] st M x = Rs L xs (d) 131 57 [a0, a1, a2, a3, a4, some (.int z)] (.int z :: st) M x := Rs_next c131_55 rfl
theorem c131_57 : qx_code 131 57 = some (57, .iload_n 1, 58, 0, 0, 0) := by decide +kernel
theorem s131_57 {L : Nat} {xs : Nat → Int32} {d x : Nat} {M : qxM} {st : List Value} {a0 a2 a3 a4 a5 : Option Value} {z : Int32} : Rs L xs (d) 131 57 [a0, some (.int z), a2, a3, a4, a5] st M x = Rs L xs (d) 131 58 [a0, some (.int z), a2, a3, a4, a5] (.int z :: st) M x := Rs_next c131_57 rfl
theorem c131_58 : qx_code 131 58 = some (58, .if_icmp .ne 17, 61, 75, 0, 0) := by decide +kernel
theorem s131_58 {L : Nat} {xs : Nat → Int32} {d x : Nat} {M : qxM} {st : List Value} {ls : qxL} {z y : Int32} : Rs L xs (d) 131 58 ls (.int y :: .int z :: st) M x = if z = y then Rs L xs (d) 131 61 ls st M x else Rs L xs (d) 131 75 ls st M x := Rs_ite c131_58 rfl
theorem c131_61 : qx_code 131 61 = some (61, .iload 4, 63, 0, 0, 0) := by decide +kernel
theorem s131_61 {L : Nat} {xs : Nat → Int32} {d x : Nat} {M : qxM} {st : List Value} {a0 a1 a2 a3 a5 : Option Value} {z : Int32} : Rs L xs (d) 131 61 [a0, a1, a2, a3, some (.int z), a5] st M x = Rs L xs (d) 131 63 [a0, a1, a2, a3, some (.int z), a5] (.int z :: st) M x := Rs_next c131_61 rfl
theorem c131_63 : qx_code 131 63 = some (63, .iload_n 1, 64, 0, 0, 0) := by decide +kernel
theorem s131_63 {L : Nat} {xs : Nat → Int32} {d x : Nat} {M : qxM} {st : List Value} {a0 a2 a3 a4 a5 : Option Value} {z : Int32} : Rs L xs (d) 131 63 [a0, some (.int z), a2, a3, a4, a5] st M x = Rs L xs (d) 131 64 [a0, some (.int z), a2, a3, a4, a5] (.int z :: st) M x := Rs_next c131_63 rfl
theorem c131_64 : qx_code 131 64 = some (64, .if_icmp .ne 8, 67, 72, 0, 0) := by decide +kernel
theorem s131_64 {L : Nat} {xs : Nat → Int32} {d x : Nat} {M : qxM} {st : List Value} {ls : qxL} {z y : Int32} : Rs L xs (d) 131 64 ls (.int y :: .int z :: st) M x = if z = y then Rs L xs (d) 131 67 ls st M x else Rs L xs (d) 131 72 ls st M x := Rs_ite c131_64 rfl
theorem c131_67 : qx_code 131 67 = some (67, .iload 5, 69, 0, 0, 0) := by decide +kernel
theorem s131_67 {L : Nat} {xs : Nat → Int32} {d x : Nat} {M : qxM} {st : List Value} {a0 a1 a2 a3 a4 : Option Value} {z : Int32} : Rs L xs (d) 131 67 [a0, a1, a2, a3, a4, some (.int z)] st M x = Rs L xs (d) 131 69 [a0, a1, a2, a3, a4, some (.int z)] (.int z :: st) M x := Rs_next c131_67 rfl
theorem c131_69 : qx_code 131 69 = some (69, .goto 5, 72, 74, 0, 0) := by decide +kernel
theorem s131_69 {L : Nat} {xs : Nat → Int32} {d x : Nat} {M : qxM} {st : List Value} {ls : qxL} : Rs L xs (d) 131 69 ls st M x = Rs L xs (d) 131 74 ls st M x := Rs_next c131_69 rfl
theorem c131_72 : qx_code 131 72 = some (72, .iload 4, 74, 0, 0, 0) := by decide +kernel
theorem s131_72 {L : Nat} {xs : Nat → Int32} {d x : Nat} {M : qxM} {st : List Value} {a0 a1 a2 a3 a5 : Option Value} {z : Int32} : Rs L xs (d) 131 72 [a0, a1, a2, a3, some (.int z), a5] st M x = Rs L xs (d) 131 74 [a0, a1, a2, a3, some (.int z), a5] (.int z :: st) M x := Rs_next c131_72 rfl
theorem c131_74 : qx_code 131 74 = some (74, .ireturn, 75, 0, 0, 0) := by decide +kernel
theorem s131_74 {L : Nat} {xs : Nat → Int32} {d x : Nat} {M : qxM} {ls : qxL} {z : Int32} : Rs L xs (d) 131 74 ls [.int z] M x = some (.inl (some (.int z)), M, x) := Rs_ret c131_74 rfl
theorem c131_75 : qx_code 131 75 = some (75, .iload_n 3, 76, 0, 0, 0) := by decide +kernel
theorem s131_75 {L : Nat} {xs : Nat → Int32} {d x : Nat} {M : qxM} {st : List Value} {a0 a1 a2 a4 a5 : Option Value} {z : Int32} : Rs L xs (d) 131 75 [a0, a1, a2, some (.int z), a4, a5] st M x = Rs L xs (d) 131 76 [a0, a1, a2, some (.int z), a4, a5] (.int z :: st) M x := Rs_next c131_75 rfl
theorem c131_76 : qx_code 131 76 = some (76, .iload 4, 78, 0, 0, 0) := by decide +kernel
theorem s131_76 {L : Nat} {xs : Nat → Int32} {d x : Nat} {M : qxM} {st : List Value} {a0 a1 a2 a3 a5 : Option Value} {z : Int32} : Rs L xs (d) 131 76 [a0, a1, a2, a3, some (.int z), a5] st M x = Rs L xs (d) 131 78 [a0, a1, a2, a3, some (.int z), a5] (.int z :: st) M x := Rs_next c131_76 rfl
theorem c131_78 : qx_code 131 78 = some (78, .invokestatic 306, 81, 169, 1, 864) := by decide +kernel
theorem s131_78 {L : Nat} {xs : Nat → Int32} {d x : Nat} {M : qxM} {st : List Value} {ls : qxL} {z0 : Int32} (hs : st.length ≤ 4) : Rs L xs (d + 1) 131 78 ls (.int z0 :: st) M x = (Rs L xs d 169 0 [some (.int z0)] [] M 0).bind (qx_kn L xs (d + 1) 131 78 81 169 ls st x) := by
  have h1 : qx_act L xs (qx_rt 131) (78, .invokestatic 306, 81, 169, 1, 864) ls (.int z0 :: st) M = if 1 ≤ (.int z0 :: st).length ∧ st.length ≤ 4 then some (.inr (.inr (.inr (169, [.int z0], st)))) else none := rfl
  rw [if_pos ⟨by simp [List.length_cons]; try omega, hs⟩] at h1
  exact Rs_call c131_78 h1 rfl
theorem c131_81 : qx_code 131 81 = some (81, .iload 5, 83, 0, 0, 0) := by decide +kernel
theorem s131_81 {L : Nat} {xs : Nat → Int32} {d x : Nat} {M : qxM} {st : List Value} {a0 a1 a2 a3 a4 : Option Value} {z : Int32} : Rs L xs (d) 131 81 [a0, a1, a2, a3, a4, some (.int z)] st M x = Rs L xs (d) 131 83 [a0, a1, a2, a3, a4, some (.int z)] (.int z :: st) M x := Rs_next c131_81 rfl
theorem c131_83 : qx_code 131 83 = some (83, .invokestatic 306, 86, 169, 1, 864) := by decide +kernel
theorem s131_83 {L : Nat} {xs : Nat → Int32} {d x : Nat} {M : qxM} {st : List Value} {ls : qxL} {z0 : Int32} (hs : st.length ≤ 4) : Rs L xs (d + 1) 131 83 ls (.int z0 :: st) M x = (Rs L xs d 169 0 [some (.int z0)] [] M 0).bind (qx_kn L xs (d + 1) 131 83 86 169 ls st x) := by
  have h1 : qx_act L xs (qx_rt 131) (83, .invokestatic 306, 86, 169, 1, 864) ls (.int z0 :: st) M = if 1 ≤ (.int z0 :: st).length ∧ st.length ≤ 4 then some (.inr (.inr (.inr (169, [.int z0], st)))) else none := rfl
  rw [if_pos ⟨by simp [List.length_cons]; try omega, hs⟩] at h1
  exact Rs_call c131_83 h1 rfl
theorem c131_86 : qx_code 131 86 = some (86, .ior, 87, 0, 0, 0) := by decide +kernel
theorem s131_86 {L : Nat} {xs : Nat → Int32} {d x : Nat} {M : qxM} {st : List Value} {ls : qxL} {z y : Int32} : Rs L xs (d) 131 86 ls (.int y :: .int z :: st) M x = Rs L xs (d) 131 87 ls (.int (z ||| y) :: st) M x := Rs_next c131_86 rfl
theorem c131_87 : qx_code 131 87 = some (87, .iconst (-1), 88, 0, 0, 0) := by decide +kernel
theorem s131_87 {L : Nat} {xs : Nat → Int32} {d x : Nat} {M : qxM} {st : List Value} {ls : qxL} : Rs L xs (d) 131 87 ls st M x = Rs L xs (d) 131 88 ls (.int (-1) :: st) M x := Rs_next c131_87 rfl
theorem c131_88 : qx_code 131 88 = some (88, .ixor, 89, 0, 0, 0) := by decide +kernel
theorem s131_88 {L : Nat} {xs : Nat → Int32} {d x : Nat} {M : qxM} {st : List Value} {ls : qxL} {z y : Int32} : Rs L xs (d) 131 88 ls (.int y :: .int z :: st) M x = Rs L xs (d) 131 89 ls (.int (z ^^^ y) :: st) M x := Rs_next c131_88 rfl
theorem c131_89 : qx_code 131 89 = some (89, .iand, 90, 0, 0, 0) := by decide +kernel
theorem s131_89 {L : Nat} {xs : Nat → Int32} {d x : Nat} {M : qxM} {st : List Value} {ls : qxL} {z y : Int32} : Rs L xs (d) 131 89 ls (.int y :: .int z :: st) M x = Rs L xs (d) 131 90 ls (.int (z &&& y) :: st) M x := Rs_next c131_89 rfl
theorem c131_90 : qx_code 131 90 = some (90, .istore_n 3, 91, 0, 0, 0) := by decide +kernel
theorem s131_90i {L : Nat} {xs : Nat → Int32} {d x : Nat} {M : qxM} {st : List Value} {a0 a1 a3 a4 a5 : Option Value} {z : Int32} {y : Int32} : Rs L xs (d) 131 90 [a0, a1, some (.int y), a3, a4, a5] (.int z :: st) M x = Rs L xs (d) 131 91 [a0, a1, some (.int y), some (.int z), a4, a5] st M x := Rs_next c131_90 rfl
theorem s131_90r {L : Nat} {xs : Nat → Int32} {d x : Nat} {M : qxM} {st : List Value} {a0 a1 a3 a4 a5 : Option Value} {z : Int32} {y : Nat} : Rs L xs (d) 131 90 [a0, a1, some (.ref y), a3, a4, a5] (.int z :: st) M x = Rs L xs (d) 131 91 [a0, a1, some (.ref y), some (.int z), a4, a5] st M x := Rs_next c131_90 rfl
theorem s131_90n {L : Nat} {xs : Nat → Int32} {d x : Nat} {M : qxM} {st : List Value} {a0 a1 a3 a4 a5 : Option Value} {z : Int32} : Rs L xs (d) 131 90 [a0, a1, none, a3, a4, a5] (.int z :: st) M x = Rs L xs (d) 131 91 [a0, a1, none, some (.int z), a4, a5] st M x := Rs_next c131_90 rfl
theorem c131_91 : qx_code 131 91 = some (91, .iinc 4 1, 94, 0, 0, 0) := by decide +kernel
theorem s131_91i {L : Nat} {xs : Nat → Int32} {d x : Nat} {M : qxM} {st : List Value} {a0 a1 a2 a5 : Option Value} {z : Int32} {y : Int32} : Rs L xs (d) 131 91 [a0, a1, a2, some (.int y), some (.int z), a5] st M x = Rs L xs (d) 131 94 [a0, a1, a2, some (.int y), some (.int (z + (nI 1))), a5] st M x := Rs_next c131_91 rfl
theorem s131_91r {L : Nat} {xs : Nat → Int32} {d x : Nat} {M : qxM} {st : List Value} {a0 a1 a2 a5 : Option Value} {z : Int32} {y : Nat} : Rs L xs (d) 131 91 [a0, a1, a2, some (.ref y), some (.int z), a5] st M x = Rs L xs (d) 131 94 [a0, a1, a2, some (.ref y), some (.int (z + (nI 1))), a5] st M x := Rs_next c131_91 rfl
theorem s131_91n {L : Nat} {xs : Nat → Int32} {d x : Nat} {M : qxM} {st : List Value} {a0 a1 a2 a5 : Option Value} {z : Int32} : Rs L xs (d) 131 91 [a0, a1, a2, none, some (.int z), a5] st M x = Rs L xs (d) 131 94 [a0, a1, a2, none, some (.int (z + (nI 1))), a5] st M x := Rs_next c131_91 rfl
theorem c131_94 : qx_code 131 94 = some (94, .goto (-70), 97, 24, 0, 0) := by decide +kernel
theorem s131_94 {L : Nat} {xs : Nat → Int32} {d x : Nat} {M : qxM} {st : List Value} {ls : qxL} : Rs L xs (d) 131 94 ls st M x = Rs L xs (d) 131 24 ls st M x := Rs_next c131_94 rfl
theorem c131_97 : qx_code 131 97 = some (97, .iconst (-1), 98, 0, 0, 0) := by decide +kernel
theorem s131_97 {L : Nat} {xs : Nat → Int32} {d x : Nat} {M : qxM} {st : List Value} {ls : qxL} : Rs L xs (d) 131 97 ls st M x = Rs L xs (d) 131 98 ls (.int (-1) :: st) M x := Rs_next c131_97 rfl
theorem c131_98 : qx_code 131 98 = some (98, .ireturn, 99, 0, 0, 0) := by decide +kernel
theorem s131_98 {L : Nat} {xs : Nat → Int32} {d x : Nat} {M : qxM} {ls : qxL} {z : Int32} : Rs L xs (d) 131 98 ls [.int z] M x = some (.inl (some (.int z)), M, x) := Rs_ret c131_98 rfl
theorem c132_0 : qx_code 132 0 = some (0, .aload_n 0, 1, 0, 0, 0) := by decide +kernel
theorem s132_0 {L : Nat} {xs : Nat → Int32} {d x : Nat} {M : qxM} {st : List Value} {a1 : Option Value} {z : Nat} : Rs L xs (d) 132 0 [some (.ref z), a1] st M x = Rs L xs (d) 132 1 [some (.ref z), a1] (.ref z :: st) M x := Rs_next c132_0 rfl
theorem c132_1 : qx_code 132 1 = some (1, .iload_n 1, 2, 0, 0, 0) := by decide +kernel
theorem s132_1 {L : Nat} {xs : Nat → Int32} {d x : Nat} {M : qxM} {st : List Value} {a0 : Option Value} {z : Int32} : Rs L xs (d) 132 1 [a0, some (.int z)] st M x = Rs L xs (d) 132 2 [a0, some (.int z)] (.int z :: st) M x := Rs_next c132_1 rfl
theorem c132_2 : qx_code 132 2 = some (2, .invokevirtual 148, 5, 160, 2, 780) := by decide +kernel
theorem s132_2 {L : Nat} {xs : Nat → Int32} {d x : Nat} {M : qxM} {st : List Value} {ls : qxL} {t : Nat} {z0 : Int32} (hk : qx_kd t = 17) (hs : st.length ≤ 4) : Rs L xs (d + 1) 132 2 ls (.int z0 :: .ref t :: st) M x = (Rs L xs d 160 0 [some (.ref t), some (.int z0)] [] M 0).bind (qx_kn L xs (d + 1) 132 2 5 160 ls st x) := by
  have h1 : qx_act L xs (qx_rt 132) (2, .invokevirtual 148, 5, 160, 2, 780) ls (.int z0 :: .ref t :: st) M = if 2 ≤ (.int z0 :: .ref t :: st).length ∧ st.length ≤ 4 then some (.inr (.inr (.inr (160, [.ref t, .int z0], st)))) else none := rfl
  rw [if_pos ⟨by simp [List.length_cons]; try omega, hs⟩] at h1
  have h2 := qx_kd_obj (k := 7) (by decide) hk
  exact Rs_call c132_2 h1 (by rw [show qx_args 160 [.ref t, .int z0] = decide (qx_sh t = some (.inl 7)) from rfl]; exact decide_eq_true h2)
theorem c132_5 : qx_code 132 5 = some (5, .aload_n 0, 6, 0, 0, 0) := by decide +kernel
theorem s132_5 {L : Nat} {xs : Nat → Int32} {d x : Nat} {M : qxM} {st : List Value} {a1 : Option Value} {z : Nat} : Rs L xs (d) 132 5 [some (.ref z), a1] st M x = Rs L xs (d) 132 6 [some (.ref z), a1] (.ref z :: st) M x := Rs_next c132_5 rfl
theorem c132_6 : qx_code 132 6 = some (6, .invokevirtual 259, 9, 168, 1, 976) := by decide +kernel
theorem s132_6 {L : Nat} {xs : Nat → Int32} {d x : Nat} {M : qxM} {st : List Value} {ls : qxL} {t : Nat} (hk : qx_kd t = 17) (hs : st.length ≤ 4) : Rs L xs (d + 1) 132 6 ls (.ref t :: st) M x = (Rs L xs d 168 0 [some (.ref t)] [] M 0).bind (qx_kn L xs (d + 1) 132 6 9 168 ls st x) := by
  have h1 : qx_act L xs (qx_rt 132) (6, .invokevirtual 259, 9, 168, 1, 976) ls (.ref t :: st) M = if 1 ≤ (.ref t :: st).length ∧ st.length ≤ 4 then some (.inr (.inr (.inr (168, [.ref t], st)))) else none := rfl
  rw [if_pos ⟨by simp [List.length_cons]; try omega, hs⟩] at h1
  have h2 := qx_kd_obj (k := 7) (by decide) hk
  exact Rs_call c132_6 h1 (by rw [show qx_args 168 [.ref t] = decide (qx_sh t = some (.inl 7)) from rfl]; exact decide_eq_true h2)
theorem c132_9 : qx_code 132 9 = some (9, .iload_n 1, 10, 0, 0, 0) := by decide +kernel
theorem s132_9 {L : Nat} {xs : Nat → Int32} {d x : Nat} {M : qxM} {st : List Value} {a0 : Option Value} {z : Int32} : Rs L xs (d) 132 9 [a0, some (.int z)] st M x = Rs L xs (d) 132 10 [a0, some (.int z)] (.int z :: st) M x := Rs_next c132_9 rfl
theorem c132_10 : qx_code 132 10 = some (10, .iload_n 1, 11, 0, 0, 0) := by decide +kernel
theorem s132_10 {L : Nat} {xs : Nat → Int32} {d x : Nat} {M : qxM} {st : List Value} {a0 : Option Value} {z : Int32} : Rs L xs (d) 132 10 [a0, some (.int z)] st M x = Rs L xs (d) 132 11 [a0, some (.int z)] (.int z :: st) M x := Rs_next c132_10 rfl
theorem c132_11 : qx_code 132 11 = some (11, .invokevirtual 309, 14, 3, 3, 1192) := by decide +kernel
theorem s132_11 {L : Nat} {xs : Nat → Int32} {d x : Nat} {M : qxM} {st : List Value} {ls : qxL} {t : Nat} {z0 : Int32} {z1 : Int32} (hk : qx_kd t = 10) (hs : st.length ≤ 4) : Rs L xs (d + 1) 132 11 ls (.int z1 :: .int z0 :: .ref t :: st) M x = (Rs L xs d 3 0 [some (.ref t), some (.int z0), some (.int z1)] [] M 0).bind (qx_kn L xs (d + 1) 132 11 14 3 ls st x) := by
  have h1 : qx_act L xs (qx_rt 132) (11, .invokevirtual 309, 14, 3, 3, 1192) ls (.int z1 :: .int z0 :: .ref t :: st) M = if 3 ≤ (.int z1 :: .int z0 :: .ref t :: st).length ∧ st.length ≤ 4 then some (.inr (.inr (.inr (3, [.ref t, .int z0, .int z1], st)))) else none := rfl
  rw [if_pos ⟨by simp [List.length_cons]; try omega, hs⟩] at h1
  have h2 := qx_kd_obj (k := 0) (by decide) hk
  exact Rs_call c132_11 h1 (by rw [show qx_args 3 [.ref t, .int z0, .int z1] = decide (qx_sh t = some (.inl 0)) from rfl]; exact decide_eq_true h2)
theorem c132_14 : qx_code 132 14 = some (14, .ireturn, 15, 0, 0, 0) := by decide +kernel
theorem s132_14 {L : Nat} {xs : Nat → Int32} {d x : Nat} {M : qxM} {ls : qxL} {z : Int32} : Rs L xs (d) 132 14 ls [.int z] M x = some (.inl (some (.int z)), M, x) := Rs_ret c132_14 rfl
theorem c133_0 : qx_code 133 0 = some (0, .aload_n 0, 1, 0, 0, 0) := by decide +kernel
theorem s133_0 {L : Nat} {xs : Nat → Int32} {d x : Nat} {M : qxM} {st : List Value} {a1 a2 a3 a4 : Option Value} {z : Nat} : Rs L xs (d) 133 0 [some (.ref z), a1, a2, a3, a4] st M x = Rs L xs (d) 133 1 [some (.ref z), a1, a2, a3, a4] (.ref z :: st) M x := Rs_next c133_0 rfl
theorem c133_1 : qx_code 133 1 = some (1, .iload_n 1, 2, 0, 0, 0) := by decide +kernel
theorem s133_1 {L : Nat} {xs : Nat → Int32} {d x : Nat} {M : qxM} {st : List Value} {a0 a2 a3 a4 : Option Value} {z : Int32} : Rs L xs (d) 133 1 [a0, some (.int z), a2, a3, a4] st M x = Rs L xs (d) 133 2 [a0, some (.int z), a2, a3, a4] (.int z :: st) M x := Rs_next c133_1 rfl
theorem c133_2 : qx_code 133 2 = some (2, .iload_n 2, 3, 0, 0, 0) := by decide +kernel
theorem s133_2 {L : Nat} {xs : Nat → Int32} {d x : Nat} {M : qxM} {st : List Value} {a0 a1 a3 a4 : Option Value} {z : Int32} : Rs L xs (d) 133 2 [a0, a1, some (.int z), a3, a4] st M x = Rs L xs (d) 133 3 [a0, a1, some (.int z), a3, a4] (.int z :: st) M x := Rs_next c133_2 rfl
theorem c133_3 : qx_code 133 3 = some (3, .invokevirtual 163, 6, 161, 3, 799) := by decide +kernel
theorem s133_3 {L : Nat} {xs : Nat → Int32} {d x : Nat} {M : qxM} {st : List Value} {ls : qxL} {t : Nat} {z0 : Int32} {z1 : Int32} (hk : qx_kd t = 17) (hs : st.length ≤ 4) : Rs L xs (d + 1) 133 3 ls (.int z1 :: .int z0 :: .ref t :: st) M x = (Rs L xs d 161 0 [some (.ref t), some (.int z0), some (.int z1)] [] M 0).bind (qx_kn L xs (d + 1) 133 3 6 161 ls st x) := by
  have h1 : qx_act L xs (qx_rt 133) (3, .invokevirtual 163, 6, 161, 3, 799) ls (.int z1 :: .int z0 :: .ref t :: st) M = if 3 ≤ (.int z1 :: .int z0 :: .ref t :: st).length ∧ st.length ≤ 4 then some (.inr (.inr (.inr (161, [.ref t, .int z0, .int z1], st)))) else none := rfl
  rw [if_pos ⟨by simp [List.length_cons]; try omega, hs⟩] at h1
  have h2 := qx_kd_obj (k := 7) (by decide) hk
  exact Rs_call c133_3 h1 (by rw [show qx_args 161 [.ref t, .int z0, .int z1] = decide (qx_sh t = some (.inl 7)) from rfl]; exact decide_eq_true h2)
theorem c133_6 : qx_code 133 6 = some (6, .aload_n 0, 7, 0, 0, 0) := by decide +kernel
theorem s133_6 {L : Nat} {xs : Nat → Int32} {d x : Nat} {M : qxM} {st : List Value} {a1 a2 a3 a4 : Option Value} {z : Nat} : Rs L xs (d) 133 6 [some (.ref z), a1, a2, a3, a4] st M x = Rs L xs (d) 133 7 [some (.ref z), a1, a2, a3, a4] (.ref z :: st) M x := Rs_next c133_6 rfl
theorem c133_7 : qx_code 133 7 = some (7, .invokevirtual 259, 10, 168, 1, 976) := by decide +kernel
theorem s133_7 {L : Nat} {xs : Nat → Int32} {d x : Nat} {M : qxM} {st : List Value} {ls : qxL} {t : Nat} (hk : qx_kd t = 17) (hs : st.length ≤ 4) : Rs L xs (d + 1) 133 7 ls (.ref t :: st) M x = (Rs L xs d 168 0 [some (.ref t)] [] M 0).bind (qx_kn L xs (d + 1) 133 7 10 168 ls st x) := by
  have h1 : qx_act L xs (qx_rt 133) (7, .invokevirtual 259, 10, 168, 1, 976) ls (.ref t :: st) M = if 1 ≤ (.ref t :: st).length ∧ st.length ≤ 4 then some (.inr (.inr (.inr (168, [.ref t], st)))) else none := rfl
  rw [if_pos ⟨by simp [List.length_cons]; try omega, hs⟩] at h1
  have h2 := qx_kd_obj (k := 7) (by decide) hk
  exact Rs_call c133_7 h1 (by rw [show qx_args 168 [.ref t] = decide (qx_sh t = some (.inl 7)) from rfl]; exact decide_eq_true h2)
theorem c133_10 : qx_code 133 10 = some (10, .astore_n 3, 11, 0, 0, 0) := by decide +kernel
theorem s133_10i {L : Nat} {xs : Nat → Int32} {d x : Nat} {M : qxM} {st : List Value} {a0 a1 a3 a4 : Option Value} {z : Nat} {y : Int32} : Rs L xs (d) 133 10 [a0, a1, some (.int y), a3, a4] (.ref z :: st) M x = Rs L xs (d) 133 11 [a0, a1, some (.int y), some (.ref z), a4] st M x := Rs_next c133_10 rfl
theorem s133_10r {L : Nat} {xs : Nat → Int32} {d x : Nat} {M : qxM} {st : List Value} {a0 a1 a3 a4 : Option Value} {z : Nat} {y : Nat} : Rs L xs (d) 133 10 [a0, a1, some (.ref y), a3, a4] (.ref z :: st) M x = Rs L xs (d) 133 11 [a0, a1, some (.ref y), some (.ref z), a4] st M x := Rs_next c133_10 rfl
theorem s133_10n {L : Nat} {xs : Nat → Int32} {d x : Nat} {M : qxM} {st : List Value} {a0 a1 a3 a4 : Option Value} {z : Nat} : Rs L xs (d) 133 10 [a0, a1, none, a3, a4] (.ref z :: st) M x = Rs L xs (d) 133 11 [a0, a1, none, some (.ref z), a4] st M x := Rs_next c133_10 rfl
theorem c133_11 : qx_code 133 11 = some (11, .aload_n 3, 12, 0, 0, 0) := by decide +kernel
theorem s133_11 {L : Nat} {xs : Nat → Int32} {d x : Nat} {M : qxM} {st : List Value} {a0 a1 a2 a4 : Option Value} {z : Nat} : Rs L xs (d) 133 11 [a0, a1, a2, some (.ref z), a4] st M x = Rs L xs (d) 133 12 [a0, a1, a2, some (.ref z), a4] (.ref z :: st) M x := Rs_next c133_11 rfl
theorem c133_12 : qx_code 133 12 = some (12, .invokevirtual 263, 15, 1, 1, 994) := by decide +kernel
theorem s133_12 {L : Nat} {xs : Nat → Int32} {d x : Nat} {M : qxM} {st : List Value} {ls : qxL} {t : Nat} (hk : qx_kd t = 10) (hs : st.length ≤ 4) : Rs L xs (d + 1) 133 12 ls (.ref t :: st) M x = (Rs L xs d 1 0 [some (.ref t)] [] M 0).bind (qx_kn L xs (d + 1) 133 12 15 1 ls st x) := by
  have h1 : qx_act L xs (qx_rt 133) (12, .invokevirtual 263, 15, 1, 1, 994) ls (.ref t :: st) M = if 1 ≤ (.ref t :: st).length ∧ st.length ≤ 4 then some (.inr (.inr (.inr (1, [.ref t], st)))) else none := rfl
  rw [if_pos ⟨by simp [List.length_cons]; try omega, hs⟩] at h1
  have h2 := qx_kd_obj (k := 0) (by decide) hk
  exact Rs_call c133_12 h1 (by rw [show qx_args 1 [.ref t] = decide (qx_sh t = some (.inl 0)) from rfl]; exact decide_eq_true h2)
theorem c133_15 : qx_code 133 15 = some (15, .istore 4, 17, 0, 0, 0) := by decide +kernel
theorem s133_15i {L : Nat} {xs : Nat → Int32} {d x : Nat} {M : qxM} {st : List Value} {a0 a1 a2 a4 : Option Value} {z : Int32} {y : Int32} : Rs L xs (d) 133 15 [a0, a1, a2, some (.int y), a4] (.int z :: st) M x = Rs L xs (d) 133 17 [a0, a1, a2, some (.int y), some (.int z)] st M x := Rs_next c133_15 rfl
theorem s133_15r {L : Nat} {xs : Nat → Int32} {d x : Nat} {M : qxM} {st : List Value} {a0 a1 a2 a4 : Option Value} {z : Int32} {y : Nat} : Rs L xs (d) 133 15 [a0, a1, a2, some (.ref y), a4] (.int z :: st) M x = Rs L xs (d) 133 17 [a0, a1, a2, some (.ref y), some (.int z)] st M x := Rs_next c133_15 rfl
theorem s133_15n {L : Nat} {xs : Nat → Int32} {d x : Nat} {M : qxM} {st : List Value} {a0 a1 a2 a4 : Option Value} {z : Int32} : Rs L xs (d) 133 15 [a0, a1, a2, none, a4] (.int z :: st) M x = Rs L xs (d) 133 17 [a0, a1, a2, none, some (.int z)] st M x := Rs_next c133_15 rfl
theorem c133_17 : qx_code 133 17 = some (17, .iload_n 1, 18, 0, 0, 0) := by decide +kernel
theorem s133_17 {L : Nat} {xs : Nat → Int32} {d x : Nat} {M : qxM} {st : List Value} {a0 a2 a3 a4 : Option Value} {z : Int32} : Rs L xs (d) 133 17 [a0, some (.int z), a2, a3, a4] st M x = Rs L xs (d) 133 18 [a0, some (.int z), a2, a3, a4] (.int z :: st) M x := Rs_next c133_17 rfl
theorem c133_18 : qx_code 133 18 = some (18, .iload_n 2, 19, 0, 0, 0) := by decide +kernel
theorem s133_18 {L : Nat} {xs : Nat → Int32} {d x : Nat} {M : qxM} {st : List Value} {a0 a1 a3 a4 : Option Value} {z : Int32} : Rs L xs (d) 133 18 [a0, a1, some (.int z), a3, a4] st M x = Rs L xs (d) 133 19 [a0, a1, some (.int z), a3, a4] (.int z :: st) M x := Rs_next c133_18 rfl
theorem c133_19 : qx_code 133 19 = some (19, .if_icmp .eq 18, 22, 37, 0, 0) := by decide +kernel
theorem s133_19 {L : Nat} {xs : Nat → Int32} {d x : Nat} {M : qxM} {st : List Value} {ls : qxL} {z y : Int32} : Rs L xs (d) 133 19 ls (.int y :: .int z :: st) M x = if z = y then Rs L xs (d) 133 37 ls st M x else Rs L xs (d) 133 22 ls st M x := Rs_ite c133_19 rfl
theorem c133_22 : qx_code 133 22 = some (22, .aload_n 0, 23, 0, 0, 0) := by decide +kernel
theorem s133_22 {L : Nat} {xs : Nat → Int32} {d x : Nat} {M : qxM} {st : List Value} {a1 a2 a3 a4 : Option Value} {z : Nat} : Rs L xs (d) 133 22 [some (.ref z), a1, a2, a3, a4] st M x = Rs L xs (d) 133 23 [some (.ref z), a1, a2, a3, a4] (.ref z :: st) M x := Rs_next c133_22 rfl
theorem c133_23 : qx_code 133 23 = some (23, .getfield 33, 26, 7, 3, 384) := by decide +kernel
theorem s133_23 {L : Nat} {xs : Nat → Int32} {d x : Nat} {M : qxM} {st : List Value} {ls : qxL} {t : Nat} (hk : qx_kd t = 17) : Rs L xs (d) 133 23 ls (.ref t :: st) M x = Rs L xs (d) 133 26 ls (.ref (t + 90) :: st) M x := Rs_when (qx_kd_obj (k := 7) (by decide) hk) c133_23 rfl
theorem c133_26 : qx_code 133 26 = some (26, .getfield 93, 29, 4, 0, 356) := by decide +kernel
theorem s133_26 {L : Nat} {xs : Nat → Int32} {d x : Nat} {M : qxM} {st : List Value} {ls : qxL} {t : Nat} (hk : qx_kd t = 14) : Rs L xs (d) 133 26 ls (.ref t :: st) M x = Rs L xs (d) 133 29 ls (.ref (t + 1) :: st) M x := Rs_when (qx_kd_obj (k := 4) (by decide) hk) c133_26 rfl
theorem c133_29 : qx_code 133 29 = some (29, .iload_n 1, 30, 0, 0, 0) := by decide +kernel
theorem s133_29 {L : Nat} {xs : Nat → Int32} {d x : Nat} {M : qxM} {st : List Value} {a0 a2 a3 a4 : Option Value} {z : Int32} : Rs L xs (d) 133 29 [a0, some (.int z), a2, a3, a4] st M x = Rs L xs (d) 133 30 [a0, some (.int z), a2, a3, a4] (.int z :: st) M x := Rs_next c133_29 rfl
theorem c133_30 : qx_code 133 30 = some (30, .iload_n 2, 31, 0, 0, 0) := by decide +kernel
theorem s133_30 {L : Nat} {xs : Nat → Int32} {d x : Nat} {M : qxM} {st : List Value} {a0 a1 a3 a4 : Option Value} {z : Int32} : Rs L xs (d) 133 30 [a0, a1, some (.int z), a3, a4] st M x = Rs L xs (d) 133 31 [a0, a1, some (.int z), a3, a4] (.int z :: st) M x := Rs_next c133_30 rfl
theorem c133_31 : qx_code 133 31 = some (31, .invokevirtual 174, 34, 41, 3, 822) := by decide +kernel
theorem s133_31 {L : Nat} {xs : Nat → Int32} {d x : Nat} {M : qxM} {st : List Value} {ls : qxL} {t : Nat} {z0 : Int32} {z1 : Int32} (hk : qx_kd t = 12) (hs : st.length ≤ 4) : Rs L xs (d + 1) 133 31 ls (.int z1 :: .int z0 :: .ref t :: st) M x = (Rs L xs d 41 0 [some (.ref t), some (.int z0), some (.int z1)] [] M 0).bind (qx_kn L xs (d + 1) 133 31 34 41 ls st x) := by
  have h1 : qx_act L xs (qx_rt 133) (31, .invokevirtual 174, 34, 41, 3, 822) ls (.int z1 :: .int z0 :: .ref t :: st) M = if 3 ≤ (.int z1 :: .int z0 :: .ref t :: st).length ∧ st.length ≤ 4 then some (.inr (.inr (.inr (41, [.ref t, .int z0, .int z1], st)))) else none := rfl
  rw [if_pos ⟨by simp [List.length_cons]; try omega, hs⟩] at h1
  have h2 := qx_kd_obj (k := 2) (by decide) hk
  exact Rs_call c133_31 h1 (by rw [show qx_args 41 [.ref t, .int z0, .int z1] = decide (qx_sh t = some (.inl 2)) from rfl]; exact decide_eq_true h2)
theorem c133_34 : qx_code 133 34 = some (34, .ifCond .ne 6, 37, 40, 0, 0) := by decide +kernel
theorem s133_34 {L : Nat} {xs : Nat → Int32} {d x : Nat} {M : qxM} {st : List Value} {ls : qxL} {z : Int32} : Rs L xs (d) 133 34 ls (.int z :: st) M x = if z = 0 then Rs L xs (d) 133 37 ls st M x else Rs L xs (d) 133 40 ls st M x := Rs_ite c133_34 rfl
theorem c133_37 : qx_code 133 37 = some (37, .iload 4, 39, 0, 0, 0) := by decide +kernel
theorem s133_37 {L : Nat} {xs : Nat → Int32} {d x : Nat} {M : qxM} {st : List Value} {a0 a1 a2 a3 : Option Value} {z : Int32} : Rs L xs (d) 133 37 [a0, a1, a2, a3, some (.int z)] st M x = Rs L xs (d) 133 39 [a0, a1, a2, a3, some (.int z)] (.int z :: st) M x := Rs_next c133_37 rfl
theorem c133_39 : qx_code 133 39 = some (39, .ireturn, 40, 0, 0, 0) := by decide +kernel
theorem s133_39 {L : Nat} {xs : Nat → Int32} {d x : Nat} {M : qxM} {ls : qxL} {z : Int32} : Rs L xs (d) 133 39 ls [.int z] M x = some (.inl (some (.int z)), M, x) := Rs_ret c133_39 rfl
theorem c133_40 : qx_code 133 40 = some (40, .aload_n 0, 41, 0, 0, 0) := by decide +kernel
theorem s133_40 {L : Nat} {xs : Nat → Int32} {d x : Nat} {M : qxM} {st : List Value} {a1 a2 a3 a4 : Option Value} {z : Nat} : Rs L xs (d) 133 40 [some (.ref z), a1, a2, a3, a4] st M x = Rs L xs (d) 133 41 [some (.ref z), a1, a2, a3, a4] (.ref z :: st) M x := Rs_next c133_40 rfl
theorem c133_41 : qx_code 133 41 = some (41, .getfield 33, 44, 7, 3, 384) := by decide +kernel
theorem s133_41 {L : Nat} {xs : Nat → Int32} {d x : Nat} {M : qxM} {st : List Value} {ls : qxL} {t : Nat} (hk : qx_kd t = 17) : Rs L xs (d) 133 41 ls (.ref t :: st) M x = Rs L xs (d) 133 44 ls (.ref (t + 90) :: st) M x := Rs_when (qx_kd_obj (k := 7) (by decide) hk) c133_41 rfl
theorem c133_44 : qx_code 133 44 = some (44, .getfield 93, 47, 4, 0, 356) := by decide +kernel
theorem s133_44 {L : Nat} {xs : Nat → Int32} {d x : Nat} {M : qxM} {st : List Value} {ls : qxL} {t : Nat} (hk : qx_kd t = 14) : Rs L xs (d) 133 44 ls (.ref t :: st) M x = Rs L xs (d) 133 47 ls (.ref (t + 1) :: st) M x := Rs_when (qx_kd_obj (k := 4) (by decide) hk) c133_44 rfl
theorem c133_47 : qx_code 133 47 = some (47, .iload_n 1, 48, 0, 0, 0) := by decide +kernel
theorem s133_47 {L : Nat} {xs : Nat → Int32} {d x : Nat} {M : qxM} {st : List Value} {a0 a2 a3 a4 : Option Value} {z : Int32} : Rs L xs (d) 133 47 [a0, some (.int z), a2, a3, a4] st M x = Rs L xs (d) 133 48 [a0, some (.int z), a2, a3, a4] (.int z :: st) M x := Rs_next c133_47 rfl
theorem c133_48 : qx_code 133 48 = some (48, .invokevirtual 154, 51, 39, 2, 789) := by decide +kernel
theorem s133_48 {L : Nat} {xs : Nat → Int32} {d x : Nat} {M : qxM} {st : List Value} {ls : qxL} {t : Nat} {z0 : Int32} (hk : qx_kd t = 12) (hs : st.length ≤ 4) : Rs L xs (d + 1) 133 48 ls (.int z0 :: .ref t :: st) M x = (Rs L xs d 39 0 [some (.ref t), some (.int z0)] [] M 0).bind (qx_kn L xs (d + 1) 133 48 51 39 ls st x) := by
  have h1 : qx_act L xs (qx_rt 133) (48, .invokevirtual 154, 51, 39, 2, 789) ls (.int z0 :: .ref t :: st) M = if 2 ≤ (.int z0 :: .ref t :: st).length ∧ st.length ≤ 4 then some (.inr (.inr (.inr (39, [.ref t, .int z0], st)))) else none := rfl
  rw [if_pos ⟨by simp [List.length_cons]; try omega, hs⟩] at h1
  have h2 := qx_kd_obj (k := 2) (by decide) hk
  exact Rs_call c133_48 h1 (by rw [show qx_args 39 [.ref t, .int z0] = decide (qx_sh t = some (.inl 2)) from rfl]; exact decide_eq_true h2)
theorem c133_51 : qx_code 133 51 = some (51, .iload_n 2, 52, 0, 0, 0) := by decide +kernel
theorem s133_51 {L : Nat} {xs : Nat → Int32} {d x : Nat} {M : qxM} {st : List Value} {a0 a1 a3 a4 : Option Value} {z : Int32} : Rs L xs (d) 133 51 [a0, a1, some (.int z), a3, a4] st M x = Rs L xs (d) 133 52 [a0, a1, some (.int z), a3, a4] (.int z :: st) M x := Rs_next c133_51 rfl
theorem c133_52 : qx_code 133 52 = some (52, .invokestatic 166, 55, 170, 2, 803) := by decide +kernel
theorem s133_52 {L : Nat} {xs : Nat → Int32} {d x : Nat} {M : qxM} {st : List Value} {ls : qxL} {z0 : Int32} {z1 : Int32} (hs : st.length ≤ 4) : Rs L xs (d + 1) 133 52 ls (.int z1 :: .int z0 :: st) M x = (Rs L xs d 170 0 [some (.int z0), some (.int z1)] [] M 0).bind (qx_kn L xs (d + 1) 133 52 55 170 ls st x) := by
  have h1 : qx_act L xs (qx_rt 133) (52, .invokestatic 166, 55, 170, 2, 803) ls (.int z1 :: .int z0 :: st) M = if 2 ≤ (.int z1 :: .int z0 :: st).length ∧ st.length ≤ 4 then some (.inr (.inr (.inr (170, [.int z0, .int z1], st)))) else none := rfl
  rw [if_pos ⟨by simp [List.length_cons]; try omega, hs⟩] at h1
  exact Rs_call c133_52 h1 rfl
theorem c133_55 : qx_code 133 55 = some (55, .ifCond .eq 22, 58, 77, 0, 0) := by decide +kernel
theorem s133_55 {L : Nat} {xs : Nat → Int32} {d x : Nat} {M : qxM} {st : List Value} {ls : qxL} {z : Int32} : Rs L xs (d) 133 55 ls (.int z :: st) M x = if z = 0 then Rs L xs (d) 133 77 ls st M x else Rs L xs (d) 133 58 ls st M x := Rs_ite c133_55 rfl
theorem c133_58 : qx_code 133 58 = some (58, .aload_n 3, 59, 0, 0, 0) := by decide +kernel
theorem s133_58 {L : Nat} {xs : Nat → Int32} {d x : Nat} {M : qxM} {st : List Value} {a0 a1 a2 a4 : Option Value} {z : Nat} : Rs L xs (d) 133 58 [a0, a1, a2, some (.ref z), a4] st M x = Rs L xs (d) 133 59 [a0, a1, a2, some (.ref z), a4] (.ref z :: st) M x := Rs_next c133_58 rfl
theorem c133_59 : qx_code 133 59 = some (59, .iload_n 1, 60, 0, 0, 0) := by decide +kernel
theorem s133_59 {L : Nat} {xs : Nat → Int32} {d x : Nat} {M : qxM} {st : List Value} {a0 a2 a3 a4 : Option Value} {z : Int32} : Rs L xs (d) 133 59 [a0, some (.int z), a2, a3, a4] st M x = Rs L xs (d) 133 60 [a0, some (.int z), a2, a3, a4] (.int z :: st) M x := Rs_next c133_59 rfl
theorem c133_60 : qx_code 133 60 = some (60, .iload_n 2, 61, 0, 0, 0) := by decide +kernel
theorem s133_60 {L : Nat} {xs : Nat → Int32} {d x : Nat} {M : qxM} {st : List Value} {a0 a1 a3 a4 : Option Value} {z : Int32} : Rs L xs (d) 133 60 [a0, a1, some (.int z), a3, a4] st M x = Rs L xs (d) 133 61 [a0, a1, some (.int z), a3, a4] (.int z :: st) M x := Rs_next c133_60 rfl
theorem c133_61 : qx_code 133 61 = some (61, .invokevirtual 297, 64, 13, 3, 1157) := by decide +kernel
theorem s133_61 {L : Nat} {xs : Nat → Int32} {d x : Nat} {M : qxM} {st : List Value} {ls : qxL} {t : Nat} {z0 : Int32} {z1 : Int32} (hk : qx_kd t = 10) (hs : st.length ≤ 4) : Rs L xs (d + 1) 133 61 ls (.int z1 :: .int z0 :: .ref t :: st) M x = (Rs L xs d 13 0 [some (.ref t), some (.int z0), some (.int z1)] [] M 0).bind (qx_kn L xs (d + 1) 133 61 64 13 ls st x) := by
  have h1 : qx_act L xs (qx_rt 133) (61, .invokevirtual 297, 64, 13, 3, 1157) ls (.int z1 :: .int z0 :: .ref t :: st) M = if 3 ≤ (.int z1 :: .int z0 :: .ref t :: st).length ∧ st.length ≤ 4 then some (.inr (.inr (.inr (13, [.ref t, .int z0, .int z1], st)))) else none := rfl
  rw [if_pos ⟨by simp [List.length_cons]; try omega, hs⟩] at h1
  have h2 := qx_kd_obj (k := 0) (by decide) hk
  exact Rs_call c133_61 h1 (by rw [show qx_args 13 [.ref t, .int z0, .int z1] = decide (qx_sh t = some (.inl 0)) from rfl]; exact decide_eq_true h2)
theorem c133_64 : qx_code 133 64 = some (64, .ifCond .eq 10, 67, 74, 0, 0) := by decide +kernel
theorem s133_64 {L : Nat} {xs : Nat → Int32} {d x : Nat} {M : qxM} {st : List Value} {ls : qxL} {z : Int32} : Rs L xs (d) 133 64 ls (.int z :: st) M x = if z = 0 then Rs L xs (d) 133 74 ls st M x else Rs L xs (d) 133 67 ls st M x := Rs_ite c133_64 rfl
theorem c133_67 : qx_code 133 67 = some (67, .iload 4, 69, 0, 0, 0) := by decide +kernel
theorem s133_67 {L : Nat} {xs : Nat → Int32} {d x : Nat} {M : qxM} {st : List Value} {a0 a1 a2 a3 : Option Value} {z : Int32} : Rs L xs (d) 133 67 [a0, a1, a2, a3, some (.int z)] st M x = Rs L xs (d) 133 69 [a0, a1, a2, a3, some (.int z)] (.int z :: st) M x := Rs_next c133_67 rfl
theorem c133_69 : qx_code 133 69 = some (69, .iconst 1, 70, 0, 0, 0) := by decide +kernel
theorem s133_69 {L : Nat} {xs : Nat → Int32} {d x : Nat} {M : qxM} {st : List Value} {ls : qxL} : Rs L xs (d) 133 69 ls st M x = Rs L xs (d) 133 70 ls (.int (nI 1) :: st) M x := Rs_next c133_69 rfl
theorem c133_70 : qx_code 133 70 = some (70, .isub, 71, 0, 0, 0) := by decide +kernel
theorem s133_70 {L : Nat} {xs : Nat → Int32} {d x : Nat} {M : qxM} {st : List Value} {ls : qxL} {z y : Int32} : Rs L xs (d) 133 70 ls (.int y :: .int z :: st) M x = Rs L xs (d) 133 71 ls (.int (z - y) :: st) M x := Rs_next c133_70 rfl
theorem c133_71 : qx_code 133 71 = some (71, .goto 5, 74, 76, 0, 0) := by decide +kernel
theorem s133_71 {L : Nat} {xs : Nat → Int32} {d x : Nat} {M : qxM} {st : List Value} {ls : qxL} : Rs L xs (d) 133 71 ls st M x = Rs L xs (d) 133 76 ls st M x := Rs_next c133_71 rfl
theorem c133_74 : qx_code 133 74 = some (74, .iload 4, 76, 0, 0, 0) := by decide +kernel
theorem s133_74 {L : Nat} {xs : Nat → Int32} {d x : Nat} {M : qxM} {st : List Value} {a0 a1 a2 a3 : Option Value} {z : Int32} : Rs L xs (d) 133 74 [a0, a1, a2, a3, some (.int z)] st M x = Rs L xs (d) 133 76 [a0, a1, a2, a3, some (.int z)] (.int z :: st) M x := Rs_next c133_74 rfl
theorem c133_76 : qx_code 133 76 = some (76, .ireturn, 77, 0, 0, 0) := by decide +kernel
theorem s133_76 {L : Nat} {xs : Nat → Int32} {d x : Nat} {M : qxM} {ls : qxL} {z : Int32} : Rs L xs (d) 133 76 ls [.int z] M x = some (.inl (some (.int z)), M, x) := Rs_ret c133_76 rfl
theorem c133_77 : qx_code 133 77 = some (77, .iload 4, 79, 0, 0, 0) := by decide +kernel
theorem s133_77 {L : Nat} {xs : Nat → Int32} {d x : Nat} {M : qxM} {st : List Value} {a0 a1 a2 a3 : Option Value} {z : Int32} : Rs L xs (d) 133 77 [a0, a1, a2, a3, some (.int z)] st M x = Rs L xs (d) 133 79 [a0, a1, a2, a3, some (.int z)] (.int z :: st) M x := Rs_next c133_77 rfl
theorem c133_79 : qx_code 133 79 = some (79, .aload_n 3, 80, 0, 0, 0) := by decide +kernel
theorem s133_79 {L : Nat} {xs : Nat → Int32} {d x : Nat} {M : qxM} {st : List Value} {a0 a1 a2 a4 : Option Value} {z : Nat} : Rs L xs (d) 133 79 [a0, a1, a2, some (.ref z), a4] st M x = Rs L xs (d) 133 80 [a0, a1, a2, some (.ref z), a4] (.ref z :: st) M x := Rs_next c133_79 rfl
theorem c133_80 : qx_code 133 80 = some (80, .iload_n 1, 81, 0, 0, 0) := by decide +kernel
theorem s133_80 {L : Nat} {xs : Nat → Int32} {d x : Nat} {M : qxM} {st : List Value} {a0 a2 a3 a4 : Option Value} {z : Int32} : Rs L xs (d) 133 80 [a0, some (.int z), a2, a3, a4] st M x = Rs L xs (d) 133 81 [a0, some (.int z), a2, a3, a4] (.int z :: st) M x := Rs_next c133_80 rfl
theorem c133_81 : qx_code 133 81 = some (81, .iload_n 2, 82, 0, 0, 0) := by decide +kernel
theorem s133_81 {L : Nat} {xs : Nat → Int32} {d x : Nat} {M : qxM} {st : List Value} {a0 a1 a3 a4 : Option Value} {z : Int32} : Rs L xs (d) 133 81 [a0, a1, some (.int z), a3, a4] st M x = Rs L xs (d) 133 82 [a0, a1, some (.int z), a3, a4] (.int z :: st) M x := Rs_next c133_81 rfl
theorem c133_82 : qx_code 133 82 = some (82, .invokevirtual 309, 85, 3, 3, 1192) := by decide +kernel
theorem s133_82 {L : Nat} {xs : Nat → Int32} {d x : Nat} {M : qxM} {st : List Value} {ls : qxL} {t : Nat} {z0 : Int32} {z1 : Int32} (hk : qx_kd t = 10) (hs : st.length ≤ 4) : Rs L xs (d + 1) 133 82 ls (.int z1 :: .int z0 :: .ref t :: st) M x = (Rs L xs d 3 0 [some (.ref t), some (.int z0), some (.int z1)] [] M 0).bind (qx_kn L xs (d + 1) 133 82 85 3 ls st x) := by
  have h1 : qx_act L xs (qx_rt 133) (82, .invokevirtual 309, 85, 3, 3, 1192) ls (.int z1 :: .int z0 :: .ref t :: st) M = if 3 ≤ (.int z1 :: .int z0 :: .ref t :: st).length ∧ st.length ≤ 4 then some (.inr (.inr (.inr (3, [.ref t, .int z0, .int z1], st)))) else none := rfl
  rw [if_pos ⟨by simp [List.length_cons]; try omega, hs⟩] at h1
  have h2 := qx_kd_obj (k := 0) (by decide) hk
  exact Rs_call c133_82 h1 (by rw [show qx_args 3 [.ref t, .int z0, .int z1] = decide (qx_sh t = some (.inl 0)) from rfl]; exact decide_eq_true h2)
theorem c133_85 : qx_code 133 85 = some (85, .iconst 1, 86, 0, 0, 0) := by decide +kernel
theorem s133_85 {L : Nat} {xs : Nat → Int32} {d x : Nat} {M : qxM} {st : List Value} {ls : qxL} : Rs L xs (d) 133 85 ls st M x = Rs L xs (d) 133 86 ls (.int (nI 1) :: st) M x := Rs_next c133_85 rfl
theorem c133_86 : qx_code 133 86 = some (86, .iadd, 87, 0, 0, 0) := by decide +kernel
theorem s133_86 {L : Nat} {xs : Nat → Int32} {d x : Nat} {M : qxM} {st : List Value} {ls : qxL} {z y : Int32} : Rs L xs (d) 133 86 ls (.int y :: .int z :: st) M x = Rs L xs (d) 133 87 ls (.int (z + y) :: st) M x := Rs_next c133_86 rfl
theorem c133_87 : qx_code 133 87 = some (87, .invokestatic 312, 90, 1002, 2, 1200) := by decide +kernel
theorem s133_87 {L : Nat} {xs : Nat → Int32} {d x : Nat} {M : qxM} {st : List Value} {ls : qxL} {z y : Int32} (hs : st.length ≤ 4) : Rs L xs (d) 133 87 ls (.int y :: .int z :: st) M x = Rs L xs (d) 133 90 ls (.int (if z < y then y else z) :: st) M x := Rs_when hs c133_87 rfl
theorem c133_90 : qx_code 133 90 = some (90, .ireturn, 91, 0, 0, 0) := by decide +kernel
theorem s133_90 {L : Nat} {xs : Nat → Int32} {d x : Nat} {M : qxM} {ls : qxL} {z : Int32} : Rs L xs (d) 133 90 ls [.int z] M x = some (.inl (some (.int z)), M, x) := Rs_ret c133_90 rfl
theorem c134_0 : qx_code 134 0 = some (0, .aload_n 0, 1, 0, 0, 0) := by decide +kernel
theorem s134_0 {L : Nat} {xs : Nat → Int32} {d x : Nat} {M : qxM} {st : List Value} {a1 : Option Value} {z : Nat} : Rs L xs (d) 134 0 [some (.ref z), a1] st M x = Rs L xs (d) 134 1 [some (.ref z), a1] (.ref z :: st) M x := Rs_next c134_0 rfl
theorem c134_1 : qx_code 134 1 = some (1, .invokevirtual 107, 4, 159, 1, 728) := by decide +kernel
theorem s134_1 {L : Nat} {xs : Nat → Int32} {d x : Nat} {M : qxM} {st : List Value} {ls : qxL} {t : Nat} (hk : qx_kd t = 17) (hs : st.length ≤ 4) : Rs L xs (d + 1) 134 1 ls (.ref t :: st) M x = (Rs L xs d 159 0 [some (.ref t)] [] M 0).bind (qx_kn L xs (d + 1) 134 1 4 159 ls st x) := by
  have h1 : qx_act L xs (qx_rt 134) (1, .invokevirtual 107, 4, 159, 1, 728) ls (.ref t :: st) M = if 1 ≤ (.ref t :: st).length ∧ st.length ≤ 4 then some (.inr (.inr (.inr (159, [.ref t], st)))) else none := rfl
  rw [if_pos ⟨by simp [List.length_cons]; try omega, hs⟩] at h1
  have h2 := qx_kd_obj (k := 7) (by decide) hk
  exact Rs_call c134_1 h1 (by rw [show qx_args 159 [.ref t] = decide (qx_sh t = some (.inl 7)) from rfl]; exact decide_eq_true h2)
theorem c134_4 : qx_code 134 4 = some (4, .aload_n 0, 5, 0, 0, 0) := by decide +kernel
theorem s134_4 {L : Nat} {xs : Nat → Int32} {d x : Nat} {M : qxM} {st : List Value} {a1 : Option Value} {z : Nat} : Rs L xs (d) 134 4 [some (.ref z), a1] st M x = Rs L xs (d) 134 5 [some (.ref z), a1] (.ref z :: st) M x := Rs_next c134_4 rfl
theorem c134_5 : qx_code 134 5 = some (5, .iload_n 1, 6, 0, 0, 0) := by decide +kernel
theorem s134_5 {L : Nat} {xs : Nat → Int32} {d x : Nat} {M : qxM} {st : List Value} {a0 : Option Value} {z : Int32} : Rs L xs (d) 134 5 [a0, some (.int z)] st M x = Rs L xs (d) 134 6 [a0, some (.int z)] (.int z :: st) M x := Rs_next c134_5 rfl
theorem c134_6 : qx_code 134 6 = some (6, .iconst 2, 7, 0, 0, 0) := by decide +kernel
theorem s134_6 {L : Nat} {xs : Nat → Int32} {d x : Nat} {M : qxM} {st : List Value} {ls : qxL} : Rs L xs (d) 134 6 ls st M x = Rs L xs (d) 134 7 ls (.int (nI 2) :: st) M x := Rs_next c134_6 rfl
theorem c134_7 : qx_code 134 7 = some (7, .invokevirtual 110, 10, 162, 3, 748) := by decide +kernel
theorem s134_7 {L : Nat} {xs : Nat → Int32} {d x : Nat} {M : qxM} {st : List Value} {ls : qxL} {t : Nat} {z0 : Int32} {z1 : Int32} (hk : qx_kd t = 17) (hs : st.length ≤ 4) : Rs L xs (d + 1) 134 7 ls (.int z1 :: .int z0 :: .ref t :: st) M x = (Rs L xs d 162 0 [some (.ref t), some (.int z0), some (.int z1)] [] M 0).bind (qx_kn L xs (d + 1) 134 7 10 162 ls st x) := by
  have h1 : qx_act L xs (qx_rt 134) (7, .invokevirtual 110, 10, 162, 3, 748) ls (.int z1 :: .int z0 :: .ref t :: st) M = if 3 ≤ (.int z1 :: .int z0 :: .ref t :: st).length ∧ st.length ≤ 4 then some (.inr (.inr (.inr (162, [.ref t, .int z0, .int z1], st)))) else none := rfl
  rw [if_pos ⟨by simp [List.length_cons]; try omega, hs⟩] at h1
  have h2 := qx_kd_obj (k := 7) (by decide) hk
  exact Rs_call c134_7 h1 (by rw [show qx_args 162 [.ref t, .int z0, .int z1] = decide (qx_sh t = some (.inl 7)) from rfl]; exact decide_eq_true h2)
theorem c134_10 : qx_code 134 10 = some (10, .aload_n 0, 11, 0, 0, 0) := by decide +kernel
theorem s134_10 {L : Nat} {xs : Nat → Int32} {d x : Nat} {M : qxM} {st : List Value} {a1 : Option Value} {z : Nat} : Rs L xs (d) 134 10 [some (.ref z), a1] st M x = Rs L xs (d) 134 11 [some (.ref z), a1] (.ref z :: st) M x := Rs_next c134_10 rfl
theorem c134_11 : qx_code 134 11 = some (11, .getfield 26, 14, 7, 2, 383) := by decide +kernel
theorem s134_11 {L : Nat} {xs : Nat → Int32} {d x : Nat} {M : qxM} {st : List Value} {ls : qxL} {t : Nat} (hk : qx_kd t = 17) : Rs L xs (d) 134 11 ls (.ref t :: st) M x = Rs L xs (d) 134 14 ls (.ref (t + 30) :: st) M x := Rs_when (qx_kd_obj (k := 7) (by decide) hk) c134_11 rfl
theorem c134_14 : qx_code 134 14 = some (14, .aload_n 0, 15, 0, 0, 0) := by decide +kernel
theorem s134_14 {L : Nat} {xs : Nat → Int32} {d x : Nat} {M : qxM} {st : List Value} {a1 : Option Value} {z : Nat} : Rs L xs (d) 134 14 [some (.ref z), a1] st M x = Rs L xs (d) 134 15 [some (.ref z), a1] (.ref z :: st) M x := Rs_next c134_14 rfl
theorem c134_15 : qx_code 134 15 = some (15, .getfield 33, 18, 7, 3, 384) := by decide +kernel
theorem s134_15 {L : Nat} {xs : Nat → Int32} {d x : Nat} {M : qxM} {st : List Value} {ls : qxL} {t : Nat} (hk : qx_kd t = 17) : Rs L xs (d) 134 15 ls (.ref t :: st) M x = Rs L xs (d) 134 18 ls (.ref (t + 90) :: st) M x := Rs_when (qx_kd_obj (k := 7) (by decide) hk) c134_15 rfl
theorem c134_18 : qx_code 134 18 = some (18, .getfield 93, 21, 4, 0, 356) := by decide +kernel
theorem s134_18 {L : Nat} {xs : Nat → Int32} {d x : Nat} {M : qxM} {st : List Value} {ls : qxL} {t : Nat} (hk : qx_kd t = 14) : Rs L xs (d) 134 18 ls (.ref t :: st) M x = Rs L xs (d) 134 21 ls (.ref (t + 1) :: st) M x := Rs_when (qx_kd_obj (k := 4) (by decide) hk) c134_18 rfl
theorem c134_21 : qx_code 134 21 = some (21, .iload_n 1, 22, 0, 0, 0) := by decide +kernel
theorem s134_21 {L : Nat} {xs : Nat → Int32} {d x : Nat} {M : qxM} {st : List Value} {a0 : Option Value} {z : Int32} : Rs L xs (d) 134 21 [a0, some (.int z)] st M x = Rs L xs (d) 134 22 [a0, some (.int z)] (.int z :: st) M x := Rs_next c134_21 rfl
theorem c134_22 : qx_code 134 22 = some (22, .invokevirtual 317, 25, 0, 3, 980) := by decide +kernel
theorem s134_22 {L : Nat} {xs : Nat → Int32} {d x : Nat} {M : qxM} {st : List Value} {ls : qxL} {t : Nat} {z0 : Nat} {z1 : Int32} (hk : qx_kd t = 10) (hs : st.length ≤ 4) : Rs L xs (d + 1) 134 22 ls (.int z1 :: .ref z0 :: .ref t :: st) M x = (Rs L xs d 0 0 [some (.ref t), some (.ref z0), some (.int z1), none, none, none] [] M 0).bind (qx_kn L xs (d + 1) 134 22 25 0 ls st x) := by
  have h1 : qx_act L xs (qx_rt 134) (22, .invokevirtual 317, 25, 0, 3, 980) ls (.int z1 :: .ref z0 :: .ref t :: st) M = if 3 ≤ (.int z1 :: .ref z0 :: .ref t :: st).length ∧ st.length ≤ 4 then some (.inr (.inr (.inr (0, [.ref t, .ref z0, .int z1], st)))) else none := rfl
  rw [if_pos ⟨by simp [List.length_cons]; try omega, hs⟩] at h1
  have h2 := qx_kd_obj (k := 0) (by decide) hk
  exact Rs_call c134_22 h1 (by rw [show qx_args 0 [.ref t, .ref z0, .int z1] = decide (qx_sh t = some (.inl 0)) from rfl]; exact decide_eq_true h2)
theorem c134_25 : qx_code 134 25 = some (25, .aload_n 0, 26, 0, 0, 0) := by decide +kernel
theorem s134_25 {L : Nat} {xs : Nat → Int32} {d x : Nat} {M : qxM} {st : List Value} {a1 : Option Value} {z : Nat} : Rs L xs (d) 134 25 [some (.ref z), a1] st M x = Rs L xs (d) 134 26 [some (.ref z), a1] (.ref z :: st) M x := Rs_next c134_25 rfl
theorem c134_26 : qx_code 134 26 = some (26, .getfield 26, 29, 7, 2, 383) := by decide +kernel
theorem s134_26 {L : Nat} {xs : Nat → Int32} {d x : Nat} {M : qxM} {st : List Value} {ls : qxL} {t : Nat} (hk : qx_kd t = 17) : Rs L xs (d) 134 26 ls (.ref t :: st) M x = Rs L xs (d) 134 29 ls (.ref (t + 30) :: st) M x := Rs_when (qx_kd_obj (k := 7) (by decide) hk) c134_26 rfl
theorem c134_29 : qx_code 134 29 = some (29, .invokevirtual 263, 32, 1, 1, 994) := by decide +kernel
theorem s134_29 {L : Nat} {xs : Nat → Int32} {d x : Nat} {M : qxM} {st : List Value} {ls : qxL} {t : Nat} (hk : qx_kd t = 10) (hs : st.length ≤ 4) : Rs L xs (d + 1) 134 29 ls (.ref t :: st) M x = (Rs L xs d 1 0 [some (.ref t)] [] M 0).bind (qx_kn L xs (d + 1) 134 29 32 1 ls st x) := by
  have h1 : qx_act L xs (qx_rt 134) (29, .invokevirtual 263, 32, 1, 1, 994) ls (.ref t :: st) M = if 1 ≤ (.ref t :: st).length ∧ st.length ≤ 4 then some (.inr (.inr (.inr (1, [.ref t], st)))) else none := rfl
  rw [if_pos ⟨by simp [List.length_cons]; try omega, hs⟩] at h1
  have h2 := qx_kd_obj (k := 0) (by decide) hk
  exact Rs_call c134_29 h1 (by rw [show qx_args 1 [.ref t] = decide (qx_sh t = some (.inl 0)) from rfl]; exact decide_eq_true h2)
theorem c134_32 : qx_code 134 32 = some (32, .ireturn, 33, 0, 0, 0) := by decide +kernel
theorem s134_32 {L : Nat} {xs : Nat → Int32} {d x : Nat} {M : qxM} {ls : qxL} {z : Int32} : Rs L xs (d) 134 32 ls [.int z] M x = some (.inl (some (.int z)), M, x) := Rs_ret c134_32 rfl
theorem c135_0 : qx_code 135 0 = some (0, .aload_n 0, 1, 0, 0, 0) := by decide +kernel
theorem s135_0 {L : Nat} {xs : Nat → Int32} {d x : Nat} {M : qxM} {st : List Value} {z : Nat} : Rs L xs (d) 135 0 [some (.ref z)] st M x = Rs L xs (d) 135 1 [some (.ref z)] (.ref z :: st) M x := Rs_next c135_0 rfl
theorem c135_1 : qx_code 135 1 = some (1, .invokevirtual 107, 4, 159, 1, 728) := by decide +kernel
theorem s135_1 {L : Nat} {xs : Nat → Int32} {d x : Nat} {M : qxM} {st : List Value} {ls : qxL} {t : Nat} (hk : qx_kd t = 17) (hs : st.length ≤ 4) : Rs L xs (d + 1) 135 1 ls (.ref t :: st) M x = (Rs L xs d 159 0 [some (.ref t)] [] M 0).bind (qx_kn L xs (d + 1) 135 1 4 159 ls st x) := by
  have h1 : qx_act L xs (qx_rt 135) (1, .invokevirtual 107, 4, 159, 1, 728) ls (.ref t :: st) M = if 1 ≤ (.ref t :: st).length ∧ st.length ≤ 4 then some (.inr (.inr (.inr (159, [.ref t], st)))) else none := rfl
  rw [if_pos ⟨by simp [List.length_cons]; try omega, hs⟩] at h1
  have h2 := qx_kd_obj (k := 7) (by decide) hk
  exact Rs_call c135_1 h1 (by rw [show qx_args 159 [.ref t] = decide (qx_sh t = some (.inl 7)) from rfl]; exact decide_eq_true h2)
theorem c135_4 : qx_code 135 4 = some (4, .iconst 0, 5, 0, 0, 0) := by decide +kernel
theorem s135_4 {L : Nat} {xs : Nat → Int32} {d x : Nat} {M : qxM} {st : List Value} {ls : qxL} : Rs L xs (d) 135 4 ls st M x = Rs L xs (d) 135 5 ls (.int (nI 0) :: st) M x := Rs_next c135_4 rfl
theorem c135_5 : qx_code 135 5 = some (5, .ireturn, 6, 0, 0, 0) := by decide +kernel
theorem s135_5 {L : Nat} {xs : Nat → Int32} {d x : Nat} {M : qxM} {ls : qxL} {z : Int32} : Rs L xs (d) 135 5 ls [.int z] M x = some (.inl (some (.int z)), M, x) := Rs_ret c135_5 rfl
theorem c136_0 : qx_code 136 0 = some (0, .aload_n 0, 1, 0, 0, 0) := by decide +kernel
theorem s136_0 {L : Nat} {xs : Nat → Int32} {d x : Nat} {M : qxM} {st : List Value} {a1 a2 a3 a4 a5 a6 : Option Value} {z : Nat} : Rs L xs (d) 136 0 [some (.ref z), a1, a2, a3, a4, a5, a6] st M x = Rs L xs (d) 136 1 [some (.ref z), a1, a2, a3, a4, a5, a6] (.ref z :: st) M x := Rs_next c136_0 rfl
theorem c136_1 : qx_code 136 1 = some (1, .invokevirtual 107, 4, 159, 1, 728) := by decide +kernel
theorem s136_1 {L : Nat} {xs : Nat → Int32} {d x : Nat} {M : qxM} {st : List Value} {ls : qxL} {t : Nat} (hk : qx_kd t = 17) (hs : st.length ≤ 4) : Rs L xs (d + 1) 136 1 ls (.ref t :: st) M x = (Rs L xs d 159 0 [some (.ref t)] [] M 0).bind (qx_kn L xs (d + 1) 136 1 4 159 ls st x) := by
  have h1 : qx_act L xs (qx_rt 136) (1, .invokevirtual 107, 4, 159, 1, 728) ls (.ref t :: st) M = if 1 ≤ (.ref t :: st).length ∧ st.length ≤ 4 then some (.inr (.inr (.inr (159, [.ref t], st)))) else none := rfl
  rw [if_pos ⟨by simp [List.length_cons]; try omega, hs⟩] at h1
  have h2 := qx_kd_obj (k := 7) (by decide) hk
  exact Rs_call c136_1 h1 (by rw [show qx_args 159 [.ref t] = decide (qx_sh t = some (.inl 7)) from rfl]; exact decide_eq_true h2)
theorem c136_4 : qx_code 136 4 = some (4, .aload_n 0, 5, 0, 0, 0) := by decide +kernel
theorem s136_4 {L : Nat} {xs : Nat → Int32} {d x : Nat} {M : qxM} {st : List Value} {a1 a2 a3 a4 a5 a6 : Option Value} {z : Nat} : Rs L xs (d) 136 4 [some (.ref z), a1, a2, a3, a4, a5, a6] st M x = Rs L xs (d) 136 5 [some (.ref z), a1, a2, a3, a4, a5, a6] (.ref z :: st) M x := Rs_next c136_4 rfl
theorem c136_5 : qx_code 136 5 = some (5, .invokevirtual 259, 8, 168, 1, 976) := by decide +kernel
theorem s136_5 {L : Nat} {xs : Nat → Int32} {d x : Nat} {M : qxM} {st : List Value} {ls : qxL} {t : Nat} (hk : qx_kd t = 17) (hs : st.length ≤ 4) : Rs L xs (d + 1) 136 5 ls (.ref t :: st) M x = (Rs L xs d 168 0 [some (.ref t)] [] M 0).bind (qx_kn L xs (d + 1) 136 5 8 168 ls st x) := by
  have h1 : qx_act L xs (qx_rt 136) (5, .invokevirtual 259, 8, 168, 1, 976) ls (.ref t :: st) M = if 1 ≤ (.ref t :: st).length ∧ st.length ≤ 4 then some (.inr (.inr (.inr (168, [.ref t], st)))) else none := rfl
  rw [if_pos ⟨by simp [List.length_cons]; try omega, hs⟩] at h1
  have h2 := qx_kd_obj (k := 7) (by decide) hk
  exact Rs_call c136_5 h1 (by rw [show qx_args 168 [.ref t] = decide (qx_sh t = some (.inl 7)) from rfl]; exact decide_eq_true h2)
theorem c136_8 : qx_code 136 8 = some (8, .astore_n 1, 9, 0, 0, 0) := by decide +kernel
theorem s136_8i {L : Nat} {xs : Nat → Int32} {d x : Nat} {M : qxM} {st : List Value} {a1 a2 a3 a4 a5 a6 : Option Value} {z : Nat} {y : Int32} : Rs L xs (d) 136 8 [some (.int y), a1, a2, a3, a4, a5, a6] (.ref z :: st) M x = Rs L xs (d) 136 9 [some (.int y), some (.ref z), a2, a3, a4, a5, a6] st M x := Rs_next c136_8 rfl
theorem s136_8r {L : Nat} {xs : Nat → Int32} {d x : Nat} {M : qxM} {st : List Value} {a1 a2 a3 a4 a5 a6 : Option Value} {z : Nat} {y : Nat} : Rs L xs (d) 136 8 [some (.ref y), a1, a2, a3, a4, a5, a6] (.ref z :: st) M x = Rs L xs (d) 136 9 [some (.ref y), some (.ref z), a2, a3, a4, a5, a6] st M x := Rs_next c136_8 rfl
theorem s136_8n {L : Nat} {xs : Nat → Int32} {d x : Nat} {M : qxM} {st : List Value} {a1 a2 a3 a4 a5 a6 : Option Value} {z : Nat} : Rs L xs (d) 136 8 [none, a1, a2, a3, a4, a5, a6] (.ref z :: st) M x = Rs L xs (d) 136 9 [none, some (.ref z), a2, a3, a4, a5, a6] st M x := Rs_next c136_8 rfl
theorem c136_9 : qx_code 136 9 = some (9, .aload_n 1, 10, 0, 0, 0) := by decide +kernel
theorem s136_9 {L : Nat} {xs : Nat → Int32} {d x : Nat} {M : qxM} {st : List Value} {a0 a2 a3 a4 a5 a6 : Option Value} {z : Nat} : Rs L xs (d) 136 9 [a0, some (.ref z), a2, a3, a4, a5, a6] st M x = Rs L xs (d) 136 10 [a0, some (.ref z), a2, a3, a4, a5, a6] (.ref z :: st) M x := Rs_next c136_9 rfl
theorem c136_10 : qx_code 136 10 = some (10, .invokevirtual 263, 13, 1, 1, 994) := by decide +kernel
theorem s136_10 {L : Nat} {xs : Nat → Int32} {d x : Nat} {M : qxM} {st : List Value} {ls : qxL} {t : Nat} (hk : qx_kd t = 10) (hs : st.length ≤ 4) : Rs L xs (d + 1) 136 10 ls (.ref t :: st) M x = (Rs L xs d 1 0 [some (.ref t)] [] M 0).bind (qx_kn L xs (d + 1) 136 10 13 1 ls st x) := by
  have h1 : qx_act L xs (qx_rt 136) (10, .invokevirtual 263, 13, 1, 1, 994) ls (.ref t :: st) M = if 1 ≤ (.ref t :: st).length ∧ st.length ≤ 4 then some (.inr (.inr (.inr (1, [.ref t], st)))) else none := rfl
  rw [if_pos ⟨by simp [List.length_cons]; try omega, hs⟩] at h1
  have h2 := qx_kd_obj (k := 0) (by decide) hk
  exact Rs_call c136_10 h1 (by rw [show qx_args 1 [.ref t] = decide (qx_sh t = some (.inl 0)) from rfl]; exact decide_eq_true h2)
theorem c136_13 : qx_code 136 13 = some (13, .istore_n 2, 14, 0, 0, 0) := by decide +kernel
theorem s136_13i {L : Nat} {xs : Nat → Int32} {d x : Nat} {M : qxM} {st : List Value} {a0 a2 a3 a4 a5 a6 : Option Value} {z : Int32} {y : Int32} : Rs L xs (d) 136 13 [a0, some (.int y), a2, a3, a4, a5, a6] (.int z :: st) M x = Rs L xs (d) 136 14 [a0, some (.int y), some (.int z), a3, a4, a5, a6] st M x := Rs_next c136_13 rfl
theorem s136_13r {L : Nat} {xs : Nat → Int32} {d x : Nat} {M : qxM} {st : List Value} {a0 a2 a3 a4 a5 a6 : Option Value} {z : Int32} {y : Nat} : Rs L xs (d) 136 13 [a0, some (.ref y), a2, a3, a4, a5, a6] (.int z :: st) M x = Rs L xs (d) 136 14 [a0, some (.ref y), some (.int z), a3, a4, a5, a6] st M x := Rs_next c136_13 rfl
theorem s136_13n {L : Nat} {xs : Nat → Int32} {d x : Nat} {M : qxM} {st : List Value} {a0 a2 a3 a4 a5 a6 : Option Value} {z : Int32} : Rs L xs (d) 136 13 [a0, none, a2, a3, a4, a5, a6] (.int z :: st) M x = Rs L xs (d) 136 14 [a0, none, some (.int z), a3, a4, a5, a6] st M x := Rs_next c136_13 rfl
theorem c136_14 : qx_code 136 14 = some (14, .iconst 0, 15, 0, 0, 0) := by decide +kernel
theorem s136_14 {L : Nat} {xs : Nat → Int32} {d x : Nat} {M : qxM} {st : List Value} {ls : qxL} : Rs L xs (d) 136 14 ls st M x = Rs L xs (d) 136 15 ls (.int (nI 0) :: st) M x := Rs_next c136_14 rfl
theorem c136_15 : qx_code 136 15 = some (15, .istore_n 3, 16, 0, 0, 0) := by decide +kernel
theorem s136_15i {L : Nat} {xs : Nat → Int32} {d x : Nat} {M : qxM} {st : List Value} {a0 a1 a3 a4 a5 a6 : Option Value} {z : Int32} {y : Int32} : Rs L xs (d) 136 15 [a0, a1, some (.int y), a3, a4, a5, a6] (.int z :: st) M x = Rs L xs (d) 136 16 [a0, a1, some (.int y), some (.int z), a4, a5, a6] st M x := Rs_next c136_15 rfl
theorem s136_15r {L : Nat} {xs : Nat → Int32} {d x : Nat} {M : qxM} {st : List Value} {a0 a1 a3 a4 a5 a6 : Option Value} {z : Int32} {y : Nat} : Rs L xs (d) 136 15 [a0, a1, some (.ref y), a3, a4, a5, a6] (.int z :: st) M x = Rs L xs (d) 136 16 [a0, a1, some (.ref y), some (.int z), a4, a5, a6] st M x := Rs_next c136_15 rfl
theorem s136_15n {L : Nat} {xs : Nat → Int32} {d x : Nat} {M : qxM} {st : List Value} {a0 a1 a3 a4 a5 a6 : Option Value} {z : Int32} : Rs L xs (d) 136 15 [a0, a1, none, a3, a4, a5, a6] (.int z :: st) M x = Rs L xs (d) 136 16 [a0, a1, none, some (.int z), a4, a5, a6] st M x := Rs_next c136_15 rfl
theorem c136_16 : qx_code 136 16 = some (16, .iconst 0, 17, 0, 0, 0) := by decide +kernel
theorem s136_16 {L : Nat} {xs : Nat → Int32} {d x : Nat} {M : qxM} {st : List Value} {ls : qxL} : Rs L xs (d) 136 16 ls st M x = Rs L xs (d) 136 17 ls (.int (nI 0) :: st) M x := Rs_next c136_16 rfl
theorem c136_17 : qx_code 136 17 = some (17, .istore 4, 19, 0, 0, 0) := by decide +kernel
theorem s136_17i {L : Nat} {xs : Nat → Int32} {d x : Nat} {M : qxM} {st : List Value} {a0 a1 a2 a4 a5 a6 : Option Value} {z : Int32} {y : Int32} : Rs L xs (d) 136 17 [a0, a1, a2, some (.int y), a4, a5, a6] (.int z :: st) M x = Rs L xs (d) 136 19 [a0, a1, a2, some (.int y), some (.int z), a5, a6] st M x := Rs_next c136_17 rfl
theorem s136_17r {L : Nat} {xs : Nat → Int32} {d x : Nat} {M : qxM} {st : List Value} {a0 a1 a2 a4 a5 a6 : Option Value} {z : Int32} {y : Nat} : Rs L xs (d) 136 17 [a0, a1, a2, some (.ref y), a4, a5, a6] (.int z :: st) M x = Rs L xs (d) 136 19 [a0, a1, a2, some (.ref y), some (.int z), a5, a6] st M x := Rs_next c136_17 rfl
theorem s136_17n {L : Nat} {xs : Nat → Int32} {d x : Nat} {M : qxM} {st : List Value} {a0 a1 a2 a4 a5 a6 : Option Value} {z : Int32} : Rs L xs (d) 136 17 [a0, a1, a2, none, a4, a5, a6] (.int z :: st) M x = Rs L xs (d) 136 19 [a0, a1, a2, none, some (.int z), a5, a6] st M x := Rs_next c136_17 rfl
theorem c136_19 : qx_code 136 19 = some (19, .iload 4, 21, 0, 0, 0) := by decide +kernel
theorem s136_19 {L : Nat} {xs : Nat → Int32} {d x : Nat} {M : qxM} {st : List Value} {a0 a1 a2 a3 a5 a6 : Option Value} {z : Int32} : Rs L xs (d) 136 19 [a0, a1, a2, a3, some (.int z), a5, a6] st M x = Rs L xs (d) 136 21 [a0, a1, a2, a3, some (.int z), a5, a6] (.int z :: st) M x := Rs_next c136_19 rfl
theorem c136_21 : qx_code 136 21 = some (21, .aload_n 0, 22, 0, 0, 0) := by decide +kernel
theorem s136_21 {L : Nat} {xs : Nat → Int32} {d x : Nat} {M : qxM} {st : List Value} {a1 a2 a3 a4 a5 a6 : Option Value} {z : Nat} : Rs L xs (d) 136 21 [some (.ref z), a1, a2, a3, a4, a5, a6] st M x = Rs L xs (d) 136 22 [some (.ref z), a1, a2, a3, a4, a5, a6] (.ref z :: st) M x := Rs_next c136_21 rfl
theorem c136_22 : qx_code 136 22 = some (22, .getfield 33, 25, 7, 3, 384) := by decide +kernel
theorem s136_22 {L : Nat} {xs : Nat → Int32} {d x : Nat} {M : qxM} {st : List Value} {ls : qxL} {t : Nat} (hk : qx_kd t = 17) : Rs L xs (d) 136 22 ls (.ref t :: st) M x = Rs L xs (d) 136 25 ls (.ref (t + 90) :: st) M x := Rs_when (qx_kd_obj (k := 7) (by decide) hk) c136_22 rfl
theorem c136_25 : qx_code 136 25 = some (25, .getfield 93, 28, 4, 0, 356) := by decide +kernel
theorem s136_25 {L : Nat} {xs : Nat → Int32} {d x : Nat} {M : qxM} {st : List Value} {ls : qxL} {t : Nat} (hk : qx_kd t = 14) : Rs L xs (d) 136 25 ls (.ref t :: st) M x = Rs L xs (d) 136 28 ls (.ref (t + 1) :: st) M x := Rs_when (qx_kd_obj (k := 4) (by decide) hk) c136_25 rfl
theorem c136_28 : qx_code 136 28 = some (28, .getfield 96, 31, 2, 0, 166) := by decide +kernel
theorem s136_28 {L : Nat} {xs : Nat → Int32} {d x : Nat} {M : qxM} {st : List Value} {ls : qxL} {t : Nat} (hk : qx_kd t = 12) : Rs L xs (d) 136 28 ls (.ref t :: st) M x = Rs L xs (d) 136 31 ls (.int (M.1 t 0) :: st) M x := Rs_when (qx_kd_obj (k := 2) (by decide) hk) c136_28 rfl
theorem c136_31 : qx_code 136 31 = some (31, .if_icmp .ge 100, 34, 131, 0, 0) := by decide +kernel
theorem s136_31 {L : Nat} {xs : Nat → Int32} {d x : Nat} {M : qxM} {st : List Value} {ls : qxL} {z y : Int32} : Rs L xs (d) 136 31 ls (.int y :: .int z :: st) M x = if y ≤ z then Rs L xs (d) 136 131 ls st M x else Rs L xs (d) 136 34 ls st M x := Rs_ite c136_31 rfl
theorem c136_34 : qx_code 136 34 = some (34, .iload 4, 36, 0, 0, 0) := by decide +kernel
theorem s136_34 {L : Nat} {xs : Nat → Int32} {d x : Nat} {M : qxM} {st : List Value} {a0 a1 a2 a3 a5 a6 : Option Value} {z : Int32} : Rs L xs (d) 136 34 [a0, a1, a2, a3, some (.int z), a5, a6] st M x = Rs L xs (d) 136 36 [a0, a1, a2, a3, some (.int z), a5, a6] (.int z :: st) M x := Rs_next c136_34 rfl
theorem c136_36 : qx_code 136 36 = some (36, .iconst 1, 37, 0, 0, 0) := by decide +kernel
theorem s136_36 {L : Nat} {xs : Nat → Int32} {d x : Nat} {M : qxM} {st : List Value} {ls : qxL} : Rs L xs (d) 136 36 ls st M x = Rs L xs (d) 136 37 ls (.int (nI 1) :: st) M x := Rs_next c136_36 rfl
theorem c136_37 : qx_code 136 37 = some (37, .iadd, 38, 0, 0, 0) := by decide +kernel
theorem s136_37 {L : Nat} {xs : Nat → Int32} {d x : Nat} {M : qxM} {st : List Value} {ls : qxL} {z y : Int32} : Rs L xs (d) 136 37 ls (.int y :: .int z :: st) M x = Rs L xs (d) 136 38 ls (.int (z + y) :: st) M x := Rs_next c136_37 rfl
theorem c136_38 : qx_code 136 38 = some (38, .istore 5, 40, 0, 0, 0) := by decide +kernel
theorem s136_38i {L : Nat} {xs : Nat → Int32} {d x : Nat} {M : qxM} {st : List Value} {a0 a1 a2 a3 a5 a6 : Option Value} {z : Int32} {y : Int32} : Rs L xs (d) 136 38 [a0, a1, a2, a3, some (.int y), a5, a6] (.int z :: st) M x = Rs L xs (d) 136 40 [a0, a1, a2, a3, some (.int y), some (.int z), a6] st M x := Rs_next c136_38 rfl
theorem s136_38r {L : Nat} {xs : Nat → Int32} {d x : Nat} {M : qxM} {st : List Value} {a0 a1 a2 a3 a5 a6 : Option Value} {z : Int32} {y : Nat} : Rs L xs (d) 136 38 [a0, a1, a2, a3, some (.ref y), a5, a6] (.int z :: st) M x = Rs L xs (d) 136 40 [a0, a1, a2, a3, some (.ref y), some (.int z), a6] st M x := Rs_next c136_38 rfl
theorem s136_38n {L : Nat} {xs : Nat → Int32} {d x : Nat} {M : qxM} {st : List Value} {a0 a1 a2 a3 a5 a6 : Option Value} {z : Int32} : Rs L xs (d) 136 38 [a0, a1, a2, a3, none, a5, a6] (.int z :: st) M x = Rs L xs (d) 136 40 [a0, a1, a2, a3, none, some (.int z), a6] st M x := Rs_next c136_38 rfl
theorem c136_40 : qx_code 136 40 = some (40, .iload 5, 42, 0, 0, 0) := by decide +kernel
theorem s136_40 {L : Nat} {xs : Nat → Int32} {d x : Nat} {M : qxM} {st : List Value} {a0 a1 a2 a3 a4 a6 : Option Value} {z : Int32} : Rs L xs (d) 136 40 [a0, a1, a2, a3, a4, some (.int z), a6] st M x = Rs L xs (d) 136 42 [a0, a1, a2, a3, a4, some (.int z), a6] (.int z :: st) M x := Rs_next c136_40 rfl
theorem c136_42 : qx_code 136 42 = some (42, .aload_n 0, 43, 0, 0, 0) := by decide +kernel
theorem s136_42 {L : Nat} {xs : Nat → Int32} {d x : Nat} {M : qxM} {st : List Value} {a1 a2 a3 a4 a5 a6 : Option Value} {z : Nat} : Rs L xs (d) 136 42 [some (.ref z), a1, a2, a3, a4, a5, a6] st M x = Rs L xs (d) 136 43 [some (.ref z), a1, a2, a3, a4, a5, a6] (.ref z :: st) M x := Rs_next c136_42 rfl
theorem c136_43 : qx_code 136 43 = some (43, .getfield 33, 46, 7, 3, 384) := by decide +kernel
theorem s136_43 {L : Nat} {xs : Nat → Int32} {d x : Nat} {M : qxM} {st : List Value} {ls : qxL} {t : Nat} (hk : qx_kd t = 17) : Rs L xs (d) 136 43 ls (.ref t :: st) M x = Rs L xs (d) 136 46 ls (.ref (t + 90) :: st) M x := Rs_when (qx_kd_obj (k := 7) (by decide) hk) c136_43 rfl
theorem c136_46 : qx_code 136 46 = some (46, .getfield 93, 49, 4, 0, 356) := by decide +kernel
theorem s136_46 {L : Nat} {xs : Nat → Int32} {d x : Nat} {M : qxM} {st : List Value} {ls : qxL} {t : Nat} (hk : qx_kd t = 14) : Rs L xs (d) 136 46 ls (.ref t :: st) M x = Rs L xs (d) 136 49 ls (.ref (t + 1) :: st) M x := Rs_when (qx_kd_obj (k := 4) (by decide) hk) c136_46 rfl
theorem c136_49 : qx_code 136 49 = some (49, .getfield 96, 52, 2, 0, 166) := by decide +kernel
theorem s136_49 {L : Nat} {xs : Nat → Int32} {d x : Nat} {M : qxM} {st : List Value} {ls : qxL} {t : Nat} (hk : qx_kd t = 12) : Rs L xs (d) 136 49 ls (.ref t :: st) M x = Rs L xs (d) 136 52 ls (.int (M.1 t 0) :: st) M x := Rs_when (qx_kd_obj (k := 2) (by decide) hk) c136_49 rfl
theorem c136_52 : qx_code 136 52 = some (52, .if_icmp .ge 73, 55, 125, 0, 0) := by decide +kernel
theorem s136_52 {L : Nat} {xs : Nat → Int32} {d x : Nat} {M : qxM} {st : List Value} {ls : qxL} {z y : Int32} : Rs L xs (d) 136 52 ls (.int y :: .int z :: st) M x = if y ≤ z then Rs L xs (d) 136 125 ls st M x else Rs L xs (d) 136 55 ls st M x := Rs_ite c136_52 rfl
theorem c136_55 : qx_code 136 55 = some (55, .aload_n 0, 56, 0, 0, 0) := by decide +kernel
theorem s136_55 {L : Nat} {xs : Nat → Int32} {d x : Nat} {M : qxM} {st : List Value} {a1 a2 a3 a4 a5 a6 : Option Value} {z : Nat} : Rs L xs (d) 136 55 [some (.ref z), a1, a2, a3, a4, a5, a6] st M x = Rs L xs (d) 136 56 [some (.ref z), a1, a2, a3, a4, a5, a6] (.ref z :: st) M x := Rs_next c136_55 rfl
theorem c136_56 : qx_code 136 56 = some (56, .getfield 33, 59, 7, 3, 384) := by decide +kernel
theorem s136_56 {L : Nat} {xs : Nat → Int32} {d x : Nat} {M : qxM} {st : List Value} {ls : qxL} {t : Nat} (hk : qx_kd t = 17) : Rs L xs (d) 136 56 ls (.ref t :: st) M x = Rs L xs (d) 136 59 ls (.ref (t + 90) :: st) M x := Rs_when (qx_kd_obj (k := 7) (by decide) hk) c136_56 rfl
theorem c136_59 : qx_code 136 59 = some (59, .getfield 93, 62, 4, 0, 356) := by decide +kernel
theorem s136_59 {L : Nat} {xs : Nat → Int32} {d x : Nat} {M : qxM} {st : List Value} {ls : qxL} {t : Nat} (hk : qx_kd t = 14) : Rs L xs (d) 136 59 ls (.ref t :: st) M x = Rs L xs (d) 136 62 ls (.ref (t + 1) :: st) M x := Rs_when (qx_kd_obj (k := 4) (by decide) hk) c136_59 rfl
theorem c136_62 : qx_code 136 62 = some (62, .iload 4, 64, 0, 0, 0) := by decide +kernel
theorem s136_62 {L : Nat} {xs : Nat → Int32} {d x : Nat} {M : qxM} {st : List Value} {a0 a1 a2 a3 a5 a6 : Option Value} {z : Int32} : Rs L xs (d) 136 62 [a0, a1, a2, a3, some (.int z), a5, a6] st M x = Rs L xs (d) 136 64 [a0, a1, a2, a3, some (.int z), a5, a6] (.int z :: st) M x := Rs_next c136_62 rfl
theorem c136_64 : qx_code 136 64 = some (64, .invokevirtual 154, 67, 39, 2, 789) := by decide +kernel
theorem s136_64 {L : Nat} {xs : Nat → Int32} {d x : Nat} {M : qxM} {st : List Value} {ls : qxL} {t : Nat} {z0 : Int32} (hk : qx_kd t = 12) (hs : st.length ≤ 4) : Rs L xs (d + 1) 136 64 ls (.int z0 :: .ref t :: st) M x = (Rs L xs d 39 0 [some (.ref t), some (.int z0)] [] M 0).bind (qx_kn L xs (d + 1) 136 64 67 39 ls st x) := by
  have h1 : qx_act L xs (qx_rt 136) (64, .invokevirtual 154, 67, 39, 2, 789) ls (.int z0 :: .ref t :: st) M = if 2 ≤ (.int z0 :: .ref t :: st).length ∧ st.length ≤ 4 then some (.inr (.inr (.inr (39, [.ref t, .int z0], st)))) else none := rfl
  rw [if_pos ⟨by simp [List.length_cons]; try omega, hs⟩] at h1
  have h2 := qx_kd_obj (k := 2) (by decide) hk
  exact Rs_call c136_64 h1 (by rw [show qx_args 39 [.ref t, .int z0] = decide (qx_sh t = some (.inl 2)) from rfl]; exact decide_eq_true h2)
theorem c136_67 : qx_code 136 67 = some (67, .iload 5, 69, 0, 0, 0) := by decide +kernel
theorem s136_67 {L : Nat} {xs : Nat → Int32} {d x : Nat} {M : qxM} {st : List Value} {a0 a1 a2 a3 a4 a6 : Option Value} {z : Int32} : Rs L xs (d) 136 67 [a0, a1, a2, a3, a4, some (.int z), a6] st M x = Rs L xs (d) 136 69 [a0, a1, a2, a3, a4, some (.int z), a6] (.int z :: st) M x := Rs_next c136_67 rfl
theorem c136_69 : qx_code 136 69 = some (69, .invokestatic 166, 72, 170, 2, 803) := by decide +kernel
theorem s136_69 {L : Nat} {xs : Nat → Int32} {d x : Nat} {M : qxM} {st : List Value} {ls : qxL} {z0 : Int32} {z1 : Int32} (hs : st.length ≤ 4) : Rs L xs (d + 1) 136 69 ls (.int z1 :: .int z0 :: st) M x = (Rs L xs d 170 0 [some (.int z0), some (.int z1)] [] M 0).bind (qx_kn L xs (d + 1) 136 69 72 170 ls st x) := by
  have h1 : qx_act L xs (qx_rt 136) (69, .invokestatic 166, 72, 170, 2, 803) ls (.int z1 :: .int z0 :: st) M = if 2 ≤ (.int z1 :: .int z0 :: st).length ∧ st.length ≤ 4 then some (.inr (.inr (.inr (170, [.int z0, .int z1], st)))) else none := rfl
  rw [if_pos ⟨by simp [List.length_cons]; try omega, hs⟩] at h1
  exact Rs_call c136_69 h1 rfl
theorem c136_72 : qx_code 136 72 = some (72, .ifCond .ne 24, 75, 96, 0, 0) := by decide +kernel
theorem s136_72 {L : Nat} {xs : Nat → Int32} {d x : Nat} {M : qxM} {st : List Value} {ls : qxL} {z : Int32} : Rs L xs (d) 136 72 ls (.int z :: st) M x = if z = 0 then Rs L xs (d) 136 75 ls st M x else Rs L xs (d) 136 96 ls st M x := Rs_ite c136_72 rfl
theorem c136_75 : qx_code 136 75 = some (75, .aload_n 0, 76, 0, 0, 0) := by decide +kernel
theorem s136_75 {L : Nat} {xs : Nat → Int32} {d x : Nat} {M : qxM} {st : List Value} {a1 a2 a3 a4 a5 a6 : Option Value} {z : Nat} : Rs L xs (d) 136 75 [some (.ref z), a1, a2, a3, a4, a5, a6] st M x = Rs L xs (d) 136 76 [some (.ref z), a1, a2, a3, a4, a5, a6] (.ref z :: st) M x := Rs_next c136_75 rfl
theorem c136_76 : qx_code 136 76 = some (76, .getfield 33, 79, 7, 3, 384) := by decide +kernel
theorem s136_76 {L : Nat} {xs : Nat → Int32} {d x : Nat} {M : qxM} {st : List Value} {ls : qxL} {t : Nat} (hk : qx_kd t = 17) : Rs L xs (d) 136 76 ls (.ref t :: st) M x = Rs L xs (d) 136 79 ls (.ref (t + 90) :: st) M x := Rs_when (qx_kd_obj (k := 7) (by decide) hk) c136_76 rfl
theorem c136_79 : qx_code 136 79 = some (79, .getfield 93, 82, 4, 0, 356) := by decide +kernel
theorem s136_79 {L : Nat} {xs : Nat → Int32} {d x : Nat} {M : qxM} {st : List Value} {ls : qxL} {t : Nat} (hk : qx_kd t = 14) : Rs L xs (d) 136 79 ls (.ref t :: st) M x = Rs L xs (d) 136 82 ls (.ref (t + 1) :: st) M x := Rs_when (qx_kd_obj (k := 4) (by decide) hk) c136_79 rfl
theorem c136_82 : qx_code 136 82 = some (82, .iload 4, 84, 0, 0, 0) := by decide +kernel
theorem s136_82 {L : Nat} {xs : Nat → Int32} {d x : Nat} {M : qxM} {st : List Value} {a0 a1 a2 a3 a5 a6 : Option Value} {z : Int32} : Rs L xs (d) 136 82 [a0, a1, a2, a3, some (.int z), a5, a6] st M x = Rs L xs (d) 136 84 [a0, a1, a2, a3, some (.int z), a5, a6] (.int z :: st) M x := Rs_next c136_82 rfl
theorem c136_84 : qx_code 136 84 = some (84, .iload 5, 86, 0, 0, 0) := by decide +kernel
theorem s136_84 {L : Nat} {xs : Nat → Int32} {d x : Nat} {M : qxM} {st : List Value} {a0 a1 a2 a3 a4 a6 : Option Value} {z : Int32} : Rs L xs (d) 136 84 [a0, a1, a2, a3, a4, some (.int z), a6] st M x = Rs L xs (d) 136 86 [a0, a1, a2, a3, a4, some (.int z), a6] (.int z :: st) M x := Rs_next c136_84 rfl
theorem c136_86 : qx_code 136 86 = some (86, .invokevirtual 174, 89, 41, 3, 822) := by decide +kernel
theorem s136_86 {L : Nat} {xs : Nat → Int32} {d x : Nat} {M : qxM} {st : List Value} {ls : qxL} {t : Nat} {z0 : Int32} {z1 : Int32} (hk : qx_kd t = 12) (hs : st.length ≤ 4) : Rs L xs (d + 1) 136 86 ls (.int z1 :: .int z0 :: .ref t :: st) M x = (Rs L xs d 41 0 [some (.ref t), some (.int z0), some (.int z1)] [] M 0).bind (qx_kn L xs (d + 1) 136 86 89 41 ls st x) := by
  have h1 : qx_act L xs (qx_rt 136) (86, .invokevirtual 174, 89, 41, 3, 822) ls (.int z1 :: .int z0 :: .ref t :: st) M = if 3 ≤ (.int z1 :: .int z0 :: .ref t :: st).length ∧ st.length ≤ 4 then some (.inr (.inr (.inr (41, [.ref t, .int z0, .int z1], st)))) else none := rfl
  rw [if_pos ⟨by simp [List.length_cons]; try omega, hs⟩] at h1
  have h2 := qx_kd_obj (k := 2) (by decide) hk
  exact Rs_call c136_86 h1 (by rw [show qx_args 41 [.ref t, .int z0, .int z1] = decide (qx_sh t = some (.inl 2)) from rfl]; exact decide_eq_true h2)
theorem c136_89 : qx_code 136 89 = some (89, .ifCond .eq 7, 92, 96, 0, 0) := by decide +kernel
theorem s136_89 {L : Nat} {xs : Nat → Int32} {d x : Nat} {M : qxM} {st : List Value} {ls : qxL} {z : Int32} : Rs L xs (d) 136 89 ls (.int z :: st) M x = if z = 0 then Rs L xs (d) 136 96 ls st M x else Rs L xs (d) 136 92 ls st M x := Rs_ite c136_89 rfl
theorem c136_92 : qx_code 136 92 = some (92, .iconst 1, 93, 0, 0, 0) := by decide +kernel
theorem s136_92 {L : Nat} {xs : Nat → Int32} {d x : Nat} {M : qxM} {st : List Value} {ls : qxL} : Rs L xs (d) 136 92 ls st M x = Rs L xs (d) 136 93 ls (.int (nI 1) :: st) M x := Rs_next c136_92 rfl
theorem c136_93 : qx_code 136 93 = some (93, .goto 4, 96, 97, 0, 0) := by decide +kernel
theorem s136_93 {L : Nat} {xs : Nat → Int32} {d x : Nat} {M : qxM} {st : List Value} {ls : qxL} : Rs L xs (d) 136 93 ls st M x = Rs L xs (d) 136 97 ls st M x := Rs_next c136_93 rfl
theorem c136_96 : qx_code 136 96 = some (96, .iconst 0, 97, 0, 0, 0) := by decide +kernel
theorem s136_96 {L : Nat} {xs : Nat → Int32} {d x : Nat} {M : qxM} {st : List Value} {ls : qxL} : Rs L xs (d) 136 96 ls st M x = Rs L xs (d) 136 97 ls (.int (nI 0) :: st) M x := Rs_next c136_96 rfl
theorem c136_97 : qx_code 136 97 = some (97, .istore 6, 99, 0, 0, 0) := by decide +kernel
theorem s136_97i {L : Nat} {xs : Nat → Int32} {d x : Nat} {M : qxM} {st : List Value} {a0 a1 a2 a3 a4 a6 : Option Value} {z : Int32} {y : Int32} : Rs L xs (d) 136 97 [a0, a1, a2, a3, a4, some (.int y), a6] (.int z :: st) M x = Rs L xs (d) 136 99 [a0, a1, a2, a3, a4, some (.int y), some (.int z)] st M x := Rs_next c136_97 rfl
theorem s136_97r {L : Nat} {xs : Nat → Int32} {d x : Nat} {M : qxM} {st : List Value} {a0 a1 a2 a3 a4 a6 : Option Value} {z : Int32} {y : Nat} : Rs L xs (d) 136 97 [a0, a1, a2, a3, a4, some (.ref y), a6] (.int z :: st) M x = Rs L xs (d) 136 99 [a0, a1, a2, a3, a4, some (.ref y), some (.int z)] st M x := Rs_next c136_97 rfl
theorem s136_97n {L : Nat} {xs : Nat → Int32} {d x : Nat} {M : qxM} {st : List Value} {a0 a1 a2 a3 a4 a6 : Option Value} {z : Int32} : Rs L xs (d) 136 97 [a0, a1, a2, a3, a4, none, a6] (.int z :: st) M x = Rs L xs (d) 136 99 [a0, a1, a2, a3, a4, none, some (.int z)] st M x := Rs_next c136_97 rfl
theorem c136_99 : qx_code 136 99 = some (99, .iload 6, 101, 0, 0, 0) := by decide +kernel
theorem s136_99 {L : Nat} {xs : Nat → Int32} {d x : Nat} {M : qxM} {st : List Value} {a0 a1 a2 a3 a4 a5 : Option Value} {z : Int32} : Rs L xs (d) 136 99 [a0, a1, a2, a3, a4, a5, some (.int z)] st M x = Rs L xs (d) 136 101 [a0, a1, a2, a3, a4, a5, some (.int z)] (.int z :: st) M x := Rs_next c136_99 rfl
theorem c136_101 : qx_code 136 101 = some (101, .ifCond .eq 18, 104, 119, 0, 0) := by decide +kernel
theorem s136_101 {L : Nat} {xs : Nat → Int32} {d x : Nat} {M : qxM} {st : List Value} {ls : qxL} {z : Int32} : Rs L xs (d) 136 101 ls (.int z :: st) M x = if z = 0 then Rs L xs (d) 136 119 ls st M x else Rs L xs (d) 136 104 ls st M x := Rs_ite c136_101 rfl
theorem c136_104 : qx_code 136 104 = some (104, .aload_n 1, 105, 0, 0, 0) := by decide +kernel
theorem s136_104 {L : Nat} {xs : Nat → Int32} {d x : Nat} {M : qxM} {st : List Value} {a0 a2 a3 a4 a5 a6 : Option Value} {z : Nat} : Rs L xs (d) 136 104 [a0, some (.ref z), a2, a3, a4, a5, a6] st M x = Rs L xs (d) 136 105 [a0, some (.ref z), a2, a3, a4, a5, a6] (.ref z :: st) M x := Rs_next c136_104 rfl
theorem c136_105 : qx_code 136 105 = some (105, .iload 4, 107, 0, 0, 0) := by decide +kernel
theorem s136_105 {L : Nat} {xs : Nat → Int32} {d x : Nat} {M : qxM} {st : List Value} {a0 a1 a2 a3 a5 a6 : Option Value} {z : Int32} : Rs L xs (d) 136 105 [a0, a1, a2, a3, some (.int z), a5, a6] st M x = Rs L xs (d) 136 107 [a0, a1, a2, a3, some (.int z), a5, a6] (.int z :: st) M x := Rs_next c136_105 rfl
theorem c136_107 : qx_code 136 107 = some (107, .iload 5, 109, 0, 0, 0) := by decide +kernel
theorem s136_107 {L : Nat} {xs : Nat → Int32} {d x : Nat} {M : qxM} {st : List Value} {a0 a1 a2 a3 a4 a6 : Option Value} {z : Int32} : Rs L xs (d) 136 107 [a0, a1, a2, a3, a4, some (.int z), a6] st M x = Rs L xs (d) 136 109 [a0, a1, a2, a3, a4, some (.int z), a6] (.int z :: st) M x := Rs_next c136_107 rfl
theorem c136_109 : qx_code 136 109 = some (109, .invokevirtual 309, 112, 3, 3, 1192) := by decide +kernel
theorem s136_109 {L : Nat} {xs : Nat → Int32} {d x : Nat} {M : qxM} {st : List Value} {ls : qxL} {t : Nat} {z0 : Int32} {z1 : Int32} (hk : qx_kd t = 10) (hs : st.length ≤ 4) : Rs L xs (d + 1) 136 109 ls (.int z1 :: .int z0 :: .ref t :: st) M x = (Rs L xs d 3 0 [some (.ref t), some (.int z0), some (.int z1)] [] M 0).bind (qx_kn L xs (d + 1) 136 109 112 3 ls st x) := by
  have h1 : qx_act L xs (qx_rt 136) (109, .invokevirtual 309, 112, 3, 3, 1192) ls (.int z1 :: .int z0 :: .ref t :: st) M = if 3 ≤ (.int z1 :: .int z0 :: .ref t :: st).length ∧ st.length ≤ 4 then some (.inr (.inr (.inr (3, [.ref t, .int z0, .int z1], st)))) else none := rfl
  rw [if_pos ⟨by simp [List.length_cons]; try omega, hs⟩] at h1
  have h2 := qx_kd_obj (k := 0) (by decide) hk
  exact Rs_call c136_109 h1 (by rw [show qx_args 3 [.ref t, .int z0, .int z1] = decide (qx_sh t = some (.inl 0)) from rfl]; exact decide_eq_true h2)
theorem c136_112 : qx_code 136 112 = some (112, .iload_n 2, 113, 0, 0, 0) := by decide +kernel
theorem s136_112 {L : Nat} {xs : Nat → Int32} {d x : Nat} {M : qxM} {st : List Value} {a0 a1 a3 a4 a5 a6 : Option Value} {z : Int32} : Rs L xs (d) 136 112 [a0, a1, some (.int z), a3, a4, a5, a6] st M x = Rs L xs (d) 136 113 [a0, a1, some (.int z), a3, a4, a5, a6] (.int z :: st) M x := Rs_next c136_112 rfl
theorem c136_113 : qx_code 136 113 = some (113, .if_icmp .ne 6, 116, 119, 0, 0) := by decide +kernel
theorem s136_113 {L : Nat} {xs : Nat → Int32} {d x : Nat} {M : qxM} {st : List Value} {ls : qxL} {z y : Int32} : Rs L xs (d) 136 113 ls (.int y :: .int z :: st) M x = if z = y then Rs L xs (d) 136 116 ls st M x else Rs L xs (d) 136 119 ls st M x := Rs_ite c136_113 rfl
theorem c136_116 : qx_code 136 116 = some (116, .iinc 3 1, 119, 0, 0, 0) := by decide +kernel
theorem s136_116i {L : Nat} {xs : Nat → Int32} {d x : Nat} {M : qxM} {st : List Value} {a0 a1 a4 a5 a6 : Option Value} {z : Int32} {y : Int32} : Rs L xs (d) 136 116 [a0, a1, some (.int y), some (.int z), a4, a5, a6] st M x = Rs L xs (d) 136 119 [a0, a1, some (.int y), some (.int (z + (nI 1))), a4, a5, a6] st M x := Rs_next c136_116 rfl
theorem s136_116r {L : Nat} {xs : Nat → Int32} {d x : Nat} {M : qxM} {st : List Value} {a0 a1 a4 a5 a6 : Option Value} {z : Int32} {y : Nat} : Rs L xs (d) 136 116 [a0, a1, some (.ref y), some (.int z), a4, a5, a6] st M x = Rs L xs (d) 136 119 [a0, a1, some (.ref y), some (.int (z + (nI 1))), a4, a5, a6] st M x := Rs_next c136_116 rfl
theorem s136_116n {L : Nat} {xs : Nat → Int32} {d x : Nat} {M : qxM} {st : List Value} {a0 a1 a4 a5 a6 : Option Value} {z : Int32} : Rs L xs (d) 136 116 [a0, a1, none, some (.int z), a4, a5, a6] st M x = Rs L xs (d) 136 119 [a0, a1, none, some (.int (z + (nI 1))), a4, a5, a6] st M x := Rs_next c136_116 rfl
theorem c136_119 : qx_code 136 119 = some (119, .iinc 5 1, 122, 0, 0, 0) := by decide +kernel
theorem s136_119i {L : Nat} {xs : Nat → Int32} {d x : Nat} {M : qxM} {st : List Value} {a0 a1 a2 a3 a6 : Option Value} {z : Int32} {y : Int32} : Rs L xs (d) 136 119 [a0, a1, a2, a3, some (.int y), some (.int z), a6] st M x = Rs L xs (d) 136 122 [a0, a1, a2, a3, some (.int y), some (.int (z + (nI 1))), a6] st M x := Rs_next c136_119 rfl
theorem s136_119r {L : Nat} {xs : Nat → Int32} {d x : Nat} {M : qxM} {st : List Value} {a0 a1 a2 a3 a6 : Option Value} {z : Int32} {y : Nat} : Rs L xs (d) 136 119 [a0, a1, a2, a3, some (.ref y), some (.int z), a6] st M x = Rs L xs (d) 136 122 [a0, a1, a2, a3, some (.ref y), some (.int (z + (nI 1))), a6] st M x := Rs_next c136_119 rfl
theorem s136_119n {L : Nat} {xs : Nat → Int32} {d x : Nat} {M : qxM} {st : List Value} {a0 a1 a2 a3 a6 : Option Value} {z : Int32} : Rs L xs (d) 136 119 [a0, a1, a2, a3, none, some (.int z), a6] st M x = Rs L xs (d) 136 122 [a0, a1, a2, a3, none, some (.int (z + (nI 1))), a6] st M x := Rs_next c136_119 rfl
theorem c136_122 : qx_code 136 122 = some (122, .goto (-82), 125, 40, 0, 0) := by decide +kernel
theorem s136_122 {L : Nat} {xs : Nat → Int32} {d x : Nat} {M : qxM} {st : List Value} {ls : qxL} : Rs L xs (d) 136 122 ls st M x = Rs L xs (d) 136 40 ls st M x := Rs_next c136_122 rfl
theorem c136_125 : qx_code 136 125 = some (125, .iinc 4 1, 128, 0, 0, 0) := by decide +kernel
theorem s136_125i {L : Nat} {xs : Nat → Int32} {d x : Nat} {M : qxM} {st : List Value} {a0 a1 a2 a5 a6 : Option Value} {z : Int32} {y : Int32} : Rs L xs (d) 136 125 [a0, a1, a2, some (.int y), some (.int z), a5, a6] st M x = Rs L xs (d) 136 128 [a0, a1, a2, some (.int y), some (.int (z + (nI 1))), a5, a6] st M x := Rs_next c136_125 rfl
theorem s136_125r {L : Nat} {xs : Nat → Int32} {d x : Nat} {M : qxM} {st : List Value} {a0 a1 a2 a5 a6 : Option Value} {z : Int32} {y : Nat} : Rs L xs (d) 136 125 [a0, a1, a2, some (.ref y), some (.int z), a5, a6] st M x = Rs L xs (d) 136 128 [a0, a1, a2, some (.ref y), some (.int (z + (nI 1))), a5, a6] st M x := Rs_next c136_125 rfl
theorem s136_125n {L : Nat} {xs : Nat → Int32} {d x : Nat} {M : qxM} {st : List Value} {a0 a1 a2 a5 a6 : Option Value} {z : Int32} : Rs L xs (d) 136 125 [a0, a1, a2, none, some (.int z), a5, a6] st M x = Rs L xs (d) 136 128 [a0, a1, a2, none, some (.int (z + (nI 1))), a5, a6] st M x := Rs_next c136_125 rfl
theorem c136_128 : qx_code 136 128 = some (128, .goto (-109), 131, 19, 0, 0) := by decide +kernel
theorem s136_128 {L : Nat} {xs : Nat → Int32} {d x : Nat} {M : qxM} {st : List Value} {ls : qxL} : Rs L xs (d) 136 128 ls st M x = Rs L xs (d) 136 19 ls st M x := Rs_next c136_128 rfl
theorem c136_131 : qx_code 136 131 = some (131, .iload_n 3, 132, 0, 0, 0) := by decide +kernel
theorem s136_131 {L : Nat} {xs : Nat → Int32} {d x : Nat} {M : qxM} {st : List Value} {a0 a1 a2 a4 a5 a6 : Option Value} {z : Int32} : Rs L xs (d) 136 131 [a0, a1, a2, some (.int z), a4, a5, a6] st M x = Rs L xs (d) 136 132 [a0, a1, a2, some (.int z), a4, a5, a6] (.int z :: st) M x := Rs_next c136_131 rfl
theorem c136_132 : qx_code 136 132 = some (132, .ireturn, 133, 0, 0, 0) := by decide +kernel
theorem s136_132 {L : Nat} {xs : Nat → Int32} {d x : Nat} {M : qxM} {ls : qxL} {z : Int32} : Rs L xs (d) 136 132 ls [.int z] M x = some (.inl (some (.int z)), M, x) := Rs_ret c136_132 rfl
theorem c137_0 : qx_code 137 0 = some (0, .aload_n 0, 1, 0, 0, 0) := by decide +kernel
theorem s137_0 {L : Nat} {xs : Nat → Int32} {d x : Nat} {M : qxM} {st : List Value} {a1 : Option Value} {z : Nat} : Rs L xs (d) 137 0 [some (.ref z), a1] st M x = Rs L xs (d) 137 1 [some (.ref z), a1] (.ref z :: st) M x := Rs_next c137_0 rfl
theorem c137_1 : qx_code 137 1 = some (1, .iload_n 1, 2, 0, 0, 0) := by decide +kernel
theorem s137_1 {L : Nat} {xs : Nat → Int32} {d x : Nat} {M : qxM} {st : List Value} {a0 : Option Value} {z : Int32} : Rs L xs (d) 137 1 [a0, some (.int z)] st M x = Rs L xs (d) 137 2 [a0, some (.int z)] (.int z :: st) M x := Rs_next c137_1 rfl
theorem c137_2 : qx_code 137 2 = some (2, .invokevirtual 148, 5, 160, 2, 780) := by decide +kernel
theorem s137_2 {L : Nat} {xs : Nat → Int32} {d x : Nat} {M : qxM} {st : List Value} {ls : qxL} {t : Nat} {z0 : Int32} (hk : qx_kd t = 17) (hs : st.length ≤ 4) : Rs L xs (d + 1) 137 2 ls (.int z0 :: .ref t :: st) M x = (Rs L xs d 160 0 [some (.ref t), some (.int z0)] [] M 0).bind (qx_kn L xs (d + 1) 137 2 5 160 ls st x) := by
  have h1 : qx_act L xs (qx_rt 137) (2, .invokevirtual 148, 5, 160, 2, 780) ls (.int z0 :: .ref t :: st) M = if 2 ≤ (.int z0 :: .ref t :: st).length ∧ st.length ≤ 4 then some (.inr (.inr (.inr (160, [.ref t, .int z0], st)))) else none := rfl
  rw [if_pos ⟨by simp [List.length_cons]; try omega, hs⟩] at h1
  have h2 := qx_kd_obj (k := 7) (by decide) hk
  exact Rs_call c137_2 h1 (by rw [show qx_args 160 [.ref t, .int z0] = decide (qx_sh t = some (.inl 7)) from rfl]; exact decide_eq_true h2)
theorem c137_5 : qx_code 137 5 = some (5, .aload_n 0, 6, 0, 0, 0) := by decide +kernel
theorem s137_5 {L : Nat} {xs : Nat → Int32} {d x : Nat} {M : qxM} {st : List Value} {a1 : Option Value} {z : Nat} : Rs L xs (d) 137 5 [some (.ref z), a1] st M x = Rs L xs (d) 137 6 [some (.ref z), a1] (.ref z :: st) M x := Rs_next c137_5 rfl
theorem c137_6 : qx_code 137 6 = some (6, .getfield 37, 9, 7, 4, 385) := by decide +kernel
theorem s137_6 {L : Nat} {xs : Nat → Int32} {d x : Nat} {M : qxM} {st : List Value} {ls : qxL} {t : Nat} (hk : qx_kd t = 17) : Rs L xs (d) 137 6 ls (.ref t :: st) M x = Rs L xs (d) 137 9 ls (.ref (t + 110) :: st) M x := Rs_when (qx_kd_obj (k := 7) (by decide) hk) c137_6 rfl
theorem c137_9 : qx_code 137 9 = some (9, .aload_n 0, 10, 0, 0, 0) := by decide +kernel
theorem s137_9 {L : Nat} {xs : Nat → Int32} {d x : Nat} {M : qxM} {st : List Value} {a1 : Option Value} {z : Nat} : Rs L xs (d) 137 9 [some (.ref z), a1] st M x = Rs L xs (d) 137 10 [some (.ref z), a1] (.ref z :: st) M x := Rs_next c137_9 rfl
theorem c137_10 : qx_code 137 10 = some (10, .getfield 33, 13, 7, 3, 384) := by decide +kernel
theorem s137_10 {L : Nat} {xs : Nat → Int32} {d x : Nat} {M : qxM} {st : List Value} {ls : qxL} {t : Nat} (hk : qx_kd t = 17) : Rs L xs (d) 137 10 ls (.ref t :: st) M x = Rs L xs (d) 137 13 ls (.ref (t + 90) :: st) M x := Rs_when (qx_kd_obj (k := 7) (by decide) hk) c137_10 rfl
theorem c137_13 : qx_code 137 13 = some (13, .getfield 93, 16, 4, 0, 356) := by decide +kernel
theorem s137_13 {L : Nat} {xs : Nat → Int32} {d x : Nat} {M : qxM} {st : List Value} {ls : qxL} {t : Nat} (hk : qx_kd t = 14) : Rs L xs (d) 137 13 ls (.ref t :: st) M x = Rs L xs (d) 137 16 ls (.ref (t + 1) :: st) M x := Rs_when (qx_kd_obj (k := 4) (by decide) hk) c137_13 rfl
theorem c137_16 : qx_code 137 16 = some (16, .iload_n 1, 17, 0, 0, 0) := by decide +kernel
theorem s137_16 {L : Nat} {xs : Nat → Int32} {d x : Nat} {M : qxM} {st : List Value} {a0 : Option Value} {z : Int32} : Rs L xs (d) 137 16 [a0, some (.int z)] st M x = Rs L xs (d) 137 17 [a0, some (.int z)] (.int z :: st) M x := Rs_next c137_16 rfl
theorem c137_17 : qx_code 137 17 = some (17, .invokevirtual 321, 20, 75, 3, 1231) := by decide +kernel
theorem s137_17 {L : Nat} {xs : Nat → Int32} {d x : Nat} {M : qxM} {st : List Value} {ls : qxL} {t : Nat} {z0 : Nat} {z1 : Int32} (hk : qx_kd t = 14) (hs : st.length ≤ 4) : Rs L xs (d + 1) 137 17 ls (.int z1 :: .ref z0 :: .ref t :: st) M x = (Rs L xs d 75 0 [some (.ref t), some (.ref z0), some (.int z1)] [] M 0).bind (qx_kn L xs (d + 1) 137 17 20 75 ls st x) := by
  have h1 : qx_act L xs (qx_rt 137) (17, .invokevirtual 321, 20, 75, 3, 1231) ls (.int z1 :: .ref z0 :: .ref t :: st) M = if 3 ≤ (.int z1 :: .ref z0 :: .ref t :: st).length ∧ st.length ≤ 4 then some (.inr (.inr (.inr (75, [.ref t, .ref z0, .int z1], st)))) else none := rfl
  rw [if_pos ⟨by simp [List.length_cons]; try omega, hs⟩] at h1
  have h2 := qx_kd_obj (k := 4) (by decide) hk
  exact Rs_call c137_17 h1 (by rw [show qx_args 75 [.ref t, .ref z0, .int z1] = decide (qx_sh t = some (.inl 4)) from rfl]; exact decide_eq_true h2)
theorem c137_20 : qx_code 137 20 = some (20, .aload_n 0, 21, 0, 0, 0) := by decide +kernel
theorem s137_20 {L : Nat} {xs : Nat → Int32} {d x : Nat} {M : qxM} {st : List Value} {a1 : Option Value} {z : Nat} : Rs L xs (d) 137 20 [some (.ref z), a1] st M x = Rs L xs (d) 137 21 [some (.ref z), a1] (.ref z :: st) M x := Rs_next c137_20 rfl
theorem c137_21 : qx_code 137 21 = some (21, .getfield 37, 24, 7, 4, 385) := by decide +kernel
theorem s137_21 {L : Nat} {xs : Nat → Int32} {d x : Nat} {M : qxM} {st : List Value} {ls : qxL} {t : Nat} (hk : qx_kd t = 17) : Rs L xs (d) 137 21 ls (.ref t :: st) M x = Rs L xs (d) 137 24 ls (.ref (t + 110) :: st) M x := Rs_when (qx_kd_obj (k := 7) (by decide) hk) c137_21 rfl
theorem c137_24 : qx_code 137 24 = some (24, .invokevirtual 324, 27, 77, 1, 1257) := by decide +kernel
theorem s137_24 {L : Nat} {xs : Nat → Int32} {d x : Nat} {M : qxM} {st : List Value} {ls : qxL} {t : Nat} (hk : qx_kd t = 14) (hs : st.length ≤ 4) : Rs L xs (d + 1) 137 24 ls (.ref t :: st) M x = (Rs L xs d 77 0 [some (.ref t), none, none, none] [] M 0).bind (qx_kn L xs (d + 1) 137 24 27 77 ls st x) := by
  have h1 : qx_act L xs (qx_rt 137) (24, .invokevirtual 324, 27, 77, 1, 1257) ls (.ref t :: st) M = if 1 ≤ (.ref t :: st).length ∧ st.length ≤ 4 then some (.inr (.inr (.inr (77, [.ref t], st)))) else none := rfl
  rw [if_pos ⟨by simp [List.length_cons]; try omega, hs⟩] at h1
  have h2 := qx_kd_obj (k := 4) (by decide) hk
  exact Rs_call c137_24 h1 (by rw [show qx_args 77 [.ref t] = decide (qx_sh t = some (.inl 4)) from rfl]; exact decide_eq_true h2)
theorem c137_27 : qx_code 137 27 = some (27, .pop, 28, 0, 0, 0) := by decide +kernel
theorem s137_27 {L : Nat} {xs : Nat → Int32} {d x : Nat} {M : qxM} {st : List Value} {ls : qxL} {z : Int32} : Rs L xs (d) 137 27 ls (.int z :: st) M x = Rs L xs (d) 137 28 ls st M x := Rs_next c137_27 rfl
theorem c137_28 : qx_code 137 28 = some (28, .aload_n 0, 29, 0, 0, 0) := by decide +kernel
theorem s137_28 {L : Nat} {xs : Nat → Int32} {d x : Nat} {M : qxM} {st : List Value} {a1 : Option Value} {z : Nat} : Rs L xs (d) 137 28 [some (.ref z), a1] st M x = Rs L xs (d) 137 29 [some (.ref z), a1] (.ref z :: st) M x := Rs_next c137_28 rfl
theorem c137_29 : qx_code 137 29 = some (29, .getfield 37, 32, 7, 4, 385) := by decide +kernel
theorem s137_29 {L : Nat} {xs : Nat → Int32} {d x : Nat} {M : qxM} {st : List Value} {ls : qxL} {t : Nat} (hk : qx_kd t = 17) : Rs L xs (d) 137 29 ls (.ref t :: st) M x = Rs L xs (d) 137 32 ls (.ref (t + 110) :: st) M x := Rs_when (qx_kd_obj (k := 7) (by decide) hk) c137_29 rfl
theorem c137_32 : qx_code 137 32 = some (32, .getfield 180, 35, 4, 1, 358) := by decide +kernel
theorem s137_32 {L : Nat} {xs : Nat → Int32} {d x : Nat} {M : qxM} {st : List Value} {ls : qxL} {t : Nat} (hk : qx_kd t = 14) : Rs L xs (d) 137 32 ls (.ref t :: st) M x = Rs L xs (d) 137 35 ls (.ref (t + 4) :: st) M x := Rs_when (qx_kd_obj (k := 4) (by decide) hk) c137_32 rfl
theorem c137_35 : qx_code 137 35 = some (35, .invokevirtual 189, 38, 56, 1, 835) := by decide +kernel
theorem s137_35 {L : Nat} {xs : Nat → Int32} {d x : Nat} {M : qxM} {st : List Value} {ls : qxL} {t : Nat} (hk : qx_kd t = 13) (hs : st.length ≤ 4) : Rs L xs (d + 1) 137 35 ls (.ref t :: st) M x = (Rs L xs d 56 0 [some (.ref t)] [] M 0).bind (qx_kn L xs (d + 1) 137 35 38 56 ls st x) := by
  have h1 : qx_act L xs (qx_rt 137) (35, .invokevirtual 189, 38, 56, 1, 835) ls (.ref t :: st) M = if 1 ≤ (.ref t :: st).length ∧ st.length ≤ 4 then some (.inr (.inr (.inr (56, [.ref t], st)))) else none := rfl
  rw [if_pos ⟨by simp [List.length_cons]; try omega, hs⟩] at h1
  have h2 := qx_kd_obj (k := 3) (by decide) hk
  exact Rs_call c137_35 h1 (by rw [show qx_args 56 [.ref t] = decide (qx_sh t = some (.inl 3)) from rfl]; exact decide_eq_true h2)
theorem c137_38 : qx_code 137 38 = some (38, .ifCond .eq 16, 41, 54, 0, 0) := by decide +kernel
theorem s137_38 {L : Nat} {xs : Nat → Int32} {d x : Nat} {M : qxM} {st : List Value} {ls : qxL} {z : Int32} : Rs L xs (d) 137 38 ls (.int z :: st) M x = if z = 0 then Rs L xs (d) 137 54 ls st M x else Rs L xs (d) 137 41 ls st M x := Rs_ite c137_38 rfl
theorem c137_41 : qx_code 137 41 = some (41, .aload_n 0, 42, 0, 0, 0) := by decide +kernel
theorem s137_41 {L : Nat} {xs : Nat → Int32} {d x : Nat} {M : qxM} {st : List Value} {a1 : Option Value} {z : Nat} : Rs L xs (d) 137 41 [some (.ref z), a1] st M x = Rs L xs (d) 137 42 [some (.ref z), a1] (.ref z :: st) M x := Rs_next c137_41 rfl
theorem c137_42 : qx_code 137 42 = some (42, .getfield 37, 45, 7, 4, 385) := by decide +kernel
theorem s137_42 {L : Nat} {xs : Nat → Int32} {d x : Nat} {M : qxM} {st : List Value} {ls : qxL} {t : Nat} (hk : qx_kd t = 17) : Rs L xs (d) 137 42 ls (.ref t :: st) M x = Rs L xs (d) 137 45 ls (.ref (t + 110) :: st) M x := Rs_when (qx_kd_obj (k := 7) (by decide) hk) c137_42 rfl
theorem c137_45 : qx_code 137 45 = some (45, .getfield 180, 48, 4, 1, 358) := by decide +kernel
theorem s137_45 {L : Nat} {xs : Nat → Int32} {d x : Nat} {M : qxM} {st : List Value} {ls : qxL} {t : Nat} (hk : qx_kd t = 14) : Rs L xs (d) 137 45 ls (.ref t :: st) M x = Rs L xs (d) 137 48 ls (.ref (t + 4) :: st) M x := Rs_when (qx_kd_obj (k := 4) (by decide) hk) c137_45 rfl
theorem c137_48 : qx_code 137 48 = some (48, .getfield 184, 51, 3, 0, 298) := by decide +kernel
theorem s137_48 {L : Nat} {xs : Nat → Int32} {d x : Nat} {M : qxM} {st : List Value} {ls : qxL} {t : Nat} (hk : qx_kd t = 13) : Rs L xs (d) 137 48 ls (.ref t :: st) M x = Rs L xs (d) 137 51 ls (.int (M.1 t 0) :: st) M x := Rs_when (qx_kd_obj (k := 3) (by decide) hk) c137_48 rfl
theorem c137_51 : qx_code 137 51 = some (51, .goto 4, 54, 55, 0, 0) := by decide +kernel
theorem s137_51 {L : Nat} {xs : Nat → Int32} {d x : Nat} {M : qxM} {st : List Value} {ls : qxL} : Rs L xs (d) 137 51 ls st M x = Rs L xs (d) 137 55 ls st M x := Rs_next c137_51 rfl
theorem c137_54 : qx_code 137 54 = some (54, .iconst (-1), 55, 0, 0, 0) := by decide +kernel
theorem s137_54 {L : Nat} {xs : Nat → Int32} {d x : Nat} {M : qxM} {st : List Value} {ls : qxL} : Rs L xs (d) 137 54 ls st M x = Rs L xs (d) 137 55 ls (.int (-1) :: st) M x := Rs_next c137_54 rfl
theorem c137_55 : qx_code 137 55 = some (55, .ireturn, 56, 0, 0, 0) := by decide +kernel
theorem s137_55 {L : Nat} {xs : Nat → Int32} {d x : Nat} {M : qxM} {ls : qxL} {z : Int32} : Rs L xs (d) 137 55 ls [.int z] M x = some (.inl (some (.int z)), M, x) := Rs_ret c137_55 rfl
theorem c138_0 : qx_code 138 0 = some (0, .aload_n 0, 1, 0, 0, 0) := by decide +kernel
theorem s138_0 {L : Nat} {xs : Nat → Int32} {d x : Nat} {M : qxM} {st : List Value} {a1 : Option Value} {z : Nat} : Rs L xs (d) 138 0 [some (.ref z), a1] st M x = Rs L xs (d) 138 1 [some (.ref z), a1] (.ref z :: st) M x := Rs_next c138_0 rfl
theorem c138_1 : qx_code 138 1 = some (1, .iload_n 1, 2, 0, 0, 0) := by decide +kernel
theorem s138_1 {L : Nat} {xs : Nat → Int32} {d x : Nat} {M : qxM} {st : List Value} {a0 : Option Value} {z : Int32} : Rs L xs (d) 138 1 [a0, some (.int z)] st M x = Rs L xs (d) 138 2 [a0, some (.int z)] (.int z :: st) M x := Rs_next c138_1 rfl
theorem c138_2 : qx_code 138 2 = some (2, .invokevirtual 148, 5, 160, 2, 780) := by decide +kernel
theorem s138_2 {L : Nat} {xs : Nat → Int32} {d x : Nat} {M : qxM} {st : List Value} {ls : qxL} {t : Nat} {z0 : Int32} (hk : qx_kd t = 17) (hs : st.length ≤ 4) : Rs L xs (d + 1) 138 2 ls (.int z0 :: .ref t :: st) M x = (Rs L xs d 160 0 [some (.ref t), some (.int z0)] [] M 0).bind (qx_kn L xs (d + 1) 138 2 5 160 ls st x) := by
  have h1 : qx_act L xs (qx_rt 138) (2, .invokevirtual 148, 5, 160, 2, 780) ls (.int z0 :: .ref t :: st) M = if 2 ≤ (.int z0 :: .ref t :: st).length ∧ st.length ≤ 4 then some (.inr (.inr (.inr (160, [.ref t, .int z0], st)))) else none := rfl
  rw [if_pos ⟨by simp [List.length_cons]; try omega, hs⟩] at h1
  have h2 := qx_kd_obj (k := 7) (by decide) hk
  exact Rs_call c138_2 h1 (by rw [show qx_args 160 [.ref t, .int z0] = decide (qx_sh t = some (.inl 7)) from rfl]; exact decide_eq_true h2)
theorem c138_5 : qx_code 138 5 = some (5, .aload_n 0, 6, 0, 0, 0) := by decide +kernel
theorem s138_5 {L : Nat} {xs : Nat → Int32} {d x : Nat} {M : qxM} {st : List Value} {a1 : Option Value} {z : Nat} : Rs L xs (d) 138 5 [some (.ref z), a1] st M x = Rs L xs (d) 138 6 [some (.ref z), a1] (.ref z :: st) M x := Rs_next c138_5 rfl
theorem c138_6 : qx_code 138 6 = some (6, .getfield 37, 9, 7, 4, 385) := by decide +kernel
theorem s138_6 {L : Nat} {xs : Nat → Int32} {d x : Nat} {M : qxM} {st : List Value} {ls : qxL} {t : Nat} (hk : qx_kd t = 17) : Rs L xs (d) 138 6 ls (.ref t :: st) M x = Rs L xs (d) 138 9 ls (.ref (t + 110) :: st) M x := Rs_when (qx_kd_obj (k := 7) (by decide) hk) c138_6 rfl
theorem c138_9 : qx_code 138 9 = some (9, .aload_n 0, 10, 0, 0, 0) := by decide +kernel
theorem s138_9 {L : Nat} {xs : Nat → Int32} {d x : Nat} {M : qxM} {st : List Value} {a1 : Option Value} {z : Nat} : Rs L xs (d) 138 9 [some (.ref z), a1] st M x = Rs L xs (d) 138 10 [some (.ref z), a1] (.ref z :: st) M x := Rs_next c138_9 rfl
theorem c138_10 : qx_code 138 10 = some (10, .getfield 33, 13, 7, 3, 384) := by decide +kernel
theorem s138_10 {L : Nat} {xs : Nat → Int32} {d x : Nat} {M : qxM} {st : List Value} {ls : qxL} {t : Nat} (hk : qx_kd t = 17) : Rs L xs (d) 138 10 ls (.ref t :: st) M x = Rs L xs (d) 138 13 ls (.ref (t + 90) :: st) M x := Rs_when (qx_kd_obj (k := 7) (by decide) hk) c138_10 rfl
theorem c138_13 : qx_code 138 13 = some (13, .getfield 93, 16, 4, 0, 356) := by decide +kernel
theorem s138_13 {L : Nat} {xs : Nat → Int32} {d x : Nat} {M : qxM} {st : List Value} {ls : qxL} {t : Nat} (hk : qx_kd t = 14) : Rs L xs (d) 138 13 ls (.ref t :: st) M x = Rs L xs (d) 138 16 ls (.ref (t + 1) :: st) M x := Rs_when (qx_kd_obj (k := 4) (by decide) hk) c138_13 rfl
theorem c138_16 : qx_code 138 16 = some (16, .iload_n 1, 17, 0, 0, 0) := by decide +kernel
theorem s138_16 {L : Nat} {xs : Nat → Int32} {d x : Nat} {M : qxM} {st : List Value} {a0 : Option Value} {z : Int32} : Rs L xs (d) 138 16 [a0, some (.int z)] st M x = Rs L xs (d) 138 17 [a0, some (.int z)] (.int z :: st) M x := Rs_next c138_16 rfl
theorem c138_17 : qx_code 138 17 = some (17, .invokevirtual 321, 20, 75, 3, 1231) := by decide +kernel
theorem s138_17 {L : Nat} {xs : Nat → Int32} {d x : Nat} {M : qxM} {st : List Value} {ls : qxL} {t : Nat} {z0 : Nat} {z1 : Int32} (hk : qx_kd t = 14) (hs : st.length ≤ 4) : Rs L xs (d + 1) 138 17 ls (.int z1 :: .ref z0 :: .ref t :: st) M x = (Rs L xs d 75 0 [some (.ref t), some (.ref z0), some (.int z1)] [] M 0).bind (qx_kn L xs (d + 1) 138 17 20 75 ls st x) := by
  have h1 : qx_act L xs (qx_rt 138) (17, .invokevirtual 321, 20, 75, 3, 1231) ls (.int z1 :: .ref z0 :: .ref t :: st) M = if 3 ≤ (.int z1 :: .ref z0 :: .ref t :: st).length ∧ st.length ≤ 4 then some (.inr (.inr (.inr (75, [.ref t, .ref z0, .int z1], st)))) else none := rfl
  rw [if_pos ⟨by simp [List.length_cons]; try omega, hs⟩] at h1
  have h2 := qx_kd_obj (k := 4) (by decide) hk
  exact Rs_call c138_17 h1 (by rw [show qx_args 75 [.ref t, .ref z0, .int z1] = decide (qx_sh t = some (.inl 4)) from rfl]; exact decide_eq_true h2)
theorem c138_20 : qx_code 138 20 = some (20, .aload_n 0, 21, 0, 0, 0) := by decide +kernel
theorem s138_20 {L : Nat} {xs : Nat → Int32} {d x : Nat} {M : qxM} {st : List Value} {a1 : Option Value} {z : Nat} : Rs L xs (d) 138 20 [some (.ref z), a1] st M x = Rs L xs (d) 138 21 [some (.ref z), a1] (.ref z :: st) M x := Rs_next c138_20 rfl
theorem c138_21 : qx_code 138 21 = some (21, .getfield 37, 24, 7, 4, 385) := by decide +kernel
theorem s138_21 {L : Nat} {xs : Nat → Int32} {d x : Nat} {M : qxM} {st : List Value} {ls : qxL} {t : Nat} (hk : qx_kd t = 17) : Rs L xs (d) 138 21 ls (.ref t :: st) M x = Rs L xs (d) 138 24 ls (.ref (t + 110) :: st) M x := Rs_when (qx_kd_obj (k := 7) (by decide) hk) c138_21 rfl
theorem c138_24 : qx_code 138 24 = some (24, .invokevirtual 324, 27, 77, 1, 1257) := by decide +kernel
theorem s138_24 {L : Nat} {xs : Nat → Int32} {d x : Nat} {M : qxM} {st : List Value} {ls : qxL} {t : Nat} (hk : qx_kd t = 14) (hs : st.length ≤ 4) : Rs L xs (d + 1) 138 24 ls (.ref t :: st) M x = (Rs L xs d 77 0 [some (.ref t), none, none, none] [] M 0).bind (qx_kn L xs (d + 1) 138 24 27 77 ls st x) := by
  have h1 : qx_act L xs (qx_rt 138) (24, .invokevirtual 324, 27, 77, 1, 1257) ls (.ref t :: st) M = if 1 ≤ (.ref t :: st).length ∧ st.length ≤ 4 then some (.inr (.inr (.inr (77, [.ref t], st)))) else none := rfl
  rw [if_pos ⟨by simp [List.length_cons]; try omega, hs⟩] at h1
  have h2 := qx_kd_obj (k := 4) (by decide) hk
  exact Rs_call c138_24 h1 (by rw [show qx_args 77 [.ref t] = decide (qx_sh t = some (.inl 4)) from rfl]; exact decide_eq_true h2)
theorem c138_27 : qx_code 138 27 = some (27, .pop, 28, 0, 0, 0) := by decide +kernel
theorem s138_27 {L : Nat} {xs : Nat → Int32} {d x : Nat} {M : qxM} {st : List Value} {ls : qxL} {z : Int32} : Rs L xs (d) 138 27 ls (.int z :: st) M x = Rs L xs (d) 138 28 ls st M x := Rs_next c138_27 rfl
theorem c138_28 : qx_code 138 28 = some (28, .aload_n 0, 29, 0, 0, 0) := by decide +kernel
theorem s138_28 {L : Nat} {xs : Nat → Int32} {d x : Nat} {M : qxM} {st : List Value} {a1 : Option Value} {z : Nat} : Rs L xs (d) 138 28 [some (.ref z), a1] st M x = Rs L xs (d) 138 29 [some (.ref z), a1] (.ref z :: st) M x := Rs_next c138_28 rfl
theorem c138_29 : qx_code 138 29 = some (29, .getfield 37, 32, 7, 4, 385) := by decide +kernel
theorem s138_29 {L : Nat} {xs : Nat → Int32} {d x : Nat} {M : qxM} {st : List Value} {ls : qxL} {t : Nat} (hk : qx_kd t = 17) : Rs L xs (d) 138 29 ls (.ref t :: st) M x = Rs L xs (d) 138 32 ls (.ref (t + 110) :: st) M x := Rs_when (qx_kd_obj (k := 7) (by decide) hk) c138_29 rfl
theorem c138_32 : qx_code 138 32 = some (32, .getfield 180, 35, 4, 1, 358) := by decide +kernel
theorem s138_32 {L : Nat} {xs : Nat → Int32} {d x : Nat} {M : qxM} {st : List Value} {ls : qxL} {t : Nat} (hk : qx_kd t = 14) : Rs L xs (d) 138 32 ls (.ref t :: st) M x = Rs L xs (d) 138 35 ls (.ref (t + 4) :: st) M x := Rs_when (qx_kd_obj (k := 4) (by decide) hk) c138_32 rfl
theorem c138_35 : qx_code 138 35 = some (35, .invokevirtual 189, 38, 56, 1, 835) := by decide +kernel
theorem s138_35 {L : Nat} {xs : Nat → Int32} {d x : Nat} {M : qxM} {st : List Value} {ls : qxL} {t : Nat} (hk : qx_kd t = 13) (hs : st.length ≤ 4) : Rs L xs (d + 1) 138 35 ls (.ref t :: st) M x = (Rs L xs d 56 0 [some (.ref t)] [] M 0).bind (qx_kn L xs (d + 1) 138 35 38 56 ls st x) := by
  have h1 : qx_act L xs (qx_rt 138) (35, .invokevirtual 189, 38, 56, 1, 835) ls (.ref t :: st) M = if 1 ≤ (.ref t :: st).length ∧ st.length ≤ 4 then some (.inr (.inr (.inr (56, [.ref t], st)))) else none := rfl
  rw [if_pos ⟨by simp [List.length_cons]; try omega, hs⟩] at h1
  have h2 := qx_kd_obj (k := 3) (by decide) hk
  exact Rs_call c138_35 h1 (by rw [show qx_args 56 [.ref t] = decide (qx_sh t = some (.inl 3)) from rfl]; exact decide_eq_true h2)
theorem c138_38 : qx_code 138 38 = some (38, .ifCond .eq 16, 41, 54, 0, 0) := by decide +kernel
theorem s138_38 {L : Nat} {xs : Nat → Int32} {d x : Nat} {M : qxM} {st : List Value} {ls : qxL} {z : Int32} : Rs L xs (d) 138 38 ls (.int z :: st) M x = if z = 0 then Rs L xs (d) 138 54 ls st M x else Rs L xs (d) 138 41 ls st M x := Rs_ite c138_38 rfl
theorem c138_41 : qx_code 138 41 = some (41, .aload_n 0, 42, 0, 0, 0) := by decide +kernel
theorem s138_41 {L : Nat} {xs : Nat → Int32} {d x : Nat} {M : qxM} {st : List Value} {a1 : Option Value} {z : Nat} : Rs L xs (d) 138 41 [some (.ref z), a1] st M x = Rs L xs (d) 138 42 [some (.ref z), a1] (.ref z :: st) M x := Rs_next c138_41 rfl
theorem c138_42 : qx_code 138 42 = some (42, .getfield 37, 45, 7, 4, 385) := by decide +kernel
theorem s138_42 {L : Nat} {xs : Nat → Int32} {d x : Nat} {M : qxM} {st : List Value} {ls : qxL} {t : Nat} (hk : qx_kd t = 17) : Rs L xs (d) 138 42 ls (.ref t :: st) M x = Rs L xs (d) 138 45 ls (.ref (t + 110) :: st) M x := Rs_when (qx_kd_obj (k := 7) (by decide) hk) c138_42 rfl
theorem c138_45 : qx_code 138 45 = some (45, .getfield 180, 48, 4, 1, 358) := by decide +kernel
theorem s138_45 {L : Nat} {xs : Nat → Int32} {d x : Nat} {M : qxM} {st : List Value} {ls : qxL} {t : Nat} (hk : qx_kd t = 14) : Rs L xs (d) 138 45 ls (.ref t :: st) M x = Rs L xs (d) 138 48 ls (.ref (t + 4) :: st) M x := Rs_when (qx_kd_obj (k := 4) (by decide) hk) c138_45 rfl
theorem c138_48 : qx_code 138 48 = some (48, .getfield 195, 51, 3, 2, 303) := by decide +kernel
theorem s138_48 {L : Nat} {xs : Nat → Int32} {d x : Nat} {M : qxM} {st : List Value} {ls : qxL} {t : Nat} (hk : qx_kd t = 13) : Rs L xs (d) 138 48 ls (.ref t :: st) M x = Rs L xs (d) 138 51 ls (.int (M.1 t 2) :: st) M x := Rs_when (qx_kd_obj (k := 3) (by decide) hk) c138_48 rfl
theorem c138_51 : qx_code 138 51 = some (51, .goto 4, 54, 55, 0, 0) := by decide +kernel
theorem s138_51 {L : Nat} {xs : Nat → Int32} {d x : Nat} {M : qxM} {st : List Value} {ls : qxL} : Rs L xs (d) 138 51 ls st M x = Rs L xs (d) 138 55 ls st M x := Rs_next c138_51 rfl
theorem c138_54 : qx_code 138 54 = some (54, .iconst (-1), 55, 0, 0, 0) := by decide +kernel
theorem s138_54 {L : Nat} {xs : Nat → Int32} {d x : Nat} {M : qxM} {st : List Value} {ls : qxL} : Rs L xs (d) 138 54 ls st M x = Rs L xs (d) 138 55 ls (.int (-1) :: st) M x := Rs_next c138_54 rfl
theorem c138_55 : qx_code 138 55 = some (55, .ireturn, 56, 0, 0, 0) := by decide +kernel
theorem s138_55 {L : Nat} {xs : Nat → Int32} {d x : Nat} {M : qxM} {ls : qxL} {z : Int32} : Rs L xs (d) 138 55 ls [.int z] M x = some (.inl (some (.int z)), M, x) := Rs_ret c138_55 rfl
theorem c139_0 : qx_code 139 0 = some (0, .aload_n 0, 1, 0, 0, 0) := by decide +kernel
theorem s139_0 {L : Nat} {xs : Nat → Int32} {d x : Nat} {M : qxM} {st : List Value} {a1 : Option Value} {z : Nat} : Rs L xs (d) 139 0 [some (.ref z), a1] st M x = Rs L xs (d) 139 1 [some (.ref z), a1] (.ref z :: st) M x := Rs_next c139_0 rfl
theorem c139_1 : qx_code 139 1 = some (1, .invokevirtual 107, 4, 159, 1, 728) := by decide +kernel
theorem s139_1 {L : Nat} {xs : Nat → Int32} {d x : Nat} {M : qxM} {st : List Value} {ls : qxL} {t : Nat} (hk : qx_kd t = 17) (hs : st.length ≤ 4) : Rs L xs (d + 1) 139 1 ls (.ref t :: st) M x = (Rs L xs d 159 0 [some (.ref t)] [] M 0).bind (qx_kn L xs (d + 1) 139 1 4 159 ls st x) := by
  have h1 : qx_act L xs (qx_rt 139) (1, .invokevirtual 107, 4, 159, 1, 728) ls (.ref t :: st) M = if 1 ≤ (.ref t :: st).length ∧ st.length ≤ 4 then some (.inr (.inr (.inr (159, [.ref t], st)))) else none := rfl
  rw [if_pos ⟨by simp [List.length_cons]; try omega, hs⟩] at h1
  have h2 := qx_kd_obj (k := 7) (by decide) hk
  exact Rs_call c139_1 h1 (by rw [show qx_args 159 [.ref t] = decide (qx_sh t = some (.inl 7)) from rfl]; exact decide_eq_true h2)
theorem c139_4 : qx_code 139 4 = some (4, .aload_n 0, 5, 0, 0, 0) := by decide +kernel
theorem s139_4 {L : Nat} {xs : Nat → Int32} {d x : Nat} {M : qxM} {st : List Value} {a1 : Option Value} {z : Nat} : Rs L xs (d) 139 4 [some (.ref z), a1] st M x = Rs L xs (d) 139 5 [some (.ref z), a1] (.ref z :: st) M x := Rs_next c139_4 rfl
theorem c139_5 : qx_code 139 5 = some (5, .getfield 33, 8, 7, 3, 384) := by decide +kernel
theorem s139_5 {L : Nat} {xs : Nat → Int32} {d x : Nat} {M : qxM} {st : List Value} {ls : qxL} {t : Nat} (hk : qx_kd t = 17) : Rs L xs (d) 139 5 ls (.ref t :: st) M x = Rs L xs (d) 139 8 ls (.ref (t + 90) :: st) M x := Rs_when (qx_kd_obj (k := 7) (by decide) hk) c139_5 rfl
theorem c139_8 : qx_code 139 8 = some (8, .getfield 93, 11, 4, 0, 356) := by decide +kernel
theorem s139_8 {L : Nat} {xs : Nat → Int32} {d x : Nat} {M : qxM} {st : List Value} {ls : qxL} {t : Nat} (hk : qx_kd t = 14) : Rs L xs (d) 139 8 ls (.ref t :: st) M x = Rs L xs (d) 139 11 ls (.ref (t + 1) :: st) M x := Rs_when (qx_kd_obj (k := 4) (by decide) hk) c139_8 rfl
theorem c139_11 : qx_code 139 11 = some (11, .getfield 96, 14, 2, 0, 166) := by decide +kernel
theorem s139_11 {L : Nat} {xs : Nat → Int32} {d x : Nat} {M : qxM} {st : List Value} {ls : qxL} {t : Nat} (hk : qx_kd t = 12) : Rs L xs (d) 139 11 ls (.ref t :: st) M x = Rs L xs (d) 139 14 ls (.int (M.1 t 0) :: st) M x := Rs_when (qx_kd_obj (k := 2) (by decide) hk) c139_11 rfl
theorem c139_14 : qx_code 139 14 = some (14, .istore_n 1, 15, 0, 0, 0) := by decide +kernel
theorem s139_14i {L : Nat} {xs : Nat → Int32} {d x : Nat} {M : qxM} {st : List Value} {a1 : Option Value} {z : Int32} {y : Int32} : Rs L xs (d) 139 14 [some (.int y), a1] (.int z :: st) M x = Rs L xs (d) 139 15 [some (.int y), some (.int z)] st M x := Rs_next c139_14 rfl
theorem s139_14r {L : Nat} {xs : Nat → Int32} {d x : Nat} {M : qxM} {st : List Value} {a1 : Option Value} {z : Int32} {y : Nat} : Rs L xs (d) 139 14 [some (.ref y), a1] (.int z :: st) M x = Rs L xs (d) 139 15 [some (.ref y), some (.int z)] st M x := Rs_next c139_14 rfl
theorem s139_14n {L : Nat} {xs : Nat → Int32} {d x : Nat} {M : qxM} {st : List Value} {a1 : Option Value} {z : Int32} : Rs L xs (d) 139 14 [none, a1] (.int z :: st) M x = Rs L xs (d) 139 15 [none, some (.int z)] st M x := Rs_next c139_14 rfl
theorem c139_15 : qx_code 139 15 = some (15, .iload_n 1, 16, 0, 0, 0) := by decide +kernel
theorem s139_15 {L : Nat} {xs : Nat → Int32} {d x : Nat} {M : qxM} {st : List Value} {a0 : Option Value} {z : Int32} : Rs L xs (d) 139 15 [a0, some (.int z)] st M x = Rs L xs (d) 139 16 [a0, some (.int z)] (.int z :: st) M x := Rs_next c139_15 rfl
theorem c139_16 : qx_code 139 16 = some (16, .ifCond .le 22, 19, 38, 0, 0) := by decide +kernel
theorem s139_16 {L : Nat} {xs : Nat → Int32} {d x : Nat} {M : qxM} {st : List Value} {ls : qxL} {z : Int32} : Rs L xs (d) 139 16 ls (.int z :: st) M x = if z ≤ 0 then Rs L xs (d) 139 38 ls st M x else Rs L xs (d) 139 19 ls st M x := Rs_ite c139_16 rfl
theorem c139_19 : qx_code 139 19 = some (19, .iconst 2, 20, 0, 0, 0) := by decide +kernel
theorem s139_19 {L : Nat} {xs : Nat → Int32} {d x : Nat} {M : qxM} {st : List Value} {ls : qxL} : Rs L xs (d) 139 19 ls st M x = Rs L xs (d) 139 20 ls (.int (nI 2) :: st) M x := Rs_next c139_19 rfl
theorem c139_20 : qx_code 139 20 = some (20, .aload_n 0, 21, 0, 0, 0) := by decide +kernel
theorem s139_20 {L : Nat} {xs : Nat → Int32} {d x : Nat} {M : qxM} {st : List Value} {a1 : Option Value} {z : Nat} : Rs L xs (d) 139 20 [some (.ref z), a1] st M x = Rs L xs (d) 139 21 [some (.ref z), a1] (.ref z :: st) M x := Rs_next c139_20 rfl
theorem c139_21 : qx_code 139 21 = some (21, .getfield 33, 24, 7, 3, 384) := by decide +kernel
theorem s139_21 {L : Nat} {xs : Nat → Int32} {d x : Nat} {M : qxM} {st : List Value} {ls : qxL} {t : Nat} (hk : qx_kd t = 17) : Rs L xs (d) 139 21 ls (.ref t :: st) M x = Rs L xs (d) 139 24 ls (.ref (t + 90) :: st) M x := Rs_when (qx_kd_obj (k := 7) (by decide) hk) c139_21 rfl
theorem c139_24 : qx_code 139 24 = some (24, .getfield 93, 27, 4, 0, 356) := by decide +kernel
theorem s139_24 {L : Nat} {xs : Nat → Int32} {d x : Nat} {M : qxM} {st : List Value} {ls : qxL} {t : Nat} (hk : qx_kd t = 14) : Rs L xs (d) 139 24 ls (.ref t :: st) M x = Rs L xs (d) 139 27 ls (.ref (t + 1) :: st) M x := Rs_when (qx_kd_obj (k := 4) (by decide) hk) c139_24 rfl
theorem c139_27 : qx_code 139 27 = some (27, .invokevirtual 118, 30, 45, 1, 763) := by decide +kernel
theorem s139_27 {L : Nat} {xs : Nat → Int32} {d x : Nat} {M : qxM} {st : List Value} {ls : qxL} {t : Nat} (hk : qx_kd t = 12) (hs : st.length ≤ 4) : Rs L xs (d + 1) 139 27 ls (.ref t :: st) M x = (Rs L xs d 45 0 [some (.ref t), none, none] [] M 0).bind (qx_kn L xs (d + 1) 139 27 30 45 ls st x) := by
  have h1 : qx_act L xs (qx_rt 139) (27, .invokevirtual 118, 30, 45, 1, 763) ls (.ref t :: st) M = if 1 ≤ (.ref t :: st).length ∧ st.length ≤ 4 then some (.inr (.inr (.inr (45, [.ref t], st)))) else none := rfl
  rw [if_pos ⟨by simp [List.length_cons]; try omega, hs⟩] at h1
  have h2 := qx_kd_obj (k := 2) (by decide) hk
  exact Rs_call c139_27 h1 (by rw [show qx_args 45 [.ref t] = decide (qx_sh t = some (.inl 2)) from rfl]; exact decide_eq_true h2)
theorem c139_30 : qx_code 139 30 = some (30, .imul, 31, 0, 0, 0) := by decide +kernel
theorem s139_30 {L : Nat} {xs : Nat → Int32} {d x : Nat} {M : qxM} {st : List Value} {ls : qxL} {z y : Int32} : Rs L xs (d) 139 30 ls (.int y :: .int z :: st) M x = Rs L xs (d) 139 31 ls (.int (z * y) :: st) M x := Rs_next c139_30 rfl
theorem c139_31 : qx_code 139 31 = some (31, .i2d, 32, 0, 0, 0) := by decide +kernel
theorem s139_31 {L : Nat} {xs : Nat → Int32} {d x : Nat} {M : qxM} {st : List Value} {ls : qxL} {z : Int32} : Rs L xs (d) 139 31 ls (.int z :: st) M x = Rs L xs (d) 139 32 ls (.double (FP.i2d z) :: st) M x := Rs_next c139_31 rfl
theorem c139_32 : qx_code 139 32 = some (32, .iload_n 1, 33, 0, 0, 0) := by decide +kernel
theorem s139_32 {L : Nat} {xs : Nat → Int32} {d x : Nat} {M : qxM} {st : List Value} {a0 : Option Value} {z : Int32} : Rs L xs (d) 139 32 [a0, some (.int z)] st M x = Rs L xs (d) 139 33 [a0, some (.int z)] (.int z :: st) M x := Rs_next c139_32 rfl
theorem c139_33 : qx_code 139 33 = some (33, .i2d, 34, 0, 0, 0) := by decide +kernel
theorem s139_33 {L : Nat} {xs : Nat → Int32} {d x : Nat} {M : qxM} {st : List Value} {ls : qxL} {z : Int32} : Rs L xs (d) 139 33 ls (.int z :: st) M x = Rs L xs (d) 139 34 ls (.double (FP.i2d z) :: st) M x := Rs_next c139_33 rfl
theorem c139_34 : qx_code 139 34 = some (34, .ddiv, 35, 0, 0, 0) := by decide +kernel
theorem s139_34 {L : Nat} {xs : Nat → Int32} {d x : Nat} {M : qxM} {st : List Value} {ls : qxL} {z y : UInt64} (h : FP.ddiv z y &&& 0x7fffffffffffffff ≤ 0x7ff0000000000000) : Rs L xs (d) 139 34 ls (.double y :: .double z :: st) M x = Rs L xs (d) 139 35 ls (.double (FP.ddiv z y) :: st) M x := Rs_when h c139_34 rfl
theorem c139_35 : qx_code 139 35 = some (35, .goto 4, 38, 39, 0, 0) := by decide +kernel
theorem s139_35 {L : Nat} {xs : Nat → Int32} {d x : Nat} {M : qxM} {st : List Value} {ls : qxL} : Rs L xs (d) 139 35 ls st M x = Rs L xs (d) 139 39 ls st M x := Rs_next c139_35 rfl
theorem c139_38 : qx_code 139 38 = some (38, .dconst 0, 39, 0, 0, 0) := by decide +kernel
theorem s139_38 {L : Nat} {xs : Nat → Int32} {d x : Nat} {M : qxM} {st : List Value} {ls : qxL} : Rs L xs (d) 139 38 ls st M x = Rs L xs (d) 139 39 ls (.double FP.dconst0 :: st) M x := Rs_next c139_38 rfl
theorem c139_39 : qx_code 139 39 = some (39, .dreturn, 40, 0, 0, 0) := by decide +kernel
theorem s139_39 {L : Nat} {xs : Nat → Int32} {d x : Nat} {M : qxM} {ls : qxL} {z : UInt64} : Rs L xs (d) 139 39 ls [.double z] M x = some (.inl (some (.double z)), M, x) := Rs_ret c139_39 rfl
theorem c140_0 : qx_code 140 0 = some (0, .aload_n 0, 1, 0, 0, 0) := by decide +kernel
theorem s140_0 {L : Nat} {xs : Nat → Int32} {d x : Nat} {M : qxM} {st : List Value} {a1 : Option Value} {z : Nat} : Rs L xs (d) 140 0 [some (.ref z), a1] st M x = Rs L xs (d) 140 1 [some (.ref z), a1] (.ref z :: st) M x := Rs_next c140_0 rfl
theorem c140_1 : qx_code 140 1 = some (1, .invokevirtual 107, 4, 159, 1, 728) := by decide +kernel
theorem s140_1 {L : Nat} {xs : Nat → Int32} {d x : Nat} {M : qxM} {st : List Value} {ls : qxL} {t : Nat} (hk : qx_kd t = 17) (hs : st.length ≤ 4) : Rs L xs (d + 1) 140 1 ls (.ref t :: st) M x = (Rs L xs d 159 0 [some (.ref t)] [] M 0).bind (qx_kn L xs (d + 1) 140 1 4 159 ls st x) := by
  have h1 : qx_act L xs (qx_rt 140) (1, .invokevirtual 107, 4, 159, 1, 728) ls (.ref t :: st) M = if 1 ≤ (.ref t :: st).length ∧ st.length ≤ 4 then some (.inr (.inr (.inr (159, [.ref t], st)))) else none := rfl
  rw [if_pos ⟨by simp [List.length_cons]; try omega, hs⟩] at h1
  have h2 := qx_kd_obj (k := 7) (by decide) hk
  exact Rs_call c140_1 h1 (by rw [show qx_args 159 [.ref t] = decide (qx_sh t = some (.inl 7)) from rfl]; exact decide_eq_true h2)
theorem c140_4 : qx_code 140 4 = some (4, .aload_n 0, 5, 0, 0, 0) := by decide +kernel
theorem s140_4 {L : Nat} {xs : Nat → Int32} {d x : Nat} {M : qxM} {st : List Value} {a1 : Option Value} {z : Nat} : Rs L xs (d) 140 4 [some (.ref z), a1] st M x = Rs L xs (d) 140 5 [some (.ref z), a1] (.ref z :: st) M x := Rs_next c140_4 rfl
theorem c140_5 : qx_code 140 5 = some (5, .getfield 33, 8, 7, 3, 384) := by decide +kernel
theorem s140_5 {L : Nat} {xs : Nat → Int32} {d x : Nat} {M : qxM} {st : List Value} {ls : qxL} {t : Nat} (hk : qx_kd t = 17) : Rs L xs (d) 140 5 ls (.ref t :: st) M x = Rs L xs (d) 140 8 ls (.ref (t + 90) :: st) M x := Rs_when (qx_kd_obj (k := 7) (by decide) hk) c140_5 rfl
theorem c140_8 : qx_code 140 8 = some (8, .getfield 93, 11, 4, 0, 356) := by decide +kernel
theorem s140_8 {L : Nat} {xs : Nat → Int32} {d x : Nat} {M : qxM} {st : List Value} {ls : qxL} {t : Nat} (hk : qx_kd t = 14) : Rs L xs (d) 140 8 ls (.ref t :: st) M x = Rs L xs (d) 140 11 ls (.ref (t + 1) :: st) M x := Rs_when (qx_kd_obj (k := 4) (by decide) hk) c140_8 rfl
theorem c140_11 : qx_code 140 11 = some (11, .getfield 96, 14, 2, 0, 166) := by decide +kernel
theorem s140_11 {L : Nat} {xs : Nat → Int32} {d x : Nat} {M : qxM} {st : List Value} {ls : qxL} {t : Nat} (hk : qx_kd t = 12) : Rs L xs (d) 140 11 ls (.ref t :: st) M x = Rs L xs (d) 140 14 ls (.int (M.1 t 0) :: st) M x := Rs_when (qx_kd_obj (k := 2) (by decide) hk) c140_11 rfl
theorem c140_14 : qx_code 140 14 = some (14, .istore_n 1, 15, 0, 0, 0) := by decide +kernel
theorem s140_14i {L : Nat} {xs : Nat → Int32} {d x : Nat} {M : qxM} {st : List Value} {a1 : Option Value} {z : Int32} {y : Int32} : Rs L xs (d) 140 14 [some (.int y), a1] (.int z :: st) M x = Rs L xs (d) 140 15 [some (.int y), some (.int z)] st M x := Rs_next c140_14 rfl
theorem s140_14r {L : Nat} {xs : Nat → Int32} {d x : Nat} {M : qxM} {st : List Value} {a1 : Option Value} {z : Int32} {y : Nat} : Rs L xs (d) 140 14 [some (.ref y), a1] (.int z :: st) M x = Rs L xs (d) 140 15 [some (.ref y), some (.int z)] st M x := Rs_next c140_14 rfl
theorem s140_14n {L : Nat} {xs : Nat → Int32} {d x : Nat} {M : qxM} {st : List Value} {a1 : Option Value} {z : Int32} : Rs L xs (d) 140 14 [none, a1] (.int z :: st) M x = Rs L xs (d) 140 15 [none, some (.int z)] st M x := Rs_next c140_14 rfl
theorem c140_15 : qx_code 140 15 = some (15, .iload_n 1, 16, 0, 0, 0) := by decide +kernel
theorem s140_15 {L : Nat} {xs : Nat → Int32} {d x : Nat} {M : qxM} {st : List Value} {a0 : Option Value} {z : Int32} : Rs L xs (d) 140 15 [a0, some (.int z)] st M x = Rs L xs (d) 140 16 [a0, some (.int z)] (.int z :: st) M x := Rs_next c140_15 rfl
theorem c140_16 : qx_code 140 16 = some (16, .ifCond .le 22, 19, 38, 0, 0) := by decide +kernel
theorem s140_16 {L : Nat} {xs : Nat → Int32} {d x : Nat} {M : qxM} {st : List Value} {ls : qxL} {z : Int32} : Rs L xs (d) 140 16 ls (.int z :: st) M x = if z ≤ 0 then Rs L xs (d) 140 38 ls st M x else Rs L xs (d) 140 19 ls st M x := Rs_ite c140_16 rfl
theorem c140_19 : qx_code 140 19 = some (19, .iconst 2, 20, 0, 0, 0) := by decide +kernel
theorem s140_19 {L : Nat} {xs : Nat → Int32} {d x : Nat} {M : qxM} {st : List Value} {ls : qxL} : Rs L xs (d) 140 19 ls st M x = Rs L xs (d) 140 20 ls (.int (nI 2) :: st) M x := Rs_next c140_19 rfl
theorem c140_20 : qx_code 140 20 = some (20, .aload_n 0, 21, 0, 0, 0) := by decide +kernel
theorem s140_20 {L : Nat} {xs : Nat → Int32} {d x : Nat} {M : qxM} {st : List Value} {a1 : Option Value} {z : Nat} : Rs L xs (d) 140 20 [some (.ref z), a1] st M x = Rs L xs (d) 140 21 [some (.ref z), a1] (.ref z :: st) M x := Rs_next c140_20 rfl
theorem c140_21 : qx_code 140 21 = some (21, .getfield 33, 24, 7, 3, 384) := by decide +kernel
theorem s140_21 {L : Nat} {xs : Nat → Int32} {d x : Nat} {M : qxM} {st : List Value} {ls : qxL} {t : Nat} (hk : qx_kd t = 17) : Rs L xs (d) 140 21 ls (.ref t :: st) M x = Rs L xs (d) 140 24 ls (.ref (t + 90) :: st) M x := Rs_when (qx_kd_obj (k := 7) (by decide) hk) c140_21 rfl
theorem c140_24 : qx_code 140 24 = some (24, .getfield 93, 27, 4, 0, 356) := by decide +kernel
theorem s140_24 {L : Nat} {xs : Nat → Int32} {d x : Nat} {M : qxM} {st : List Value} {ls : qxL} {t : Nat} (hk : qx_kd t = 14) : Rs L xs (d) 140 24 ls (.ref t :: st) M x = Rs L xs (d) 140 27 ls (.ref (t + 1) :: st) M x := Rs_when (qx_kd_obj (k := 4) (by decide) hk) c140_24 rfl
theorem c140_27 : qx_code 140 27 = some (27, .invokevirtual 121, 30, 48, 1, 767) := by decide +kernel
theorem s140_27 {L : Nat} {xs : Nat → Int32} {d x : Nat} {M : qxM} {st : List Value} {ls : qxL} {t : Nat} (hk : qx_kd t = 12) (hs : st.length ≤ 4) : Rs L xs (d + 1) 140 27 ls (.ref t :: st) M x = (Rs L xs d 48 0 [some (.ref t), none, none] [] M 0).bind (qx_kn L xs (d + 1) 140 27 30 48 ls st x) := by
  have h1 : qx_act L xs (qx_rt 140) (27, .invokevirtual 121, 30, 48, 1, 767) ls (.ref t :: st) M = if 1 ≤ (.ref t :: st).length ∧ st.length ≤ 4 then some (.inr (.inr (.inr (48, [.ref t], st)))) else none := rfl
  rw [if_pos ⟨by simp [List.length_cons]; try omega, hs⟩] at h1
  have h2 := qx_kd_obj (k := 2) (by decide) hk
  exact Rs_call c140_27 h1 (by rw [show qx_args 48 [.ref t] = decide (qx_sh t = some (.inl 2)) from rfl]; exact decide_eq_true h2)
theorem c140_30 : qx_code 140 30 = some (30, .imul, 31, 0, 0, 0) := by decide +kernel
theorem s140_30 {L : Nat} {xs : Nat → Int32} {d x : Nat} {M : qxM} {st : List Value} {ls : qxL} {z y : Int32} : Rs L xs (d) 140 30 ls (.int y :: .int z :: st) M x = Rs L xs (d) 140 31 ls (.int (z * y) :: st) M x := Rs_next c140_30 rfl
theorem c140_31 : qx_code 140 31 = some (31, .i2f, 32, 0, 0, 0) := by decide +kernel
theorem s140_31 {L : Nat} {xs : Nat → Int32} {d x : Nat} {M : qxM} {st : List Value} {ls : qxL} {z : Int32} : Rs L xs (d) 140 31 ls (.int z :: st) M x = Rs L xs (d) 140 32 ls (.float (FP.i2f z) :: st) M x := Rs_next c140_31 rfl
theorem c140_32 : qx_code 140 32 = some (32, .iload_n 1, 33, 0, 0, 0) := by decide +kernel
theorem s140_32 {L : Nat} {xs : Nat → Int32} {d x : Nat} {M : qxM} {st : List Value} {a0 : Option Value} {z : Int32} : Rs L xs (d) 140 32 [a0, some (.int z)] st M x = Rs L xs (d) 140 33 [a0, some (.int z)] (.int z :: st) M x := Rs_next c140_32 rfl
theorem c140_33 : qx_code 140 33 = some (33, .i2f, 34, 0, 0, 0) := by decide +kernel
theorem s140_33 {L : Nat} {xs : Nat → Int32} {d x : Nat} {M : qxM} {st : List Value} {ls : qxL} {z : Int32} : Rs L xs (d) 140 33 ls (.int z :: st) M x = Rs L xs (d) 140 34 ls (.float (FP.i2f z) :: st) M x := Rs_next c140_33 rfl
theorem c140_34 : qx_code 140 34 = some (34, .fdiv, 35, 0, 0, 0) := by decide +kernel
theorem s140_34 {L : Nat} {xs : Nat → Int32} {d x : Nat} {M : qxM} {st : List Value} {ls : qxL} {z y : UInt32} (h : FP.fdiv z y &&& 0x7fffffff ≤ 0x7f800000) : Rs L xs (d) 140 34 ls (.float y :: .float z :: st) M x = Rs L xs (d) 140 35 ls (.float (FP.fdiv z y) :: st) M x := Rs_when h c140_34 rfl
theorem c140_35 : qx_code 140 35 = some (35, .goto 4, 38, 39, 0, 0) := by decide +kernel
theorem s140_35 {L : Nat} {xs : Nat → Int32} {d x : Nat} {M : qxM} {st : List Value} {ls : qxL} : Rs L xs (d) 140 35 ls st M x = Rs L xs (d) 140 39 ls st M x := Rs_next c140_35 rfl
theorem c140_38 : qx_code 140 38 = some (38, .fconst 0, 39, 0, 0, 0) := by decide +kernel
theorem s140_38 {L : Nat} {xs : Nat → Int32} {d x : Nat} {M : qxM} {st : List Value} {ls : qxL} : Rs L xs (d) 140 38 ls st M x = Rs L xs (d) 140 39 ls (.float FP.fconst0 :: st) M x := Rs_next c140_38 rfl
theorem c140_39 : qx_code 140 39 = some (39, .freturn, 40, 0, 0, 0) := by decide +kernel
theorem s140_39 {L : Nat} {xs : Nat → Int32} {d x : Nat} {M : qxM} {ls : qxL} {z : UInt32} : Rs L xs (d) 140 39 ls [.float z] M x = some (.inl (some (.float z)), M, x) := Rs_ret c140_39 rfl
theorem c141_0 : qx_code 141 0 = some (0, .aload_n 0, 1, 0, 0, 0) := by decide +kernel
theorem s141_0 {L : Nat} {xs : Nat → Int32} {d x : Nat} {M : qxM} {st : List Value} {a1 a2 : Option Value} {z : Nat} : Rs L xs (d) 141 0 [some (.ref z), a1, a2] st M x = Rs L xs (d) 141 1 [some (.ref z), a1, a2] (.ref z :: st) M x := Rs_next c141_0 rfl
theorem c141_1 : qx_code 141 1 = some (1, .invokevirtual 107, 4, 159, 1, 728) := by decide +kernel
theorem s141_1 {L : Nat} {xs : Nat → Int32} {d x : Nat} {M : qxM} {st : List Value} {ls : qxL} {t : Nat} (hk : qx_kd t = 17) (hs : st.length ≤ 4) : Rs L xs (d + 1) 141 1 ls (.ref t :: st) M x = (Rs L xs d 159 0 [some (.ref t)] [] M 0).bind (qx_kn L xs (d + 1) 141 1 4 159 ls st x) := by
  have h1 : qx_act L xs (qx_rt 141) (1, .invokevirtual 107, 4, 159, 1, 728) ls (.ref t :: st) M = if 1 ≤ (.ref t :: st).length ∧ st.length ≤ 4 then some (.inr (.inr (.inr (159, [.ref t], st)))) else none := rfl
  rw [if_pos ⟨by simp [List.length_cons]; try omega, hs⟩] at h1
  have h2 := qx_kd_obj (k := 7) (by decide) hk
  exact Rs_call c141_1 h1 (by rw [show qx_args 159 [.ref t] = decide (qx_sh t = some (.inl 7)) from rfl]; exact decide_eq_true h2)
theorem c141_4 : qx_code 141 4 = some (4, .aload_n 0, 5, 0, 0, 0) := by decide +kernel
theorem s141_4 {L : Nat} {xs : Nat → Int32} {d x : Nat} {M : qxM} {st : List Value} {a1 a2 : Option Value} {z : Nat} : Rs L xs (d) 141 4 [some (.ref z), a1, a2] st M x = Rs L xs (d) 141 5 [some (.ref z), a1, a2] (.ref z :: st) M x := Rs_next c141_4 rfl
theorem c141_5 : qx_code 141 5 = some (5, .getfield 19, 8, 7, 1, 382) := by decide +kernel
theorem s141_5 {L : Nat} {xs : Nat → Int32} {d x : Nat} {M : qxM} {st : List Value} {ls : qxL} {t : Nat} (hk : qx_kd t = 17) : Rs L xs (d) 141 5 ls (.ref t :: st) M x = Rs L xs (d) 141 8 ls (.ref (t + 20) :: st) M x := Rs_when (qx_kd_obj (k := 7) (by decide) hk) c141_5 rfl
theorem c141_8 : qx_code 141 8 = some (8, .invokevirtual 327, 11, 79, 1, 1347) := by decide +kernel
theorem s141_8 {L : Nat} {xs : Nat → Int32} {d x : Nat} {M : qxM} {st : List Value} {ls : qxL} {t : Nat} (hk : qx_kd t = 15) (hs : st.length ≤ 4) : Rs L xs (d + 1) 141 8 ls (.ref t :: st) M x = (Rs L xs d 79 0 [some (.ref t)] [] M 0).bind (qx_kn L xs (d + 1) 141 8 11 79 ls st x) := by
  have h1 : qx_act L xs (qx_rt 141) (8, .invokevirtual 327, 11, 79, 1, 1347) ls (.ref t :: st) M = if 1 ≤ (.ref t :: st).length ∧ st.length ≤ 4 then some (.inr (.inr (.inr (79, [.ref t], st)))) else none := rfl
  rw [if_pos ⟨by simp [List.length_cons]; try omega, hs⟩] at h1
  have h2 := qx_kd_obj (k := 5) (by decide) hk
  exact Rs_call c141_8 h1 (by rw [show qx_args 79 [.ref t] = decide (qx_sh t = some (.inl 5)) from rfl]; exact decide_eq_true h2)
theorem c141_11 : qx_code 141 11 = some (11, .iconst 0, 12, 0, 0, 0) := by decide +kernel
theorem s141_11 {L : Nat} {xs : Nat → Int32} {d x : Nat} {M : qxM} {st : List Value} {ls : qxL} : Rs L xs (d) 141 11 ls st M x = Rs L xs (d) 141 12 ls (.int (nI 0) :: st) M x := Rs_next c141_11 rfl
theorem c141_12 : qx_code 141 12 = some (12, .istore_n 1, 13, 0, 0, 0) := by decide +kernel
theorem s141_12i {L : Nat} {xs : Nat → Int32} {d x : Nat} {M : qxM} {st : List Value} {a1 a2 : Option Value} {z : Int32} {y : Int32} : Rs L xs (d) 141 12 [some (.int y), a1, a2] (.int z :: st) M x = Rs L xs (d) 141 13 [some (.int y), some (.int z), a2] st M x := Rs_next c141_12 rfl
theorem s141_12r {L : Nat} {xs : Nat → Int32} {d x : Nat} {M : qxM} {st : List Value} {a1 a2 : Option Value} {z : Int32} {y : Nat} : Rs L xs (d) 141 12 [some (.ref y), a1, a2] (.int z :: st) M x = Rs L xs (d) 141 13 [some (.ref y), some (.int z), a2] st M x := Rs_next c141_12 rfl
theorem s141_12n {L : Nat} {xs : Nat → Int32} {d x : Nat} {M : qxM} {st : List Value} {a1 a2 : Option Value} {z : Int32} : Rs L xs (d) 141 12 [none, a1, a2] (.int z :: st) M x = Rs L xs (d) 141 13 [none, some (.int z), a2] st M x := Rs_next c141_12 rfl
theorem c141_13 : qx_code 141 13 = some (13, .iload_n 1, 14, 0, 0, 0) := by decide +kernel
theorem s141_13 {L : Nat} {xs : Nat → Int32} {d x : Nat} {M : qxM} {st : List Value} {a0 a2 : Option Value} {z : Int32} : Rs L xs (d) 141 13 [a0, some (.int z), a2] st M x = Rs L xs (d) 141 14 [a0, some (.int z), a2] (.int z :: st) M x := Rs_next c141_13 rfl
theorem c141_14 : qx_code 141 14 = some (14, .aload_n 0, 15, 0, 0, 0) := by decide +kernel
theorem s141_14 {L : Nat} {xs : Nat → Int32} {d x : Nat} {M : qxM} {st : List Value} {a1 a2 : Option Value} {z : Nat} : Rs L xs (d) 141 14 [some (.ref z), a1, a2] st M x = Rs L xs (d) 141 15 [some (.ref z), a1, a2] (.ref z :: st) M x := Rs_next c141_14 rfl
theorem c141_15 : qx_code 141 15 = some (15, .getfield 33, 18, 7, 3, 384) := by decide +kernel
theorem s141_15 {L : Nat} {xs : Nat → Int32} {d x : Nat} {M : qxM} {st : List Value} {ls : qxL} {t : Nat} (hk : qx_kd t = 17) : Rs L xs (d) 141 15 ls (.ref t :: st) M x = Rs L xs (d) 141 18 ls (.ref (t + 90) :: st) M x := Rs_when (qx_kd_obj (k := 7) (by decide) hk) c141_15 rfl
theorem c141_18 : qx_code 141 18 = some (18, .getfield 93, 21, 4, 0, 356) := by decide +kernel
theorem s141_18 {L : Nat} {xs : Nat → Int32} {d x : Nat} {M : qxM} {st : List Value} {ls : qxL} {t : Nat} (hk : qx_kd t = 14) : Rs L xs (d) 141 18 ls (.ref t :: st) M x = Rs L xs (d) 141 21 ls (.ref (t + 1) :: st) M x := Rs_when (qx_kd_obj (k := 4) (by decide) hk) c141_18 rfl
theorem c141_21 : qx_code 141 21 = some (21, .getfield 96, 24, 2, 0, 166) := by decide +kernel
theorem s141_21 {L : Nat} {xs : Nat → Int32} {d x : Nat} {M : qxM} {st : List Value} {ls : qxL} {t : Nat} (hk : qx_kd t = 12) : Rs L xs (d) 141 21 ls (.ref t :: st) M x = Rs L xs (d) 141 24 ls (.int (M.1 t 0) :: st) M x := Rs_when (qx_kd_obj (k := 2) (by decide) hk) c141_21 rfl
theorem c141_24 : qx_code 141 24 = some (24, .if_icmp .ge 60, 27, 84, 0, 0) := by decide +kernel
theorem s141_24 {L : Nat} {xs : Nat → Int32} {d x : Nat} {M : qxM} {st : List Value} {ls : qxL} {z y : Int32} : Rs L xs (d) 141 24 ls (.int y :: .int z :: st) M x = if y ≤ z then Rs L xs (d) 141 84 ls st M x else Rs L xs (d) 141 27 ls st M x := Rs_ite c141_24 rfl
theorem c141_27 : qx_code 141 27 = some (27, .aload_n 0, 28, 0, 0, 0) := by decide +kernel
theorem s141_27 {L : Nat} {xs : Nat → Int32} {d x : Nat} {M : qxM} {st : List Value} {a1 a2 : Option Value} {z : Nat} : Rs L xs (d) 141 27 [some (.ref z), a1, a2] st M x = Rs L xs (d) 141 28 [some (.ref z), a1, a2] (.ref z :: st) M x := Rs_next c141_27 rfl
theorem c141_28 : qx_code 141 28 = some (28, .getfield 33, 31, 7, 3, 384) := by decide +kernel
theorem s141_28 {L : Nat} {xs : Nat → Int32} {d x : Nat} {M : qxM} {st : List Value} {ls : qxL} {t : Nat} (hk : qx_kd t = 17) : Rs L xs (d) 141 28 ls (.ref t :: st) M x = Rs L xs (d) 141 31 ls (.ref (t + 90) :: st) M x := Rs_when (qx_kd_obj (k := 7) (by decide) hk) c141_28 rfl
theorem c141_31 : qx_code 141 31 = some (31, .getfield 93, 34, 4, 0, 356) := by decide +kernel
theorem s141_31 {L : Nat} {xs : Nat → Int32} {d x : Nat} {M : qxM} {st : List Value} {ls : qxL} {t : Nat} (hk : qx_kd t = 14) : Rs L xs (d) 141 31 ls (.ref t :: st) M x = Rs L xs (d) 141 34 ls (.ref (t + 1) :: st) M x := Rs_when (qx_kd_obj (k := 4) (by decide) hk) c141_31 rfl
theorem c141_34 : qx_code 141 34 = some (34, .iload_n 1, 35, 0, 0, 0) := by decide +kernel
theorem s141_34 {L : Nat} {xs : Nat → Int32} {d x : Nat} {M : qxM} {st : List Value} {a0 a2 : Option Value} {z : Int32} : Rs L xs (d) 141 34 [a0, some (.int z), a2] st M x = Rs L xs (d) 141 35 [a0, some (.int z), a2] (.int z :: st) M x := Rs_next c141_34 rfl
theorem c141_35 : qx_code 141 35 = some (35, .invokevirtual 160, 38, 46, 2, 791) := by decide +kernel
theorem s141_35 {L : Nat} {xs : Nat → Int32} {d x : Nat} {M : qxM} {st : List Value} {ls : qxL} {t : Nat} {z0 : Int32} (hk : qx_kd t = 12) (hs : st.length ≤ 4) : Rs L xs (d + 1) 141 35 ls (.int z0 :: .ref t :: st) M x = (Rs L xs d 46 0 [some (.ref t), some (.int z0)] [] M 0).bind (qx_kn L xs (d + 1) 141 35 38 46 ls st x) := by
  have h1 : qx_act L xs (qx_rt 141) (35, .invokevirtual 160, 38, 46, 2, 791) ls (.int z0 :: .ref t :: st) M = if 2 ≤ (.int z0 :: .ref t :: st).length ∧ st.length ≤ 4 then some (.inr (.inr (.inr (46, [.ref t, .int z0], st)))) else none := rfl
  rw [if_pos ⟨by simp [List.length_cons]; try omega, hs⟩] at h1
  have h2 := qx_kd_obj (k := 2) (by decide) hk
  exact Rs_call c141_35 h1 (by rw [show qx_args 46 [.ref t, .int z0] = decide (qx_sh t = some (.inl 2)) from rfl]; exact decide_eq_true h2)
theorem c141_38 : qx_code 141 38 = some (38, .istore_n 2, 39, 0, 0, 0) := by decide +kernel
theorem s141_38i {L : Nat} {xs : Nat → Int32} {d x : Nat} {M : qxM} {st : List Value} {a0 a2 : Option Value} {z : Int32} {y : Int32} : Rs L xs (d) 141 38 [a0, some (.int y), a2] (.int z :: st) M x = Rs L xs (d) 141 39 [a0, some (.int y), some (.int z)] st M x := Rs_next c141_38 rfl
theorem s141_38r {L : Nat} {xs : Nat → Int32} {d x : Nat} {M : qxM} {st : List Value} {a0 a2 : Option Value} {z : Int32} {y : Nat} : Rs L xs (d) 141 38 [a0, some (.ref y), a2] (.int z :: st) M x = Rs L xs (d) 141 39 [a0, some (.ref y), some (.int z)] st M x := Rs_next c141_38 rfl
theorem s141_38n {L : Nat} {xs : Nat → Int32} {d x : Nat} {M : qxM} {st : List Value} {a0 a2 : Option Value} {z : Int32} : Rs L xs (d) 141 38 [a0, none, a2] (.int z :: st) M x = Rs L xs (d) 141 39 [a0, none, some (.int z)] st M x := Rs_next c141_38 rfl
theorem c141_39 : qx_code 141 39 = some (39, .iload_n 2, 40, 0, 0, 0) := by decide +kernel
theorem s141_39 {L : Nat} {xs : Nat → Int32} {d x : Nat} {M : qxM} {st : List Value} {a0 a1 : Option Value} {z : Int32} : Rs L xs (d) 141 39 [a0, a1, some (.int z)] st M x = Rs L xs (d) 141 40 [a0, a1, some (.int z)] (.int z :: st) M x := Rs_next c141_39 rfl
theorem c141_40 : qx_code 141 40 = some (40, .iload_n 1, 41, 0, 0, 0) := by decide +kernel
theorem s141_40 {L : Nat} {xs : Nat → Int32} {d x : Nat} {M : qxM} {st : List Value} {a0 a2 : Option Value} {z : Int32} : Rs L xs (d) 141 40 [a0, some (.int z), a2] st M x = Rs L xs (d) 141 41 [a0, some (.int z), a2] (.int z :: st) M x := Rs_next c141_40 rfl
theorem c141_41 : qx_code 141 41 = some (41, .if_icmp .le 37, 44, 78, 0, 0) := by decide +kernel
theorem s141_41 {L : Nat} {xs : Nat → Int32} {d x : Nat} {M : qxM} {st : List Value} {ls : qxL} {z y : Int32} : Rs L xs (d) 141 41 ls (.int y :: .int z :: st) M x = if z ≤ y then Rs L xs (d) 141 78 ls st M x else Rs L xs (d) 141 44 ls st M x := Rs_ite c141_41 rfl
theorem c141_44 : qx_code 141 44 = some (44, .aload_n 0, 45, 0, 0, 0) := by decide +kernel
theorem s141_44 {L : Nat} {xs : Nat → Int32} {d x : Nat} {M : qxM} {st : List Value} {a1 a2 : Option Value} {z : Nat} : Rs L xs (d) 141 44 [some (.ref z), a1, a2] st M x = Rs L xs (d) 141 45 [some (.ref z), a1, a2] (.ref z :: st) M x := Rs_next c141_44 rfl
theorem c141_45 : qx_code 141 45 = some (45, .getfield 19, 48, 7, 1, 382) := by decide +kernel
theorem s141_45 {L : Nat} {xs : Nat → Int32} {d x : Nat} {M : qxM} {st : List Value} {ls : qxL} {t : Nat} (hk : qx_kd t = 17) : Rs L xs (d) 141 45 ls (.ref t :: st) M x = Rs L xs (d) 141 48 ls (.ref (t + 20) :: st) M x := Rs_when (qx_kd_obj (k := 7) (by decide) hk) c141_45 rfl
theorem c141_48 : qx_code 141 48 = some (48, .bipush 32, 50, 0, 0, 0) := by decide +kernel
theorem s141_48 {L : Nat} {xs : Nat → Int32} {d x : Nat} {M : qxM} {st : List Value} {ls : qxL} : Rs L xs (d) 141 48 ls st M x = Rs L xs (d) 141 50 ls (.int (nI 32) :: st) M x := Rs_next c141_48 rfl
theorem c141_50 : qx_code 141 50 = some (50, .invokevirtual 330, 53, 83, 2, 1351) := by decide +kernel
theorem s141_50 {L : Nat} {xs : Nat → Int32} {d x : Nat} {M : qxM} {st : List Value} {ls : qxL} {t : Nat} {z0 : Int32} (hk : qx_kd t = 15) (hs : st.length ≤ 4) : Rs L xs (d + 1) 141 50 ls (.int z0 :: .ref t :: st) M x = (Rs L xs d 83 0 [some (.ref t), some (.int z0)] [] M 0).bind (qx_kn L xs (d + 1) 141 50 53 83 ls st x) := by
  have h1 : qx_act L xs (qx_rt 141) (50, .invokevirtual 330, 53, 83, 2, 1351) ls (.int z0 :: .ref t :: st) M = if 2 ≤ (.int z0 :: .ref t :: st).length ∧ st.length ≤ 4 then some (.inr (.inr (.inr (83, [.ref t, .int z0], st)))) else none := rfl
  rw [if_pos ⟨by simp [List.length_cons]; try omega, hs⟩] at h1
  have h2 := qx_kd_obj (k := 5) (by decide) hk
  exact Rs_call c141_50 h1 (by rw [show qx_args 83 [.ref t, .int z0] = decide (qx_sh t = some (.inl 5)) from rfl]; exact decide_eq_true h2)
theorem c141_53 : qx_code 141 53 = some (53, .aload_n 0, 54, 0, 0, 0) := by decide +kernel
theorem s141_53 {L : Nat} {xs : Nat → Int32} {d x : Nat} {M : qxM} {st : List Value} {a1 a2 : Option Value} {z : Nat} : Rs L xs (d) 141 53 [some (.ref z), a1, a2] st M x = Rs L xs (d) 141 54 [some (.ref z), a1, a2] (.ref z :: st) M x := Rs_next c141_53 rfl
theorem c141_54 : qx_code 141 54 = some (54, .getfield 19, 57, 7, 1, 382) := by decide +kernel
theorem s141_54 {L : Nat} {xs : Nat → Int32} {d x : Nat} {M : qxM} {st : List Value} {ls : qxL} {t : Nat} (hk : qx_kd t = 17) : Rs L xs (d) 141 54 ls (.ref t :: st) M x = Rs L xs (d) 141 57 ls (.ref (t + 20) :: st) M x := Rs_when (qx_kd_obj (k := 7) (by decide) hk) c141_54 rfl
theorem c141_57 : qx_code 141 57 = some (57, .iload_n 1, 58, 0, 0, 0) := by decide +kernel
theorem s141_57 {L : Nat} {xs : Nat → Int32} {d x : Nat} {M : qxM} {st : List Value} {a0 a2 : Option Value} {z : Int32} : Rs L xs (d) 141 57 [a0, some (.int z), a2] st M x = Rs L xs (d) 141 58 [a0, some (.int z), a2] (.int z :: st) M x := Rs_next c141_57 rfl
theorem c141_58 : qx_code 141 58 = some (58, .invokevirtual 334, 61, 81, 2, 1359) := by decide +kernel
theorem s141_58 {L : Nat} {xs : Nat → Int32} {d x : Nat} {M : qxM} {st : List Value} {ls : qxL} {t : Nat} {z0 : Int32} (hk : qx_kd t = 15) (hs : st.length ≤ 4) : Rs L xs (d + 1) 141 58 ls (.int z0 :: .ref t :: st) M x = (Rs L xs d 81 0 [some (.ref t), some (.int z0)] [] M 0).bind (qx_kn L xs (d + 1) 141 58 61 81 ls st x) := by
  have h1 : qx_act L xs (qx_rt 141) (58, .invokevirtual 334, 61, 81, 2, 1359) ls (.int z0 :: .ref t :: st) M = if 2 ≤ (.int z0 :: .ref t :: st).length ∧ st.length ≤ 4 then some (.inr (.inr (.inr (81, [.ref t, .int z0], st)))) else none := rfl
  rw [if_pos ⟨by simp [List.length_cons]; try omega, hs⟩] at h1
  have h2 := qx_kd_obj (k := 5) (by decide) hk
  exact Rs_call c141_58 h1 (by rw [show qx_args 81 [.ref t, .int z0] = decide (qx_sh t = some (.inl 5)) from rfl]; exact decide_eq_true h2)
theorem c141_61 : qx_code 141 61 = some (61, .aload_n 0, 62, 0, 0, 0) := by decide +kernel
theorem s141_61 {L : Nat} {xs : Nat → Int32} {d x : Nat} {M : qxM} {st : List Value} {a1 a2 : Option Value} {z : Nat} : Rs L xs (d) 141 61 [some (.ref z), a1, a2] st M x = Rs L xs (d) 141 62 [some (.ref z), a1, a2] (.ref z :: st) M x := Rs_next c141_61 rfl
theorem c141_62 : qx_code 141 62 = some (62, .getfield 19, 65, 7, 1, 382) := by decide +kernel
theorem s141_62 {L : Nat} {xs : Nat → Int32} {d x : Nat} {M : qxM} {st : List Value} {ls : qxL} {t : Nat} (hk : qx_kd t = 17) : Rs L xs (d) 141 62 ls (.ref t :: st) M x = Rs L xs (d) 141 65 ls (.ref (t + 20) :: st) M x := Rs_when (qx_kd_obj (k := 7) (by decide) hk) c141_62 rfl
theorem c141_65 : qx_code 141 65 = some (65, .bipush 45, 67, 0, 0, 0) := by decide +kernel
theorem s141_65 {L : Nat} {xs : Nat → Int32} {d x : Nat} {M : qxM} {st : List Value} {ls : qxL} : Rs L xs (d) 141 65 ls st M x = Rs L xs (d) 141 67 ls (.int (nI 45) :: st) M x := Rs_next c141_65 rfl
theorem c141_67 : qx_code 141 67 = some (67, .invokevirtual 337, 70, 80, 2, 1363) := by decide +kernel
theorem s141_67 {L : Nat} {xs : Nat → Int32} {d x : Nat} {M : qxM} {st : List Value} {ls : qxL} {t : Nat} {z0 : Int32} (hk : qx_kd t = 15) (hs : st.length ≤ 4) : Rs L xs (d + 1) 141 67 ls (.int z0 :: .ref t :: st) M x = (Rs L xs d 80 0 [some (.ref t), some (.int z0)] [] M 0).bind (qx_kn L xs (d + 1) 141 67 70 80 ls st x) := by
  have h1 : qx_act L xs (qx_rt 141) (67, .invokevirtual 337, 70, 80, 2, 1363) ls (.int z0 :: .ref t :: st) M = if 2 ≤ (.int z0 :: .ref t :: st).length ∧ st.length ≤ 4 then some (.inr (.inr (.inr (80, [.ref t, .int z0], st)))) else none := rfl
  rw [if_pos ⟨by simp [List.length_cons]; try omega, hs⟩] at h1
  have h2 := qx_kd_obj (k := 5) (by decide) hk
  exact Rs_call c141_67 h1 (by rw [show qx_args 80 [.ref t, .int z0] = decide (qx_sh t = some (.inl 5)) from rfl]; exact decide_eq_true h2)
theorem c141_70 : qx_code 141 70 = some (70, .aload_n 0, 71, 0, 0, 0) := by decide +kernel
theorem s141_70 {L : Nat} {xs : Nat → Int32} {d x : Nat} {M : qxM} {st : List Value} {a1 a2 : Option Value} {z : Nat} : Rs L xs (d) 141 70 [some (.ref z), a1, a2] st M x = Rs L xs (d) 141 71 [some (.ref z), a1, a2] (.ref z :: st) M x := Rs_next c141_70 rfl
theorem c141_71 : qx_code 141 71 = some (71, .getfield 19, 74, 7, 1, 382) := by decide +kernel
theorem s141_71 {L : Nat} {xs : Nat → Int32} {d x : Nat} {M : qxM} {st : List Value} {ls : qxL} {t : Nat} (hk : qx_kd t = 17) : Rs L xs (d) 141 71 ls (.ref t :: st) M x = Rs L xs (d) 141 74 ls (.ref (t + 20) :: st) M x := Rs_when (qx_kd_obj (k := 7) (by decide) hk) c141_71 rfl
theorem c141_74 : qx_code 141 74 = some (74, .iload_n 2, 75, 0, 0, 0) := by decide +kernel
theorem s141_74 {L : Nat} {xs : Nat → Int32} {d x : Nat} {M : qxM} {st : List Value} {a0 a1 : Option Value} {z : Int32} : Rs L xs (d) 141 74 [a0, a1, some (.int z)] st M x = Rs L xs (d) 141 75 [a0, a1, some (.int z)] (.int z :: st) M x := Rs_next c141_74 rfl
theorem c141_75 : qx_code 141 75 = some (75, .invokevirtual 334, 78, 81, 2, 1359) := by decide +kernel
theorem s141_75 {L : Nat} {xs : Nat → Int32} {d x : Nat} {M : qxM} {st : List Value} {ls : qxL} {t : Nat} {z0 : Int32} (hk : qx_kd t = 15) (hs : st.length ≤ 4) : Rs L xs (d + 1) 141 75 ls (.int z0 :: .ref t :: st) M x = (Rs L xs d 81 0 [some (.ref t), some (.int z0)] [] M 0).bind (qx_kn L xs (d + 1) 141 75 78 81 ls st x) := by
  have h1 : qx_act L xs (qx_rt 141) (75, .invokevirtual 334, 78, 81, 2, 1359) ls (.int z0 :: .ref t :: st) M = if 2 ≤ (.int z0 :: .ref t :: st).length ∧ st.length ≤ 4 then some (.inr (.inr (.inr (81, [.ref t, .int z0], st)))) else none := rfl
  rw [if_pos ⟨by simp [List.length_cons]; try omega, hs⟩] at h1
  have h2 := qx_kd_obj (k := 5) (by decide) hk
  exact Rs_call c141_75 h1 (by rw [show qx_args 81 [.ref t, .int z0] = decide (qx_sh t = some (.inl 5)) from rfl]; exact decide_eq_true h2)
theorem c141_78 : qx_code 141 78 = some (78, .iinc 1 1, 81, 0, 0, 0) := by decide +kernel
theorem s141_78i {L : Nat} {xs : Nat → Int32} {d x : Nat} {M : qxM} {st : List Value} {a2 : Option Value} {z : Int32} {y : Int32} : Rs L xs (d) 141 78 [some (.int y), some (.int z), a2] st M x = Rs L xs (d) 141 81 [some (.int y), some (.int (z + (nI 1))), a2] st M x := Rs_next c141_78 rfl
theorem s141_78r {L : Nat} {xs : Nat → Int32} {d x : Nat} {M : qxM} {st : List Value} {a2 : Option Value} {z : Int32} {y : Nat} : Rs L xs (d) 141 78 [some (.ref y), some (.int z), a2] st M x = Rs L xs (d) 141 81 [some (.ref y), some (.int (z + (nI 1))), a2] st M x := Rs_next c141_78 rfl
theorem s141_78n {L : Nat} {xs : Nat → Int32} {d x : Nat} {M : qxM} {st : List Value} {a2 : Option Value} {z : Int32} : Rs L xs (d) 141 78 [none, some (.int z), a2] st M x = Rs L xs (d) 141 81 [none, some (.int (z + (nI 1))), a2] st M x := Rs_next c141_78 rfl
theorem c141_81 : qx_code 141 81 = some (81, .goto (-68), 84, 13, 0, 0) := by decide +kernel
theorem s141_81 {L : Nat} {xs : Nat → Int32} {d x : Nat} {M : qxM} {st : List Value} {ls : qxL} : Rs L xs (d) 141 81 ls st M x = Rs L xs (d) 141 13 ls st M x := Rs_next c141_81 rfl
theorem c141_84 : qx_code 141 84 = some (84, .aload_n 0, 85, 0, 0, 0) := by decide +kernel
theorem s141_84 {L : Nat} {xs : Nat → Int32} {d x : Nat} {M : qxM} {st : List Value} {a1 a2 : Option Value} {z : Nat} : Rs L xs (d) 141 84 [some (.ref z), a1, a2] st M x = Rs L xs (d) 141 85 [some (.ref z), a1, a2] (.ref z :: st) M x := Rs_next c141_84 rfl
theorem c141_85 : qx_code 141 85 = some (85, .getfield 19, 88, 7, 1, 382) := by decide +kernel
theorem s141_85 {L : Nat} {xs : Nat → Int32} {d x : Nat} {M : qxM} {st : List Value} {ls : qxL} {t : Nat} (hk : qx_kd t = 17) : Rs L xs (d) 141 85 ls (.ref t :: st) M x = Rs L xs (d) 141 88 ls (.ref (t + 20) :: st) M x := Rs_when (qx_kd_obj (k := 7) (by decide) hk) c141_85 rfl
theorem c141_88 : qx_code 141 88 = some (88, .invokevirtual 340, 91, 84, 1, 1364) := by decide +kernel
theorem s141_88 {L : Nat} {xs : Nat → Int32} {d x : Nat} {M : qxM} {st : List Value} {ls : qxL} {t : Nat} (hk : qx_kd t = 15) (hs : st.length ≤ 4) : Rs L xs (d + 1) 141 88 ls (.ref t :: st) M x = (Rs L xs d 84 0 [some (.ref t)] [] M 0).bind (qx_kn L xs (d + 1) 141 88 91 84 ls st x) := by
  have h1 : qx_act L xs (qx_rt 141) (88, .invokevirtual 340, 91, 84, 1, 1364) ls (.ref t :: st) M = if 1 ≤ (.ref t :: st).length ∧ st.length ≤ 4 then some (.inr (.inr (.inr (84, [.ref t], st)))) else none := rfl
  rw [if_pos ⟨by simp [List.length_cons]; try omega, hs⟩] at h1
  have h2 := qx_kd_obj (k := 5) (by decide) hk
  exact Rs_call c141_88 h1 (by rw [show qx_args 84 [.ref t] = decide (qx_sh t = some (.inl 5)) from rfl]; exact decide_eq_true h2)
theorem c141_91 : qx_code 141 91 = some (91, .ireturn, 92, 0, 0, 0) := by decide +kernel
theorem s141_91 {L : Nat} {xs : Nat → Int32} {d x : Nat} {M : qxM} {ls : qxL} {z : Int32} : Rs L xs (d) 141 91 ls [.int z] M x = some (.inl (some (.int z)), M, x) := Rs_ret c141_91 rfl
theorem c142_0 : qx_code 142 0 = some (0, .aload_n 0, 1, 0, 0, 0) := by decide +kernel
theorem s142_0 {L : Nat} {xs : Nat → Int32} {d x : Nat} {M : qxM} {st : List Value} {a1 a2 a3 : Option Value} {z : Nat} : Rs L xs (d) 142 0 [some (.ref z), a1, a2, a3] st M x = Rs L xs (d) 142 1 [some (.ref z), a1, a2, a3] (.ref z :: st) M x := Rs_next c142_0 rfl
theorem c142_1 : qx_code 142 1 = some (1, .invokevirtual 107, 4, 159, 1, 728) := by decide +kernel
theorem s142_1 {L : Nat} {xs : Nat → Int32} {d x : Nat} {M : qxM} {st : List Value} {ls : qxL} {t : Nat} (hk : qx_kd t = 17) (hs : st.length ≤ 4) : Rs L xs (d + 1) 142 1 ls (.ref t :: st) M x = (Rs L xs d 159 0 [some (.ref t)] [] M 0).bind (qx_kn L xs (d + 1) 142 1 4 159 ls st x) := by
  have h1 : qx_act L xs (qx_rt 142) (1, .invokevirtual 107, 4, 159, 1, 728) ls (.ref t :: st) M = if 1 ≤ (.ref t :: st).length ∧ st.length ≤ 4 then some (.inr (.inr (.inr (159, [.ref t], st)))) else none := rfl
  rw [if_pos ⟨by simp [List.length_cons]; try omega, hs⟩] at h1
  have h2 := qx_kd_obj (k := 7) (by decide) hk
  exact Rs_call c142_1 h1 (by rw [show qx_args 159 [.ref t] = decide (qx_sh t = some (.inl 7)) from rfl]; exact decide_eq_true h2)
theorem c142_4 : qx_code 142 4 = some (4, .aload_n 0, 5, 0, 0, 0) := by decide +kernel
theorem s142_4 {L : Nat} {xs : Nat → Int32} {d x : Nat} {M : qxM} {st : List Value} {a1 a2 a3 : Option Value} {z : Nat} : Rs L xs (d) 142 4 [some (.ref z), a1, a2, a3] st M x = Rs L xs (d) 142 5 [some (.ref z), a1, a2, a3] (.ref z :: st) M x := Rs_next c142_4 rfl
theorem c142_5 : qx_code 142 5 = some (5, .getfield 19, 8, 7, 1, 382) := by decide +kernel
theorem s142_5 {L : Nat} {xs : Nat → Int32} {d x : Nat} {M : qxM} {st : List Value} {ls : qxL} {t : Nat} (hk : qx_kd t = 17) : Rs L xs (d) 142 5 ls (.ref t :: st) M x = Rs L xs (d) 142 8 ls (.ref (t + 20) :: st) M x := Rs_when (qx_kd_obj (k := 7) (by decide) hk) c142_5 rfl
theorem c142_8 : qx_code 142 8 = some (8, .invokevirtual 327, 11, 79, 1, 1347) := by decide +kernel
theorem s142_8 {L : Nat} {xs : Nat → Int32} {d x : Nat} {M : qxM} {st : List Value} {ls : qxL} {t : Nat} (hk : qx_kd t = 15) (hs : st.length ≤ 4) : Rs L xs (d + 1) 142 8 ls (.ref t :: st) M x = (Rs L xs d 79 0 [some (.ref t)] [] M 0).bind (qx_kn L xs (d + 1) 142 8 11 79 ls st x) := by
  have h1 : qx_act L xs (qx_rt 142) (8, .invokevirtual 327, 11, 79, 1, 1347) ls (.ref t :: st) M = if 1 ≤ (.ref t :: st).length ∧ st.length ≤ 4 then some (.inr (.inr (.inr (79, [.ref t], st)))) else none := rfl
  rw [if_pos ⟨by simp [List.length_cons]; try omega, hs⟩] at h1
  have h2 := qx_kd_obj (k := 5) (by decide) hk
  exact Rs_call c142_8 h1 (by rw [show qx_args 79 [.ref t] = decide (qx_sh t = some (.inl 5)) from rfl]; exact decide_eq_true h2)
theorem c142_11 : qx_code 142 11 = some (11, .iconst 0, 12, 0, 0, 0) := by decide +kernel
theorem s142_11 {L : Nat} {xs : Nat → Int32} {d x : Nat} {M : qxM} {st : List Value} {ls : qxL} : Rs L xs (d) 142 11 ls st M x = Rs L xs (d) 142 12 ls (.int (nI 0) :: st) M x := Rs_next c142_11 rfl
theorem c142_12 : qx_code 142 12 = some (12, .istore_n 1, 13, 0, 0, 0) := by decide +kernel
theorem s142_12i {L : Nat} {xs : Nat → Int32} {d x : Nat} {M : qxM} {st : List Value} {a1 a2 a3 : Option Value} {z : Int32} {y : Int32} : Rs L xs (d) 142 12 [some (.int y), a1, a2, a3] (.int z :: st) M x = Rs L xs (d) 142 13 [some (.int y), some (.int z), a2, a3] st M x := Rs_next c142_12 rfl
theorem s142_12r {L : Nat} {xs : Nat → Int32} {d x : Nat} {M : qxM} {st : List Value} {a1 a2 a3 : Option Value} {z : Int32} {y : Nat} : Rs L xs (d) 142 12 [some (.ref y), a1, a2, a3] (.int z :: st) M x = Rs L xs (d) 142 13 [some (.ref y), some (.int z), a2, a3] st M x := Rs_next c142_12 rfl
theorem s142_12n {L : Nat} {xs : Nat → Int32} {d x : Nat} {M : qxM} {st : List Value} {a1 a2 a3 : Option Value} {z : Int32} : Rs L xs (d) 142 12 [none, a1, a2, a3] (.int z :: st) M x = Rs L xs (d) 142 13 [none, some (.int z), a2, a3] st M x := Rs_next c142_12 rfl
theorem c142_13 : qx_code 142 13 = some (13, .iload_n 1, 14, 0, 0, 0) := by decide +kernel
theorem s142_13 {L : Nat} {xs : Nat → Int32} {d x : Nat} {M : qxM} {st : List Value} {a0 a2 a3 : Option Value} {z : Int32} : Rs L xs (d) 142 13 [a0, some (.int z), a2, a3] st M x = Rs L xs (d) 142 14 [a0, some (.int z), a2, a3] (.int z :: st) M x := Rs_next c142_13 rfl
theorem c142_14 : qx_code 142 14 = some (14, .aload_n 0, 15, 0, 0, 0) := by decide +kernel
theorem s142_14 {L : Nat} {xs : Nat → Int32} {d x : Nat} {M : qxM} {st : List Value} {a1 a2 a3 : Option Value} {z : Nat} : Rs L xs (d) 142 14 [some (.ref z), a1, a2, a3] st M x = Rs L xs (d) 142 15 [some (.ref z), a1, a2, a3] (.ref z :: st) M x := Rs_next c142_14 rfl
theorem c142_15 : qx_code 142 15 = some (15, .getfield 33, 18, 7, 3, 384) := by decide +kernel
theorem s142_15 {L : Nat} {xs : Nat → Int32} {d x : Nat} {M : qxM} {st : List Value} {ls : qxL} {t : Nat} (hk : qx_kd t = 17) : Rs L xs (d) 142 15 ls (.ref t :: st) M x = Rs L xs (d) 142 18 ls (.ref (t + 90) :: st) M x := Rs_when (qx_kd_obj (k := 7) (by decide) hk) c142_15 rfl
theorem c142_18 : qx_code 142 18 = some (18, .getfield 93, 21, 4, 0, 356) := by decide +kernel
theorem s142_18 {L : Nat} {xs : Nat → Int32} {d x : Nat} {M : qxM} {st : List Value} {ls : qxL} {t : Nat} (hk : qx_kd t = 14) : Rs L xs (d) 142 18 ls (.ref t :: st) M x = Rs L xs (d) 142 21 ls (.ref (t + 1) :: st) M x := Rs_when (qx_kd_obj (k := 4) (by decide) hk) c142_18 rfl
theorem c142_21 : qx_code 142 21 = some (21, .getfield 96, 24, 2, 0, 166) := by decide +kernel
theorem s142_21 {L : Nat} {xs : Nat → Int32} {d x : Nat} {M : qxM} {st : List Value} {ls : qxL} {t : Nat} (hk : qx_kd t = 12) : Rs L xs (d) 142 21 ls (.ref t :: st) M x = Rs L xs (d) 142 24 ls (.int (M.1 t 0) :: st) M x := Rs_when (qx_kd_obj (k := 2) (by decide) hk) c142_21 rfl
theorem c142_24 : qx_code 142 24 = some (24, .if_icmp .ge 75, 27, 99, 0, 0) := by decide +kernel
theorem s142_24 {L : Nat} {xs : Nat → Int32} {d x : Nat} {M : qxM} {st : List Value} {ls : qxL} {z y : Int32} : Rs L xs (d) 142 24 ls (.int y :: .int z :: st) M x = if y ≤ z then Rs L xs (d) 142 99 ls st M x else Rs L xs (d) 142 27 ls st M x := Rs_ite c142_24 rfl
theorem c142_27 : qx_code 142 27 = some (27, .aload_n 0, 28, 0, 0, 0) := by decide +kernel
theorem s142_27 {L : Nat} {xs : Nat → Int32} {d x : Nat} {M : qxM} {st : List Value} {a1 a2 a3 : Option Value} {z : Nat} : Rs L xs (d) 142 27 [some (.ref z), a1, a2, a3] st M x = Rs L xs (d) 142 28 [some (.ref z), a1, a2, a3] (.ref z :: st) M x := Rs_next c142_27 rfl
theorem c142_28 : qx_code 142 28 = some (28, .iload_n 1, 29, 0, 0, 0) := by decide +kernel
theorem s142_28 {L : Nat} {xs : Nat → Int32} {d x : Nat} {M : qxM} {st : List Value} {a0 a2 a3 : Option Value} {z : Int32} : Rs L xs (d) 142 28 [a0, some (.int z), a2, a3] st M x = Rs L xs (d) 142 29 [a0, some (.int z), a2, a3] (.int z :: st) M x := Rs_next c142_28 rfl
theorem c142_29 : qx_code 142 29 = some (29, .invokevirtual 214, 32, 106, 2, 847) := by decide +kernel
theorem s142_29 {L : Nat} {xs : Nat → Int32} {d x : Nat} {M : qxM} {st : List Value} {ls : qxL} {t : Nat} {z0 : Int32} (hk : qx_kd t = 17) (hs : st.length ≤ 4) : Rs L xs (d + 1) 142 29 ls (.int z0 :: .ref t :: st) M x = (Rs L xs d 106 0 [some (.ref t), some (.int z0)] [] M 0).bind (qx_kn L xs (d + 1) 142 29 32 106 ls st x) := by
  have h1 : qx_act L xs (qx_rt 142) (29, .invokevirtual 214, 32, 106, 2, 847) ls (.int z0 :: .ref t :: st) M = if 2 ≤ (.int z0 :: .ref t :: st).length ∧ st.length ≤ 4 then some (.inr (.inr (.inr (106, [.ref t, .int z0], st)))) else none := rfl
  rw [if_pos ⟨by simp [List.length_cons]; try omega, hs⟩] at h1
  have h2 := qx_kd_obj (k := 7) (by decide) hk
  exact Rs_call c142_29 h1 (by rw [show qx_args 106 [.ref t, .int z0] = decide (qx_sh t = some (.inl 7)) from rfl]; exact decide_eq_true h2)
theorem c142_32 : qx_code 142 32 = some (32, .istore_n 2, 33, 0, 0, 0) := by decide +kernel
theorem s142_32i {L : Nat} {xs : Nat → Int32} {d x : Nat} {M : qxM} {st : List Value} {a0 a2 a3 : Option Value} {z : Int32} {y : Int32} : Rs L xs (d) 142 32 [a0, some (.int y), a2, a3] (.int z :: st) M x = Rs L xs (d) 142 33 [a0, some (.int y), some (.int z), a3] st M x := Rs_next c142_32 rfl
theorem s142_32r {L : Nat} {xs : Nat → Int32} {d x : Nat} {M : qxM} {st : List Value} {a0 a2 a3 : Option Value} {z : Int32} {y : Nat} : Rs L xs (d) 142 32 [a0, some (.ref y), a2, a3] (.int z :: st) M x = Rs L xs (d) 142 33 [a0, some (.ref y), some (.int z), a3] st M x := Rs_next c142_32 rfl
theorem s142_32n {L : Nat} {xs : Nat → Int32} {d x : Nat} {M : qxM} {st : List Value} {a0 a2 a3 : Option Value} {z : Int32} : Rs L xs (d) 142 32 [a0, none, a2, a3] (.int z :: st) M x = Rs L xs (d) 142 33 [a0, none, some (.int z), a3] st M x := Rs_next c142_32 rfl
theorem c142_33 : qx_code 142 33 = some (33, .aload_n 0, 34, 0, 0, 0) := by decide +kernel
theorem s142_33 {L : Nat} {xs : Nat → Int32} {d x : Nat} {M : qxM} {st : List Value} {a1 a2 a3 : Option Value} {z : Nat} : Rs L xs (d) 142 33 [some (.ref z), a1, a2, a3] st M x = Rs L xs (d) 142 34 [some (.ref z), a1, a2, a3] (.ref z :: st) M x := Rs_next c142_33 rfl
theorem c142_34 : qx_code 142 34 = some (34, .getfield 33, 37, 7, 3, 384) := by decide +kernel
theorem s142_34 {L : Nat} {xs : Nat → Int32} {d x : Nat} {M : qxM} {st : List Value} {ls : qxL} {t : Nat} (hk : qx_kd t = 17) : Rs L xs (d) 142 34 ls (.ref t :: st) M x = Rs L xs (d) 142 37 ls (.ref (t + 90) :: st) M x := Rs_when (qx_kd_obj (k := 7) (by decide) hk) c142_34 rfl
theorem c142_37 : qx_code 142 37 = some (37, .getfield 180, 40, 4, 1, 358) := by decide +kernel
theorem s142_37 {L : Nat} {xs : Nat → Int32} {d x : Nat} {M : qxM} {st : List Value} {ls : qxL} {t : Nat} (hk : qx_kd t = 14) : Rs L xs (d) 142 37 ls (.ref t :: st) M x = Rs L xs (d) 142 40 ls (.ref (t + 4) :: st) M x := Rs_when (qx_kd_obj (k := 4) (by decide) hk) c142_37 rfl
theorem c142_40 : qx_code 142 40 = some (40, .iload_n 1, 41, 0, 0, 0) := by decide +kernel
theorem s142_40 {L : Nat} {xs : Nat → Int32} {d x : Nat} {M : qxM} {st : List Value} {a0 a2 a3 : Option Value} {z : Int32} : Rs L xs (d) 142 40 [a0, some (.int z), a2, a3] st M x = Rs L xs (d) 142 41 [a0, some (.int z), a2, a3] (.int z :: st) M x := Rs_next c142_40 rfl
theorem c142_41 : qx_code 142 41 = some (41, .invokevirtual 211, 44, 57, 2, 872) := by decide +kernel
theorem s142_41 {L : Nat} {xs : Nat → Int32} {d x : Nat} {M : qxM} {st : List Value} {ls : qxL} {t : Nat} {z0 : Int32} (hk : qx_kd t = 13) (hs : st.length ≤ 4) : Rs L xs (d + 1) 142 41 ls (.int z0 :: .ref t :: st) M x = (Rs L xs d 57 0 [some (.ref t), some (.int z0)] [] M 0).bind (qx_kn L xs (d + 1) 142 41 44 57 ls st x) := by
  have h1 : qx_act L xs (qx_rt 142) (41, .invokevirtual 211, 44, 57, 2, 872) ls (.int z0 :: .ref t :: st) M = if 2 ≤ (.int z0 :: .ref t :: st).length ∧ st.length ≤ 4 then some (.inr (.inr (.inr (57, [.ref t, .int z0], st)))) else none := rfl
  rw [if_pos ⟨by simp [List.length_cons]; try omega, hs⟩] at h1
  have h2 := qx_kd_obj (k := 3) (by decide) hk
  exact Rs_call c142_41 h1 (by rw [show qx_args 57 [.ref t, .int z0] = decide (qx_sh t = some (.inl 3)) from rfl]; exact decide_eq_true h2)
theorem c142_44 : qx_code 142 44 = some (44, .istore_n 3, 45, 0, 0, 0) := by decide +kernel
theorem s142_44i {L : Nat} {xs : Nat → Int32} {d x : Nat} {M : qxM} {st : List Value} {a0 a1 a3 : Option Value} {z : Int32} {y : Int32} : Rs L xs (d) 142 44 [a0, a1, some (.int y), a3] (.int z :: st) M x = Rs L xs (d) 142 45 [a0, a1, some (.int y), some (.int z)] st M x := Rs_next c142_44 rfl
theorem s142_44r {L : Nat} {xs : Nat → Int32} {d x : Nat} {M : qxM} {st : List Value} {a0 a1 a3 : Option Value} {z : Int32} {y : Nat} : Rs L xs (d) 142 44 [a0, a1, some (.ref y), a3] (.int z :: st) M x = Rs L xs (d) 142 45 [a0, a1, some (.ref y), some (.int z)] st M x := Rs_next c142_44 rfl
theorem s142_44n {L : Nat} {xs : Nat → Int32} {d x : Nat} {M : qxM} {st : List Value} {a0 a1 a3 : Option Value} {z : Int32} : Rs L xs (d) 142 44 [a0, a1, none, a3] (.int z :: st) M x = Rs L xs (d) 142 45 [a0, a1, none, some (.int z)] st M x := Rs_next c142_44 rfl
theorem c142_45 : qx_code 142 45 = some (45, .iload_n 2, 46, 0, 0, 0) := by decide +kernel
theorem s142_45 {L : Nat} {xs : Nat → Int32} {d x : Nat} {M : qxM} {st : List Value} {a0 a1 a3 : Option Value} {z : Int32} : Rs L xs (d) 142 45 [a0, a1, some (.int z), a3] st M x = Rs L xs (d) 142 46 [a0, a1, some (.int z), a3] (.int z :: st) M x := Rs_next c142_45 rfl
theorem c142_46 : qx_code 142 46 = some (46, .iload_n 1, 47, 0, 0, 0) := by decide +kernel
theorem s142_46 {L : Nat} {xs : Nat → Int32} {d x : Nat} {M : qxM} {st : List Value} {a0 a2 a3 : Option Value} {z : Int32} : Rs L xs (d) 142 46 [a0, some (.int z), a2, a3] st M x = Rs L xs (d) 142 47 [a0, some (.int z), a2, a3] (.int z :: st) M x := Rs_next c142_46 rfl
theorem c142_47 : qx_code 142 47 = some (47, .invokestatic 256, 50, 172, 2, 861) := by decide +kernel
theorem s142_47 {L : Nat} {xs : Nat → Int32} {d x : Nat} {M : qxM} {st : List Value} {ls : qxL} {z0 : Int32} {z1 : Int32} (hs : st.length ≤ 4) : Rs L xs (d + 1) 142 47 ls (.int z1 :: .int z0 :: st) M x = (Rs L xs d 172 0 [some (.int z0), some (.int z1)] [] M 0).bind (qx_kn L xs (d + 1) 142 47 50 172 ls st x) := by
  have h1 : qx_act L xs (qx_rt 142) (47, .invokestatic 256, 50, 172, 2, 861) ls (.int z1 :: .int z0 :: st) M = if 2 ≤ (.int z1 :: .int z0 :: st).length ∧ st.length ≤ 4 then some (.inr (.inr (.inr (172, [.int z0, .int z1], st)))) else none := rfl
  rw [if_pos ⟨by simp [List.length_cons]; try omega, hs⟩] at h1
  exact Rs_call c142_47 h1 rfl
theorem c142_50 : qx_code 142 50 = some (50, .ifCond .eq 43, 53, 93, 0, 0) := by decide +kernel
theorem s142_50 {L : Nat} {xs : Nat → Int32} {d x : Nat} {M : qxM} {st : List Value} {ls : qxL} {z : Int32} : Rs L xs (d) 142 50 ls (.int z :: st) M x = if z = 0 then Rs L xs (d) 142 93 ls st M x else Rs L xs (d) 142 53 ls st M x := Rs_ite c142_50 rfl
theorem c142_53 : qx_code 142 53 = some (53, .iload_n 3, 54, 0, 0, 0) := by decide +kernel
theorem s142_53 {L : Nat} {xs : Nat → Int32} {d x : Nat} {M : qxM} {st : List Value} {a0 a1 a2 : Option Value} {z : Int32} : Rs L xs (d) 142 53 [a0, a1, a2, some (.int z)] st M x = Rs L xs (d) 142 54 [a0, a1, a2, some (.int z)] (.int z :: st) M x := Rs_next c142_53 rfl
theorem c142_54 : qx_code 142 54 = some (54, .ifCond .eq 39, 57, 93, 0, 0) := by decide +kernel
theorem s142_54 {L : Nat} {xs : Nat → Int32} {d x : Nat} {M : qxM} {st : List Value} {ls : qxL} {z : Int32} : Rs L xs (d) 142 54 ls (.int z :: st) M x = if z = 0 then Rs L xs (d) 142 93 ls st M x else Rs L xs (d) 142 57 ls st M x := Rs_ite c142_54 rfl
theorem c142_57 : qx_code 142 57 = some (57, .aload_n 0, 58, 0, 0, 0) := by decide +kernel
theorem s142_57 {L : Nat} {xs : Nat → Int32} {d x : Nat} {M : qxM} {st : List Value} {a1 a2 a3 : Option Value} {z : Nat} : Rs L xs (d) 142 57 [some (.ref z), a1, a2, a3] st M x = Rs L xs (d) 142 58 [some (.ref z), a1, a2, a3] (.ref z :: st) M x := Rs_next c142_57 rfl
theorem c142_58 : qx_code 142 58 = some (58, .getfield 19, 61, 7, 1, 382) := by decide +kernel
theorem s142_58 {L : Nat} {xs : Nat → Int32} {d x : Nat} {M : qxM} {st : List Value} {ls : qxL} {t : Nat} (hk : qx_kd t = 17) : Rs L xs (d) 142 58 ls (.ref t :: st) M x = Rs L xs (d) 142 61 ls (.ref (t + 20) :: st) M x := Rs_when (qx_kd_obj (k := 7) (by decide) hk) c142_58 rfl
theorem c142_61 : qx_code 142 61 = some (61, .bipush 32, 63, 0, 0, 0) := by decide +kernel
theorem s142_61 {L : Nat} {xs : Nat → Int32} {d x : Nat} {M : qxM} {st : List Value} {ls : qxL} : Rs L xs (d) 142 61 ls st M x = Rs L xs (d) 142 63 ls (.int (nI 32) :: st) M x := Rs_next c142_61 rfl
theorem c142_63 : qx_code 142 63 = some (63, .invokevirtual 330, 66, 83, 2, 1351) := by decide +kernel
theorem s142_63 {L : Nat} {xs : Nat → Int32} {d x : Nat} {M : qxM} {st : List Value} {ls : qxL} {t : Nat} {z0 : Int32} (hk : qx_kd t = 15) (hs : st.length ≤ 4) : Rs L xs (d + 1) 142 63 ls (.int z0 :: .ref t :: st) M x = (Rs L xs d 83 0 [some (.ref t), some (.int z0)] [] M 0).bind (qx_kn L xs (d + 1) 142 63 66 83 ls st x) := by
  have h1 : qx_act L xs (qx_rt 142) (63, .invokevirtual 330, 66, 83, 2, 1351) ls (.int z0 :: .ref t :: st) M = if 2 ≤ (.int z0 :: .ref t :: st).length ∧ st.length ≤ 4 then some (.inr (.inr (.inr (83, [.ref t, .int z0], st)))) else none := rfl
  rw [if_pos ⟨by simp [List.length_cons]; try omega, hs⟩] at h1
  have h2 := qx_kd_obj (k := 5) (by decide) hk
  exact Rs_call c142_63 h1 (by rw [show qx_args 83 [.ref t, .int z0] = decide (qx_sh t = some (.inl 5)) from rfl]; exact decide_eq_true h2)
theorem c142_66 : qx_code 142 66 = some (66, .aload_n 0, 67, 0, 0, 0) := by decide +kernel
theorem s142_66 {L : Nat} {xs : Nat → Int32} {d x : Nat} {M : qxM} {st : List Value} {a1 a2 a3 : Option Value} {z : Nat} : Rs L xs (d) 142 66 [some (.ref z), a1, a2, a3] st M x = Rs L xs (d) 142 67 [some (.ref z), a1, a2, a3] (.ref z :: st) M x := Rs_next c142_66 rfl
theorem c142_67 : qx_code 142 67 = some (67, .getfield 19, 70, 7, 1, 382) := by decide +kernel
theorem s142_67 {L : Nat} {xs : Nat → Int32} {d x : Nat} {M : qxM} {st : List Value} {ls : qxL} {t : Nat} (hk : qx_kd t = 17) : Rs L xs (d) 142 67 ls (.ref t :: st) M x = Rs L xs (d) 142 70 ls (.ref (t + 20) :: st) M x := Rs_when (qx_kd_obj (k := 7) (by decide) hk) c142_67 rfl
theorem c142_70 : qx_code 142 70 = some (70, .iload_n 2, 71, 0, 0, 0) := by decide +kernel
theorem s142_70 {L : Nat} {xs : Nat → Int32} {d x : Nat} {M : qxM} {st : List Value} {a0 a1 a3 : Option Value} {z : Int32} : Rs L xs (d) 142 70 [a0, a1, some (.int z), a3] st M x = Rs L xs (d) 142 71 [a0, a1, some (.int z), a3] (.int z :: st) M x := Rs_next c142_70 rfl
theorem c142_71 : qx_code 142 71 = some (71, .invokevirtual 343, 74, 82, 2, 1375) := by decide +kernel
theorem s142_71 {L : Nat} {xs : Nat → Int32} {d x : Nat} {M : qxM} {st : List Value} {ls : qxL} {t : Nat} {z0 : Int32} (hk : qx_kd t = 15) (hs : st.length ≤ 4) : Rs L xs (d + 1) 142 71 ls (.int z0 :: .ref t :: st) M x = (Rs L xs d 82 0 [some (.ref t), some (.int z0), none] [] M 0).bind (qx_kn L xs (d + 1) 142 71 74 82 ls st x) := by
  have h1 : qx_act L xs (qx_rt 142) (71, .invokevirtual 343, 74, 82, 2, 1375) ls (.int z0 :: .ref t :: st) M = if 2 ≤ (.int z0 :: .ref t :: st).length ∧ st.length ≤ 4 then some (.inr (.inr (.inr (82, [.ref t, .int z0], st)))) else none := rfl
  rw [if_pos ⟨by simp [List.length_cons]; try omega, hs⟩] at h1
  have h2 := qx_kd_obj (k := 5) (by decide) hk
  exact Rs_call c142_71 h1 (by rw [show qx_args 82 [.ref t, .int z0] = decide (qx_sh t = some (.inl 5)) from rfl]; exact decide_eq_true h2)
theorem c142_74 : qx_code 142 74 = some (74, .aload_n 0, 75, 0, 0, 0) := by decide +kernel
theorem s142_74 {L : Nat} {xs : Nat → Int32} {d x : Nat} {M : qxM} {st : List Value} {a1 a2 a3 : Option Value} {z : Nat} : Rs L xs (d) 142 74 [some (.ref z), a1, a2, a3] st M x = Rs L xs (d) 142 75 [some (.ref z), a1, a2, a3] (.ref z :: st) M x := Rs_next c142_74 rfl
theorem c142_75 : qx_code 142 75 = some (75, .getfield 19, 78, 7, 1, 382) := by decide +kernel
theorem s142_75 {L : Nat} {xs : Nat → Int32} {d x : Nat} {M : qxM} {st : List Value} {ls : qxL} {t : Nat} (hk : qx_kd t = 17) : Rs L xs (d) 142 75 ls (.ref t :: st) M x = Rs L xs (d) 142 78 ls (.ref (t + 20) :: st) M x := Rs_when (qx_kd_obj (k := 7) (by decide) hk) c142_75 rfl
theorem c142_78 : qx_code 142 78 = some (78, .iload_n 3, 79, 0, 0, 0) := by decide +kernel
theorem s142_78 {L : Nat} {xs : Nat → Int32} {d x : Nat} {M : qxM} {st : List Value} {a0 a1 a2 : Option Value} {z : Int32} : Rs L xs (d) 142 78 [a0, a1, a2, some (.int z)] st M x = Rs L xs (d) 142 79 [a0, a1, a2, some (.int z)] (.int z :: st) M x := Rs_next c142_78 rfl
theorem c142_79 : qx_code 142 79 = some (79, .iconst 1, 80, 0, 0, 0) := by decide +kernel
theorem s142_79 {L : Nat} {xs : Nat → Int32} {d x : Nat} {M : qxM} {st : List Value} {ls : qxL} : Rs L xs (d) 142 79 ls st M x = Rs L xs (d) 142 80 ls (.int (nI 1) :: st) M x := Rs_next c142_79 rfl
theorem c142_80 : qx_code 142 80 = some (80, .if_icmp .ne 8, 83, 88, 0, 0) := by decide +kernel
theorem s142_80 {L : Nat} {xs : Nat → Int32} {d x : Nat} {M : qxM} {st : List Value} {ls : qxL} {z y : Int32} : Rs L xs (d) 142 80 ls (.int y :: .int z :: st) M x = if z = y then Rs L xs (d) 142 83 ls st M x else Rs L xs (d) 142 88 ls st M x := Rs_ite c142_80 rfl
theorem c142_83 : qx_code 142 83 = some (83, .bipush 111, 85, 0, 0, 0) := by decide +kernel
theorem s142_83 {L : Nat} {xs : Nat → Int32} {d x : Nat} {M : qxM} {st : List Value} {ls : qxL} : Rs L xs (d) 142 83 ls st M x = Rs L xs (d) 142 85 ls (.int (nI 111) :: st) M x := Rs_next c142_83 rfl
theorem c142_85 : qx_code 142 85 = some (85, .goto 5, 88, 90, 0, 0) := by decide +kernel
theorem s142_85 {L : Nat} {xs : Nat → Int32} {d x : Nat} {M : qxM} {st : List Value} {ls : qxL} : Rs L xs (d) 142 85 ls st M x = Rs L xs (d) 142 90 ls st M x := Rs_next c142_85 rfl
theorem c142_88 : qx_code 142 88 = some (88, .bipush 105, 90, 0, 0, 0) := by decide +kernel
theorem s142_88 {L : Nat} {xs : Nat → Int32} {d x : Nat} {M : qxM} {st : List Value} {ls : qxL} : Rs L xs (d) 142 88 ls st M x = Rs L xs (d) 142 90 ls (.int (nI 105) :: st) M x := Rs_next c142_88 rfl
theorem c142_90 : qx_code 142 90 = some (90, .invokevirtual 337, 93, 80, 2, 1363) := by decide +kernel
theorem s142_90 {L : Nat} {xs : Nat → Int32} {d x : Nat} {M : qxM} {st : List Value} {ls : qxL} {t : Nat} {z0 : Int32} (hk : qx_kd t = 15) (hs : st.length ≤ 4) : Rs L xs (d + 1) 142 90 ls (.int z0 :: .ref t :: st) M x = (Rs L xs d 80 0 [some (.ref t), some (.int z0)] [] M 0).bind (qx_kn L xs (d + 1) 142 90 93 80 ls st x) := by
  have h1 : qx_act L xs (qx_rt 142) (90, .invokevirtual 337, 93, 80, 2, 1363) ls (.int z0 :: .ref t :: st) M = if 2 ≤ (.int z0 :: .ref t :: st).length ∧ st.length ≤ 4 then some (.inr (.inr (.inr (80, [.ref t, .int z0], st)))) else none := rfl
  rw [if_pos ⟨by simp [List.length_cons]; try omega, hs⟩] at h1
  have h2 := qx_kd_obj (k := 5) (by decide) hk
  exact Rs_call c142_90 h1 (by rw [show qx_args 80 [.ref t, .int z0] = decide (qx_sh t = some (.inl 5)) from rfl]; exact decide_eq_true h2)
theorem c142_93 : qx_code 142 93 = some (93, .iinc 1 1, 96, 0, 0, 0) := by decide +kernel
theorem s142_93i {L : Nat} {xs : Nat → Int32} {d x : Nat} {M : qxM} {st : List Value} {a2 a3 : Option Value} {z : Int32} {y : Int32} : Rs L xs (d) 142 93 [some (.int y), some (.int z), a2, a3] st M x = Rs L xs (d) 142 96 [some (.int y), some (.int (z + (nI 1))), a2, a3] st M x := Rs_next c142_93 rfl
theorem s142_93r {L : Nat} {xs : Nat → Int32} {d x : Nat} {M : qxM} {st : List Value} {a2 a3 : Option Value} {z : Int32} {y : Nat} : Rs L xs (d) 142 93 [some (.ref y), some (.int z), a2, a3] st M x = Rs L xs (d) 142 96 [some (.ref y), some (.int (z + (nI 1))), a2, a3] st M x := Rs_next c142_93 rfl
theorem s142_93n {L : Nat} {xs : Nat → Int32} {d x : Nat} {M : qxM} {st : List Value} {a2 a3 : Option Value} {z : Int32} : Rs L xs (d) 142 93 [none, some (.int z), a2, a3] st M x = Rs L xs (d) 142 96 [none, some (.int (z + (nI 1))), a2, a3] st M x := Rs_next c142_93 rfl
theorem c142_96 : qx_code 142 96 = some (96, .goto (-83), 99, 13, 0, 0) := by decide +kernel
theorem s142_96 {L : Nat} {xs : Nat → Int32} {d x : Nat} {M : qxM} {st : List Value} {ls : qxL} : Rs L xs (d) 142 96 ls st M x = Rs L xs (d) 142 13 ls st M x := Rs_next c142_96 rfl
theorem c142_99 : qx_code 142 99 = some (99, .aload_n 0, 100, 0, 0, 0) := by decide +kernel
theorem s142_99 {L : Nat} {xs : Nat → Int32} {d x : Nat} {M : qxM} {st : List Value} {a1 a2 a3 : Option Value} {z : Nat} : Rs L xs (d) 142 99 [some (.ref z), a1, a2, a3] st M x = Rs L xs (d) 142 100 [some (.ref z), a1, a2, a3] (.ref z :: st) M x := Rs_next c142_99 rfl
theorem c142_100 : qx_code 142 100 = some (100, .getfield 19, 103, 7, 1, 382) := by decide +kernel
theorem s142_100 {L : Nat} {xs : Nat → Int32} {d x : Nat} {M : qxM} {st : List Value} {ls : qxL} {t : Nat} (hk : qx_kd t = 17) : Rs L xs (d) 142 100 ls (.ref t :: st) M x = Rs L xs (d) 142 103 ls (.ref (t + 20) :: st) M x := Rs_when (qx_kd_obj (k := 7) (by decide) hk) c142_100 rfl
theorem c142_103 : qx_code 142 103 = some (103, .invokevirtual 340, 106, 84, 1, 1364) := by decide +kernel
theorem s142_103 {L : Nat} {xs : Nat → Int32} {d x : Nat} {M : qxM} {st : List Value} {ls : qxL} {t : Nat} (hk : qx_kd t = 15) (hs : st.length ≤ 4) : Rs L xs (d + 1) 142 103 ls (.ref t :: st) M x = (Rs L xs d 84 0 [some (.ref t)] [] M 0).bind (qx_kn L xs (d + 1) 142 103 106 84 ls st x) := by
  have h1 : qx_act L xs (qx_rt 142) (103, .invokevirtual 340, 106, 84, 1, 1364) ls (.ref t :: st) M = if 1 ≤ (.ref t :: st).length ∧ st.length ≤ 4 then some (.inr (.inr (.inr (84, [.ref t], st)))) else none := rfl
  rw [if_pos ⟨by simp [List.length_cons]; try omega, hs⟩] at h1
  have h2 := qx_kd_obj (k := 5) (by decide) hk
  exact Rs_call c142_103 h1 (by rw [show qx_args 84 [.ref t] = decide (qx_sh t = some (.inl 5)) from rfl]; exact decide_eq_true h2)
theorem c142_106 : qx_code 142 106 = some (106, .ireturn, 107, 0, 0, 0) := by decide +kernel
theorem s142_106 {L : Nat} {xs : Nat → Int32} {d x : Nat} {M : qxM} {ls : qxL} {z : Int32} : Rs L xs (d) 142 106 ls [.int z] M x = some (.inl (some (.int z)), M, x) := Rs_ret c142_106 rfl
theorem c143_0 : qx_code 143 0 = some (0, .aload_n 0, 1, 0, 0, 0) := by decide +kernel
theorem s143_0 {L : Nat} {xs : Nat → Int32} {d x : Nat} {M : qxM} {st : List Value} {a1 a2 a3 : Option Value} {z : Nat} : Rs L xs (d) 143 0 [some (.ref z), a1, a2, a3] st M x = Rs L xs (d) 143 1 [some (.ref z), a1, a2, a3] (.ref z :: st) M x := Rs_next c143_0 rfl
theorem c143_1 : qx_code 143 1 = some (1, .iload_n 1, 2, 0, 0, 0) := by decide +kernel
theorem s143_1 {L : Nat} {xs : Nat → Int32} {d x : Nat} {M : qxM} {st : List Value} {a0 a2 a3 : Option Value} {z : Int32} : Rs L xs (d) 143 1 [a0, some (.int z), a2, a3] st M x = Rs L xs (d) 143 2 [a0, some (.int z), a2, a3] (.int z :: st) M x := Rs_next c143_1 rfl
theorem c143_2 : qx_code 143 2 = some (2, .invokevirtual 148, 5, 160, 2, 780) := by decide +kernel
theorem s143_2 {L : Nat} {xs : Nat → Int32} {d x : Nat} {M : qxM} {st : List Value} {ls : qxL} {t : Nat} {z0 : Int32} (hk : qx_kd t = 17) (hs : st.length ≤ 4) : Rs L xs (d + 1) 143 2 ls (.int z0 :: .ref t :: st) M x = (Rs L xs d 160 0 [some (.ref t), some (.int z0)] [] M 0).bind (qx_kn L xs (d + 1) 143 2 5 160 ls st x) := by
  have h1 : qx_act L xs (qx_rt 143) (2, .invokevirtual 148, 5, 160, 2, 780) ls (.int z0 :: .ref t :: st) M = if 2 ≤ (.int z0 :: .ref t :: st).length ∧ st.length ≤ 4 then some (.inr (.inr (.inr (160, [.ref t, .int z0], st)))) else none := rfl
  rw [if_pos ⟨by simp [List.length_cons]; try omega, hs⟩] at h1
  have h2 := qx_kd_obj (k := 7) (by decide) hk
  exact Rs_call c143_2 h1 (by rw [show qx_args 160 [.ref t, .int z0] = decide (qx_sh t = some (.inl 7)) from rfl]; exact decide_eq_true h2)
theorem c143_5 : qx_code 143 5 = some (5, .aload_n 0, 6, 0, 0, 0) := by decide +kernel
theorem s143_5 {L : Nat} {xs : Nat → Int32} {d x : Nat} {M : qxM} {st : List Value} {a1 a2 a3 : Option Value} {z : Nat} : Rs L xs (d) 143 5 [some (.ref z), a1, a2, a3] st M x = Rs L xs (d) 143 6 [some (.ref z), a1, a2, a3] (.ref z :: st) M x := Rs_next c143_5 rfl
theorem c143_6 : qx_code 143 6 = some (6, .getfield 19, 9, 7, 1, 382) := by decide +kernel
theorem s143_6 {L : Nat} {xs : Nat → Int32} {d x : Nat} {M : qxM} {st : List Value} {ls : qxL} {t : Nat} (hk : qx_kd t = 17) : Rs L xs (d) 143 6 ls (.ref t :: st) M x = Rs L xs (d) 143 9 ls (.ref (t + 20) :: st) M x := Rs_when (qx_kd_obj (k := 7) (by decide) hk) c143_6 rfl
theorem c143_9 : qx_code 143 9 = some (9, .invokevirtual 327, 12, 79, 1, 1347) := by decide +kernel
theorem s143_9 {L : Nat} {xs : Nat → Int32} {d x : Nat} {M : qxM} {st : List Value} {ls : qxL} {t : Nat} (hk : qx_kd t = 15) (hs : st.length ≤ 4) : Rs L xs (d + 1) 143 9 ls (.ref t :: st) M x = (Rs L xs d 79 0 [some (.ref t)] [] M 0).bind (qx_kn L xs (d + 1) 143 9 12 79 ls st x) := by
  have h1 : qx_act L xs (qx_rt 143) (9, .invokevirtual 327, 12, 79, 1, 1347) ls (.ref t :: st) M = if 1 ≤ (.ref t :: st).length ∧ st.length ≤ 4 then some (.inr (.inr (.inr (79, [.ref t], st)))) else none := rfl
  rw [if_pos ⟨by simp [List.length_cons]; try omega, hs⟩] at h1
  have h2 := qx_kd_obj (k := 5) (by decide) hk
  exact Rs_call c143_9 h1 (by rw [show qx_args 79 [.ref t] = decide (qx_sh t = some (.inl 5)) from rfl]; exact decide_eq_true h2)
theorem c143_12 : qx_code 143 12 = some (12, .aload_n 0, 13, 0, 0, 0) := by decide +kernel
theorem s143_12 {L : Nat} {xs : Nat → Int32} {d x : Nat} {M : qxM} {st : List Value} {a1 a2 a3 : Option Value} {z : Nat} : Rs L xs (d) 143 12 [some (.ref z), a1, a2, a3] st M x = Rs L xs (d) 143 13 [some (.ref z), a1, a2, a3] (.ref z :: st) M x := Rs_next c143_12 rfl
theorem c143_13 : qx_code 143 13 = some (13, .getfield 33, 16, 7, 3, 384) := by decide +kernel
theorem s143_13 {L : Nat} {xs : Nat → Int32} {d x : Nat} {M : qxM} {st : List Value} {ls : qxL} {t : Nat} (hk : qx_kd t = 17) : Rs L xs (d) 143 13 ls (.ref t :: st) M x = Rs L xs (d) 143 16 ls (.ref (t + 90) :: st) M x := Rs_when (qx_kd_obj (k := 7) (by decide) hk) c143_13 rfl
theorem c143_16 : qx_code 143 16 = some (16, .getfield 180, 19, 4, 1, 358) := by decide +kernel
theorem s143_16 {L : Nat} {xs : Nat → Int32} {d x : Nat} {M : qxM} {st : List Value} {ls : qxL} {t : Nat} (hk : qx_kd t = 14) : Rs L xs (d) 143 16 ls (.ref t :: st) M x = Rs L xs (d) 143 19 ls (.ref (t + 4) :: st) M x := Rs_when (qx_kd_obj (k := 4) (by decide) hk) c143_16 rfl
theorem c143_19 : qx_code 143 19 = some (19, .iload_n 1, 20, 0, 0, 0) := by decide +kernel
theorem s143_19 {L : Nat} {xs : Nat → Int32} {d x : Nat} {M : qxM} {st : List Value} {a0 a2 a3 : Option Value} {z : Int32} : Rs L xs (d) 143 19 [a0, some (.int z), a2, a3] st M x = Rs L xs (d) 143 20 [a0, some (.int z), a2, a3] (.int z :: st) M x := Rs_next c143_19 rfl
theorem c143_20 : qx_code 143 20 = some (20, .invokevirtual 244, 23, 62, 2, 941) := by decide +kernel
theorem s143_20 {L : Nat} {xs : Nat → Int32} {d x : Nat} {M : qxM} {st : List Value} {ls : qxL} {t : Nat} {z0 : Int32} (hk : qx_kd t = 13) (hs : st.length ≤ 4) : Rs L xs (d + 1) 143 20 ls (.int z0 :: .ref t :: st) M x = (Rs L xs d 62 0 [some (.ref t), some (.int z0)] [] M 0).bind (qx_kn L xs (d + 1) 143 20 23 62 ls st x) := by
  have h1 : qx_act L xs (qx_rt 143) (20, .invokevirtual 244, 23, 62, 2, 941) ls (.int z0 :: .ref t :: st) M = if 2 ≤ (.int z0 :: .ref t :: st).length ∧ st.length ≤ 4 then some (.inr (.inr (.inr (62, [.ref t, .int z0], st)))) else none := rfl
  rw [if_pos ⟨by simp [List.length_cons]; try omega, hs⟩] at h1
  have h2 := qx_kd_obj (k := 3) (by decide) hk
  exact Rs_call c143_20 h1 (by rw [show qx_args 62 [.ref t, .int z0] = decide (qx_sh t = some (.inl 3)) from rfl]; exact decide_eq_true h2)
theorem c143_23 : qx_code 143 23 = some (23, .istore_n 2, 24, 0, 0, 0) := by decide +kernel
theorem s143_23i {L : Nat} {xs : Nat → Int32} {d x : Nat} {M : qxM} {st : List Value} {a0 a2 a3 : Option Value} {z : Int32} {y : Int32} : Rs L xs (d) 143 23 [a0, some (.int y), a2, a3] (.int z :: st) M x = Rs L xs (d) 143 24 [a0, some (.int y), some (.int z), a3] st M x := Rs_next c143_23 rfl
theorem s143_23r {L : Nat} {xs : Nat → Int32} {d x : Nat} {M : qxM} {st : List Value} {a0 a2 a3 : Option Value} {z : Int32} {y : Nat} : Rs L xs (d) 143 23 [a0, some (.ref y), a2, a3] (.int z :: st) M x = Rs L xs (d) 143 24 [a0, some (.ref y), some (.int z), a3] st M x := Rs_next c143_23 rfl
theorem s143_23n {L : Nat} {xs : Nat → Int32} {d x : Nat} {M : qxM} {st : List Value} {a0 a2 a3 : Option Value} {z : Int32} : Rs L xs (d) 143 23 [a0, none, a2, a3] (.int z :: st) M x = Rs L xs (d) 143 24 [a0, none, some (.int z), a3] st M x := Rs_next c143_23 rfl
theorem c143_24 : qx_code 143 24 = some (24, .iconst 0, 25, 0, 0, 0) := by decide +kernel
theorem s143_24 {L : Nat} {xs : Nat → Int32} {d x : Nat} {M : qxM} {st : List Value} {ls : qxL} : Rs L xs (d) 143 24 ls st M x = Rs L xs (d) 143 25 ls (.int (nI 0) :: st) M x := Rs_next c143_24 rfl
theorem c143_25 : qx_code 143 25 = some (25, .istore_n 3, 26, 0, 0, 0) := by decide +kernel
theorem s143_25i {L : Nat} {xs : Nat → Int32} {d x : Nat} {M : qxM} {st : List Value} {a0 a1 a3 : Option Value} {z : Int32} {y : Int32} : Rs L xs (d) 143 25 [a0, a1, some (.int y), a3] (.int z :: st) M x = Rs L xs (d) 143 26 [a0, a1, some (.int y), some (.int z)] st M x := Rs_next c143_25 rfl
theorem s143_25r {L : Nat} {xs : Nat → Int32} {d x : Nat} {M : qxM} {st : List Value} {a0 a1 a3 : Option Value} {z : Int32} {y : Nat} : Rs L xs (d) 143 25 [a0, a1, some (.ref y), a3] (.int z :: st) M x = Rs L xs (d) 143 26 [a0, a1, some (.ref y), some (.int z)] st M x := Rs_next c143_25 rfl
theorem s143_25n {L : Nat} {xs : Nat → Int32} {d x : Nat} {M : qxM} {st : List Value} {a0 a1 a3 : Option Value} {z : Int32} : Rs L xs (d) 143 25 [a0, a1, none, a3] (.int z :: st) M x = Rs L xs (d) 143 26 [a0, a1, none, some (.int z)] st M x := Rs_next c143_25 rfl
theorem c143_26 : qx_code 143 26 = some (26, .iload_n 3, 27, 0, 0, 0) := by decide +kernel
theorem s143_26 {L : Nat} {xs : Nat → Int32} {d x : Nat} {M : qxM} {st : List Value} {a0 a1 a2 : Option Value} {z : Int32} : Rs L xs (d) 143 26 [a0, a1, a2, some (.int z)] st M x = Rs L xs (d) 143 27 [a0, a1, a2, some (.int z)] (.int z :: st) M x := Rs_next c143_26 rfl
theorem c143_27 : qx_code 143 27 = some (27, .iload_n 2, 28, 0, 0, 0) := by decide +kernel
theorem s143_27 {L : Nat} {xs : Nat → Int32} {d x : Nat} {M : qxM} {st : List Value} {a0 a1 a3 : Option Value} {z : Int32} : Rs L xs (d) 143 27 [a0, a1, some (.int z), a3] st M x = Rs L xs (d) 143 28 [a0, a1, some (.int z), a3] (.int z :: st) M x := Rs_next c143_27 rfl
theorem c143_28 : qx_code 143 28 = some (28, .if_icmp .ge 40, 31, 68, 0, 0) := by decide +kernel
theorem s143_28 {L : Nat} {xs : Nat → Int32} {d x : Nat} {M : qxM} {st : List Value} {ls : qxL} {z y : Int32} : Rs L xs (d) 143 28 ls (.int y :: .int z :: st) M x = if y ≤ z then Rs L xs (d) 143 68 ls st M x else Rs L xs (d) 143 31 ls st M x := Rs_ite c143_28 rfl
theorem c143_31 : qx_code 143 31 = some (31, .aload_n 0, 32, 0, 0, 0) := by decide +kernel
theorem s143_31 {L : Nat} {xs : Nat → Int32} {d x : Nat} {M : qxM} {st : List Value} {a1 a2 a3 : Option Value} {z : Nat} : Rs L xs (d) 143 31 [some (.ref z), a1, a2, a3] st M x = Rs L xs (d) 143 32 [some (.ref z), a1, a2, a3] (.ref z :: st) M x := Rs_next c143_31 rfl
theorem c143_32 : qx_code 143 32 = some (32, .getfield 19, 35, 7, 1, 382) := by decide +kernel
theorem s143_32 {L : Nat} {xs : Nat → Int32} {d x : Nat} {M : qxM} {st : List Value} {ls : qxL} {t : Nat} (hk : qx_kd t = 17) : Rs L xs (d) 143 32 ls (.ref t :: st) M x = Rs L xs (d) 143 35 ls (.ref (t + 20) :: st) M x := Rs_when (qx_kd_obj (k := 7) (by decide) hk) c143_32 rfl
theorem c143_35 : qx_code 143 35 = some (35, .bipush 62, 37, 0, 0, 0) := by decide +kernel
theorem s143_35 {L : Nat} {xs : Nat → Int32} {d x : Nat} {M : qxM} {st : List Value} {ls : qxL} : Rs L xs (d) 143 35 ls st M x = Rs L xs (d) 143 37 ls (.int (nI 62) :: st) M x := Rs_next c143_35 rfl
theorem c143_37 : qx_code 143 37 = some (37, .invokevirtual 330, 40, 83, 2, 1351) := by decide +kernel
theorem s143_37 {L : Nat} {xs : Nat → Int32} {d x : Nat} {M : qxM} {st : List Value} {ls : qxL} {t : Nat} {z0 : Int32} (hk : qx_kd t = 15) (hs : st.length ≤ 4) : Rs L xs (d + 1) 143 37 ls (.int z0 :: .ref t :: st) M x = (Rs L xs d 83 0 [some (.ref t), some (.int z0)] [] M 0).bind (qx_kn L xs (d + 1) 143 37 40 83 ls st x) := by
  have h1 : qx_act L xs (qx_rt 143) (37, .invokevirtual 330, 40, 83, 2, 1351) ls (.int z0 :: .ref t :: st) M = if 2 ≤ (.int z0 :: .ref t :: st).length ∧ st.length ≤ 4 then some (.inr (.inr (.inr (83, [.ref t, .int z0], st)))) else none := rfl
  rw [if_pos ⟨by simp [List.length_cons]; try omega, hs⟩] at h1
  have h2 := qx_kd_obj (k := 5) (by decide) hk
  exact Rs_call c143_37 h1 (by rw [show qx_args 83 [.ref t, .int z0] = decide (qx_sh t = some (.inl 5)) from rfl]; exact decide_eq_true h2)
theorem c143_40 : qx_code 143 40 = some (40, .aload_n 0, 41, 0, 0, 0) := by decide +kernel
theorem s143_40 {L : Nat} {xs : Nat → Int32} {d x : Nat} {M : qxM} {st : List Value} {a1 a2 a3 : Option Value} {z : Nat} : Rs L xs (d) 143 40 [some (.ref z), a1, a2, a3] st M x = Rs L xs (d) 143 41 [some (.ref z), a1, a2, a3] (.ref z :: st) M x := Rs_next c143_40 rfl
theorem c143_41 : qx_code 143 41 = some (41, .getfield 19, 44, 7, 1, 382) := by decide +kernel
theorem s143_41 {L : Nat} {xs : Nat → Int32} {d x : Nat} {M : qxM} {st : List Value} {ls : qxL} {t : Nat} (hk : qx_kd t = 17) : Rs L xs (d) 143 41 ls (.ref t :: st) M x = Rs L xs (d) 143 44 ls (.ref (t + 20) :: st) M x := Rs_when (qx_kd_obj (k := 7) (by decide) hk) c143_41 rfl
theorem c143_44 : qx_code 143 44 = some (44, .aload_n 0, 45, 0, 0, 0) := by decide +kernel
theorem s143_44 {L : Nat} {xs : Nat → Int32} {d x : Nat} {M : qxM} {st : List Value} {a1 a2 a3 : Option Value} {z : Nat} : Rs L xs (d) 143 44 [some (.ref z), a1, a2, a3] st M x = Rs L xs (d) 143 45 [some (.ref z), a1, a2, a3] (.ref z :: st) M x := Rs_next c143_44 rfl
theorem c143_45 : qx_code 143 45 = some (45, .getfield 33, 48, 7, 3, 384) := by decide +kernel
theorem s143_45 {L : Nat} {xs : Nat → Int32} {d x : Nat} {M : qxM} {st : List Value} {ls : qxL} {t : Nat} (hk : qx_kd t = 17) : Rs L xs (d) 143 45 ls (.ref t :: st) M x = Rs L xs (d) 143 48 ls (.ref (t + 90) :: st) M x := Rs_when (qx_kd_obj (k := 7) (by decide) hk) c143_45 rfl
theorem c143_48 : qx_code 143 48 = some (48, .getfield 180, 51, 4, 1, 358) := by decide +kernel
theorem s143_48 {L : Nat} {xs : Nat → Int32} {d x : Nat} {M : qxM} {st : List Value} {ls : qxL} {t : Nat} (hk : qx_kd t = 14) : Rs L xs (d) 143 48 ls (.ref t :: st) M x = Rs L xs (d) 143 51 ls (.ref (t + 4) :: st) M x := Rs_when (qx_kd_obj (k := 4) (by decide) hk) c143_48 rfl
theorem c143_51 : qx_code 143 51 = some (51, .getfield 247, 54, 3, 14, 323) := by decide +kernel
theorem s143_51 {L : Nat} {xs : Nat → Int32} {d x : Nat} {M : qxM} {st : List Value} {ls : qxL} {t : Nat} (hk : qx_kd t = 13) : Rs L xs (d) 143 51 ls (.ref t :: st) M x = Rs L xs (d) 143 54 ls (.ref (t + 6) :: st) M x := Rs_when (qx_kd_obj (k := 3) (by decide) hk) c143_51 rfl
theorem c143_54 : qx_code 143 54 = some (54, .iload_n 1, 55, 0, 0, 0) := by decide +kernel
theorem s143_54 {L : Nat} {xs : Nat → Int32} {d x : Nat} {M : qxM} {st : List Value} {a0 a2 a3 : Option Value} {z : Int32} : Rs L xs (d) 143 54 [a0, some (.int z), a2, a3] st M x = Rs L xs (d) 143 55 [a0, some (.int z), a2, a3] (.int z :: st) M x := Rs_next c143_54 rfl
theorem c143_55 : qx_code 143 55 = some (55, .iload_n 3, 56, 0, 0, 0) := by decide +kernel
theorem s143_55 {L : Nat} {xs : Nat → Int32} {d x : Nat} {M : qxM} {st : List Value} {a0 a1 a2 : Option Value} {z : Int32} : Rs L xs (d) 143 55 [a0, a1, a2, some (.int z)] st M x = Rs L xs (d) 143 56 [a0, a1, a2, some (.int z)] (.int z :: st) M x := Rs_next c143_55 rfl
theorem c143_56 : qx_code 143 56 = some (56, .invokevirtual 251, 59, 88, 3, 956) := by decide +kernel
theorem s143_56 {L : Nat} {xs : Nat → Int32} {d x : Nat} {M : qxM} {st : List Value} {ls : qxL} {t : Nat} {z0 : Int32} {z1 : Int32} (hk : qx_kd t = 16) (hs : st.length ≤ 4) : Rs L xs (d + 1) 143 56 ls (.int z1 :: .int z0 :: .ref t :: st) M x = (Rs L xs d 88 0 [some (.ref t), some (.int z0), some (.int z1)] [] M 0).bind (qx_kn L xs (d + 1) 143 56 59 88 ls st x) := by
  have h1 : qx_act L xs (qx_rt 143) (56, .invokevirtual 251, 59, 88, 3, 956) ls (.int z1 :: .int z0 :: .ref t :: st) M = if 3 ≤ (.int z1 :: .int z0 :: .ref t :: st).length ∧ st.length ≤ 4 then some (.inr (.inr (.inr (88, [.ref t, .int z0, .int z1], st)))) else none := rfl
  rw [if_pos ⟨by simp [List.length_cons]; try omega, hs⟩] at h1
  have h2 := qx_kd_obj (k := 6) (by decide) hk
  exact Rs_call c143_56 h1 (by rw [show qx_args 88 [.ref t, .int z0, .int z1] = decide (qx_sh t = some (.inl 6)) from rfl]; exact decide_eq_true h2)
theorem c143_59 : qx_code 143 59 = some (59, .invokevirtual 334, 62, 81, 2, 1359) := by decide +kernel
theorem s143_59 {L : Nat} {xs : Nat → Int32} {d x : Nat} {M : qxM} {st : List Value} {ls : qxL} {t : Nat} {z0 : Int32} (hk : qx_kd t = 15) (hs : st.length ≤ 4) : Rs L xs (d + 1) 143 59 ls (.int z0 :: .ref t :: st) M x = (Rs L xs d 81 0 [some (.ref t), some (.int z0)] [] M 0).bind (qx_kn L xs (d + 1) 143 59 62 81 ls st x) := by
  have h1 : qx_act L xs (qx_rt 143) (59, .invokevirtual 334, 62, 81, 2, 1359) ls (.int z0 :: .ref t :: st) M = if 2 ≤ (.int z0 :: .ref t :: st).length ∧ st.length ≤ 4 then some (.inr (.inr (.inr (81, [.ref t, .int z0], st)))) else none := rfl
  rw [if_pos ⟨by simp [List.length_cons]; try omega, hs⟩] at h1
  have h2 := qx_kd_obj (k := 5) (by decide) hk
  exact Rs_call c143_59 h1 (by rw [show qx_args 81 [.ref t, .int z0] = decide (qx_sh t = some (.inl 5)) from rfl]; exact decide_eq_true h2)
theorem c143_62 : qx_code 143 62 = some (62, .iinc 3 1, 65, 0, 0, 0) := by decide +kernel
theorem s143_62i {L : Nat} {xs : Nat → Int32} {d x : Nat} {M : qxM} {st : List Value} {a0 a1 : Option Value} {z : Int32} {y : Int32} : Rs L xs (d) 143 62 [a0, a1, some (.int y), some (.int z)] st M x = Rs L xs (d) 143 65 [a0, a1, some (.int y), some (.int (z + (nI 1)))] st M x := Rs_next c143_62 rfl
theorem s143_62r {L : Nat} {xs : Nat → Int32} {d x : Nat} {M : qxM} {st : List Value} {a0 a1 : Option Value} {z : Int32} {y : Nat} : Rs L xs (d) 143 62 [a0, a1, some (.ref y), some (.int z)] st M x = Rs L xs (d) 143 65 [a0, a1, some (.ref y), some (.int (z + (nI 1)))] st M x := Rs_next c143_62 rfl
theorem s143_62n {L : Nat} {xs : Nat → Int32} {d x : Nat} {M : qxM} {st : List Value} {a0 a1 : Option Value} {z : Int32} : Rs L xs (d) 143 62 [a0, a1, none, some (.int z)] st M x = Rs L xs (d) 143 65 [a0, a1, none, some (.int (z + (nI 1)))] st M x := Rs_next c143_62 rfl
theorem c143_65 : qx_code 143 65 = some (65, .goto (-39), 68, 26, 0, 0) := by decide +kernel
theorem s143_65 {L : Nat} {xs : Nat → Int32} {d x : Nat} {M : qxM} {st : List Value} {ls : qxL} : Rs L xs (d) 143 65 ls st M x = Rs L xs (d) 143 26 ls st M x := Rs_next c143_65 rfl
theorem c143_68 : qx_code 143 68 = some (68, .aload_n 0, 69, 0, 0, 0) := by decide +kernel
theorem s143_68 {L : Nat} {xs : Nat → Int32} {d x : Nat} {M : qxM} {st : List Value} {a1 a2 a3 : Option Value} {z : Nat} : Rs L xs (d) 143 68 [some (.ref z), a1, a2, a3] st M x = Rs L xs (d) 143 69 [some (.ref z), a1, a2, a3] (.ref z :: st) M x := Rs_next c143_68 rfl
theorem c143_69 : qx_code 143 69 = some (69, .getfield 19, 72, 7, 1, 382) := by decide +kernel
theorem s143_69 {L : Nat} {xs : Nat → Int32} {d x : Nat} {M : qxM} {st : List Value} {ls : qxL} {t : Nat} (hk : qx_kd t = 17) : Rs L xs (d) 143 69 ls (.ref t :: st) M x = Rs L xs (d) 143 72 ls (.ref (t + 20) :: st) M x := Rs_when (qx_kd_obj (k := 7) (by decide) hk) c143_69 rfl
theorem c143_72 : qx_code 143 72 = some (72, .invokevirtual 340, 75, 84, 1, 1364) := by decide +kernel
theorem s143_72 {L : Nat} {xs : Nat → Int32} {d x : Nat} {M : qxM} {st : List Value} {ls : qxL} {t : Nat} (hk : qx_kd t = 15) (hs : st.length ≤ 4) : Rs L xs (d + 1) 143 72 ls (.ref t :: st) M x = (Rs L xs d 84 0 [some (.ref t)] [] M 0).bind (qx_kn L xs (d + 1) 143 72 75 84 ls st x) := by
  have h1 : qx_act L xs (qx_rt 143) (72, .invokevirtual 340, 75, 84, 1, 1364) ls (.ref t :: st) M = if 1 ≤ (.ref t :: st).length ∧ st.length ≤ 4 then some (.inr (.inr (.inr (84, [.ref t], st)))) else none := rfl
  rw [if_pos ⟨by simp [List.length_cons]; try omega, hs⟩] at h1
  have h2 := qx_kd_obj (k := 5) (by decide) hk
  exact Rs_call c143_72 h1 (by rw [show qx_args 84 [.ref t] = decide (qx_sh t = some (.inl 5)) from rfl]; exact decide_eq_true h2)
theorem c143_75 : qx_code 143 75 = some (75, .ireturn, 76, 0, 0, 0) := by decide +kernel
theorem s143_75 {L : Nat} {xs : Nat → Int32} {d x : Nat} {M : qxM} {ls : qxL} {z : Int32} : Rs L xs (d) 143 75 ls [.int z] M x = some (.inl (some (.int z)), M, x) := Rs_ret c143_75 rfl
theorem c144_0 : qx_code 144 0 = some (0, .iload_n 1, 1, 0, 0, 0) := by decide +kernel
theorem s144_0 {L : Nat} {xs : Nat → Int32} {d x : Nat} {M : qxM} {st : List Value} {a0 : Option Value} {z : Int32} : Rs L xs (d) 144 0 [a0, some (.int z)] st M x = Rs L xs (d) 144 1 [a0, some (.int z)] (.int z :: st) M x := Rs_next c144_0 rfl
theorem c144_1 : qx_code 144 1 = some (1, .ifCond .lt 26, 4, 27, 0, 0) := by decide +kernel
theorem s144_1 {L : Nat} {xs : Nat → Int32} {d x : Nat} {M : qxM} {st : List Value} {ls : qxL} {z : Int32} : Rs L xs (d) 144 1 ls (.int z :: st) M x = if z < 0 then Rs L xs (d) 144 27 ls st M x else Rs L xs (d) 144 4 ls st M x := Rs_ite c144_1 rfl
theorem c144_4 : qx_code 144 4 = some (4, .iload_n 1, 5, 0, 0, 0) := by decide +kernel
theorem s144_4 {L : Nat} {xs : Nat → Int32} {d x : Nat} {M : qxM} {st : List Value} {a0 : Option Value} {z : Int32} : Rs L xs (d) 144 4 [a0, some (.int z)] st M x = Rs L xs (d) 144 5 [a0, some (.int z)] (.int z :: st) M x := Rs_next c144_4 rfl
theorem c144_5 : qx_code 144 5 = some (5, .aload_n 0, 6, 0, 0, 0) := by decide +kernel
theorem s144_5 {L : Nat} {xs : Nat → Int32} {d x : Nat} {M : qxM} {st : List Value} {a1 : Option Value} {z : Nat} : Rs L xs (d) 144 5 [some (.ref z), a1] st M x = Rs L xs (d) 144 6 [some (.ref z), a1] (.ref z :: st) M x := Rs_next c144_5 rfl
theorem c144_6 : qx_code 144 6 = some (6, .getfield 19, 9, 7, 1, 382) := by decide +kernel
theorem s144_6 {L : Nat} {xs : Nat → Int32} {d x : Nat} {M : qxM} {st : List Value} {ls : qxL} {t : Nat} (hk : qx_kd t = 17) : Rs L xs (d) 144 6 ls (.ref t :: st) M x = Rs L xs (d) 144 9 ls (.ref (t + 20) :: st) M x := Rs_when (qx_kd_obj (k := 7) (by decide) hk) c144_6 rfl
theorem c144_9 : qx_code 144 9 = some (9, .getfield 346, 12, 5, 1, 241) := by decide +kernel
theorem s144_9 {L : Nat} {xs : Nat → Int32} {d x : Nat} {M : qxM} {st : List Value} {ls : qxL} {t : Nat} (hk : qx_kd t = 15) : Rs L xs (d) 144 9 ls (.ref t :: st) M x = Rs L xs (d) 144 12 ls (.int (M.1 t 1) :: st) M x := Rs_when (qx_kd_obj (k := 5) (by decide) hk) c144_9 rfl
theorem c144_12 : qx_code 144 12 = some (12, .if_icmp .ge 15, 15, 27, 0, 0) := by decide +kernel
theorem s144_12 {L : Nat} {xs : Nat → Int32} {d x : Nat} {M : qxM} {st : List Value} {ls : qxL} {z y : Int32} : Rs L xs (d) 144 12 ls (.int y :: .int z :: st) M x = if y ≤ z then Rs L xs (d) 144 27 ls st M x else Rs L xs (d) 144 15 ls st M x := Rs_ite c144_12 rfl
theorem c144_15 : qx_code 144 15 = some (15, .iload_n 1, 16, 0, 0, 0) := by decide +kernel
theorem s144_15 {L : Nat} {xs : Nat → Int32} {d x : Nat} {M : qxM} {st : List Value} {a0 : Option Value} {z : Int32} : Rs L xs (d) 144 15 [a0, some (.int z)] st M x = Rs L xs (d) 144 16 [a0, some (.int z)] (.int z :: st) M x := Rs_next c144_15 rfl
theorem c144_16 : qx_code 144 16 = some (16, .aload_n 0, 17, 0, 0, 0) := by decide +kernel
theorem s144_16 {L : Nat} {xs : Nat → Int32} {d x : Nat} {M : qxM} {st : List Value} {a1 : Option Value} {z : Nat} : Rs L xs (d) 144 16 [some (.ref z), a1] st M x = Rs L xs (d) 144 17 [some (.ref z), a1] (.ref z :: st) M x := Rs_next c144_16 rfl
theorem c144_17 : qx_code 144 17 = some (17, .getfield 19, 20, 7, 1, 382) := by decide +kernel
theorem s144_17 {L : Nat} {xs : Nat → Int32} {d x : Nat} {M : qxM} {st : List Value} {ls : qxL} {t : Nat} (hk : qx_kd t = 17) : Rs L xs (d) 144 17 ls (.ref t :: st) M x = Rs L xs (d) 144 20 ls (.ref (t + 20) :: st) M x := Rs_when (qx_kd_obj (k := 7) (by decide) hk) c144_17 rfl
theorem c144_20 : qx_code 144 20 = some (20, .getfield 347, 23, 5, 0, 239) := by decide +kernel
theorem s144_20 {L : Nat} {xs : Nat → Int32} {d x : Nat} {M : qxM} {st : List Value} {ls : qxL} {t : Nat} (hk : qx_kd t = 15) : Rs L xs (d) 144 20 ls (.ref t :: st) M x = Rs L xs (d) 144 23 ls (.ref (t + 1) :: st) M x := Rs_when (qx_kd_obj (k := 5) (by decide) hk) c144_20 rfl
theorem c144_23 : qx_code 144 23 = some (23, .arraylength, 24, 0, 0, 0) := by decide +kernel
theorem s144_23 {L : Nat} {xs : Nat → Int32} {d x : Nat} {M : qxM} {st : List Value} {ls : qxL} {t : Nat} (hk : qx_kd t < 6) : Rs L xs (d) 144 23 ls (.ref t :: st) M x = Rs L xs (d) 144 24 ls (.int (nI (qx_ln t)) :: st) M x := by
  have h1 := qx_kd_row hk rfl
  exact Rs_next c144_23 (by unfold qx_act; dsimp only; rw [h1]; rfl)
theorem c144_24 : qx_code 144 24 = some (24, .if_icmp .lt 14, 27, 38, 0, 0) := by decide +kernel
theorem s144_24 {L : Nat} {xs : Nat → Int32} {d x : Nat} {M : qxM} {st : List Value} {ls : qxL} {z y : Int32} : Rs L xs (d) 144 24 ls (.int y :: .int z :: st) M x = if z < y then Rs L xs (d) 144 38 ls st M x else Rs L xs (d) 144 27 ls st M x := Rs_ite c144_24 rfl
theorem c144_27 : qx_code 144 27 = some (27, .new 59, 30, 2, 11, 4940452) := by decide +kernel
theorem s144_27 {L : Nat} {xs : Nat → Int32} {d x : Nat} {M : qxM} {ls : qxL} : Rs L xs (d) 144 27 ls [] M x = some (.inr (qx_ex 2), M, x + 1) := Rs_thr rfl c144_27 rfl
theorem c144_30 : qx_code 144 30 = some (30, .dup, 31, 0, 0, 0) := by decide +kernel
theorem s144_30r {L : Nat} {xs : Nat → Int32} {d x : Nat} {M : qxM} {st : List Value} {ls : qxL} {z : Nat} : Rs L xs (d) 144 30 ls (.ref z :: st) M x = Rs L xs (d) 144 31 ls (.ref z :: .ref z :: st) M x := Rs_next c144_30 rfl
theorem s144_30i {L : Nat} {xs : Nat → Int32} {d x : Nat} {M : qxM} {st : List Value} {ls : qxL} {z : Int32} : Rs L xs (d) 144 30 ls (.int z :: st) M x = Rs L xs (d) 144 31 ls (.int z :: .int z :: st) M x := Rs_next c144_30 rfl
theorem c144_31 : qx_code 144 31 = some (31, .ldc_w 351, 34, 11, 1, 0) := by decide +kernel
theorem c144_34 : qx_code 144 34 = some (34, .invokespecial 63, 37, 9999, 2, 494) := by decide +kernel
theorem c144_37 : qx_code 144 37 = some (37, .athrow, 38, 0, 0, 0) := by decide +kernel
theorem c144_38 : qx_code 144 38 = some (38, .aload_n 0, 39, 0, 0, 0) := by decide +kernel
theorem s144_38 {L : Nat} {xs : Nat → Int32} {d x : Nat} {M : qxM} {st : List Value} {a1 : Option Value} {z : Nat} : Rs L xs (d) 144 38 [some (.ref z), a1] st M x = Rs L xs (d) 144 39 [some (.ref z), a1] (.ref z :: st) M x := Rs_next c144_38 rfl
theorem c144_39 : qx_code 144 39 = some (39, .getfield 19, 42, 7, 1, 382) := by decide +kernel
theorem s144_39 {L : Nat} {xs : Nat → Int32} {d x : Nat} {M : qxM} {st : List Value} {ls : qxL} {t : Nat} (hk : qx_kd t = 17) : Rs L xs (d) 144 39 ls (.ref t :: st) M x = Rs L xs (d) 144 42 ls (.ref (t + 20) :: st) M x := Rs_when (qx_kd_obj (k := 7) (by decide) hk) c144_39 rfl
theorem c144_42 : qx_code 144 42 = some (42, .getfield 347, 45, 5, 0, 239) := by decide +kernel
theorem s144_42 {L : Nat} {xs : Nat → Int32} {d x : Nat} {M : qxM} {st : List Value} {ls : qxL} {t : Nat} (hk : qx_kd t = 15) : Rs L xs (d) 144 42 ls (.ref t :: st) M x = Rs L xs (d) 144 45 ls (.ref (t + 1) :: st) M x := Rs_when (qx_kd_obj (k := 5) (by decide) hk) c144_42 rfl
theorem c144_45 : qx_code 144 45 = some (45, .iload_n 1, 46, 0, 0, 0) := by decide +kernel
theorem s144_45 {L : Nat} {xs : Nat → Int32} {d x : Nat} {M : qxM} {st : List Value} {a0 : Option Value} {z : Int32} : Rs L xs (d) 144 45 [a0, some (.int z)] st M x = Rs L xs (d) 144 46 [a0, some (.int z)] (.int z :: st) M x := Rs_next c144_45 rfl
theorem c144_46 : qx_code 144 46 = some (46, .baload, 47, 0, 0, 0) := by decide +kernel
theorem s144_46 {L : Nat} {xs : Nat → Int32} {d x : Nat} {M : qxM} {st : List Value} {ls : qxL} {t : Nat} {j : Int32} (hk : qx_kd t = 1) (hj : qx_ib j (qx_ln t) = true) : Rs L xs (d) 144 46 ls (.int j :: .ref t :: st) M x = Rs L xs (d) 144 47 ls (.int (M.1 t j.toNatClampNeg) :: st) M x := by
  have h1 := qx_kd_row (k := 1) (by decide) hk
  exact Rs_unless (qx_ib_not hj) c144_46 (by unfold qx_act; dsimp only; rw [h1]; rfl)
theorem s144_46z {L : Nat} {xs : Nat → Int32} {d x : Nat} {M : qxM} {st : List Value} {ls : qxL} {t : Nat} {j : Int32} (hk : qx_kd t = 2) (hj : qx_ib j (qx_ln t) = true) : Rs L xs (d) 144 46 ls (.int j :: .ref t :: st) M x = Rs L xs (d) 144 47 ls (.int (M.1 t j.toNatClampNeg) :: st) M x := by
  have h1 := qx_kd_row (k := 2) (by decide) hk
  exact Rs_unless (qx_ib_not hj) c144_46 (by unfold qx_act; dsimp only; rw [h1]; rfl)
theorem c144_47 : qx_code 144 47 = some (47, .ireturn, 48, 0, 0, 0) := by decide +kernel
theorem s144_47 {L : Nat} {xs : Nat → Int32} {d x : Nat} {M : qxM} {ls : qxL} {z : Int32} : Rs L xs (d) 144 47 ls [.int z] M x = some (.inl (some (.int z)), M, x) := Rs_ret c144_47 rfl
theorem c145_0 : qx_code 145 0 = some (0, .aload_n 0, 1, 0, 0, 0) := by decide +kernel
theorem s145_0 {L : Nat} {xs : Nat → Int32} {d x : Nat} {M : qxM} {st : List Value} {a1 : Option Value} {z : Nat} : Rs L xs (d) 145 0 [some (.ref z), a1] st M x = Rs L xs (d) 145 1 [some (.ref z), a1] (.ref z :: st) M x := Rs_next c145_0 rfl
theorem c145_1 : qx_code 145 1 = some (1, .iload_n 1, 2, 0, 0, 0) := by decide +kernel
theorem s145_1 {L : Nat} {xs : Nat → Int32} {d x : Nat} {M : qxM} {st : List Value} {a0 : Option Value} {z : Int32} : Rs L xs (d) 145 1 [a0, some (.int z)] st M x = Rs L xs (d) 145 2 [a0, some (.int z)] (.int z :: st) M x := Rs_next c145_1 rfl
theorem c145_2 : qx_code 145 2 = some (2, .invokevirtual 148, 5, 160, 2, 780) := by decide +kernel
theorem s145_2 {L : Nat} {xs : Nat → Int32} {d x : Nat} {M : qxM} {st : List Value} {ls : qxL} {t : Nat} {z0 : Int32} (hk : qx_kd t = 17) (hs : st.length ≤ 4) : Rs L xs (d + 1) 145 2 ls (.int z0 :: .ref t :: st) M x = (Rs L xs d 160 0 [some (.ref t), some (.int z0)] [] M 0).bind (qx_kn L xs (d + 1) 145 2 5 160 ls st x) := by
  have h1 : qx_act L xs (qx_rt 145) (2, .invokevirtual 148, 5, 160, 2, 780) ls (.int z0 :: .ref t :: st) M = if 2 ≤ (.int z0 :: .ref t :: st).length ∧ st.length ≤ 4 then some (.inr (.inr (.inr (160, [.ref t, .int z0], st)))) else none := rfl
  rw [if_pos ⟨by simp [List.length_cons]; try omega, hs⟩] at h1
  have h2 := qx_kd_obj (k := 7) (by decide) hk
  exact Rs_call c145_2 h1 (by rw [show qx_args 160 [.ref t, .int z0] = decide (qx_sh t = some (.inl 7)) from rfl]; exact decide_eq_true h2)
theorem c145_5 : qx_code 145 5 = some (5, .aload_n 0, 6, 0, 0, 0) := by decide +kernel
theorem s145_5 {L : Nat} {xs : Nat → Int32} {d x : Nat} {M : qxM} {st : List Value} {a1 : Option Value} {z : Nat} : Rs L xs (d) 145 5 [some (.ref z), a1] st M x = Rs L xs (d) 145 6 [some (.ref z), a1] (.ref z :: st) M x := Rs_next c145_5 rfl
theorem c145_6 : qx_code 145 6 = some (6, .getfield 33, 9, 7, 3, 384) := by decide +kernel
theorem s145_6 {L : Nat} {xs : Nat → Int32} {d x : Nat} {M : qxM} {st : List Value} {ls : qxL} {t : Nat} (hk : qx_kd t = 17) : Rs L xs (d) 145 6 ls (.ref t :: st) M x = Rs L xs (d) 145 9 ls (.ref (t + 90) :: st) M x := Rs_when (qx_kd_obj (k := 7) (by decide) hk) c145_6 rfl
theorem c145_9 : qx_code 145 9 = some (9, .getfield 93, 12, 4, 0, 356) := by decide +kernel
theorem s145_9 {L : Nat} {xs : Nat → Int32} {d x : Nat} {M : qxM} {st : List Value} {ls : qxL} {t : Nat} (hk : qx_kd t = 14) : Rs L xs (d) 145 9 ls (.ref t :: st) M x = Rs L xs (d) 145 12 ls (.ref (t + 1) :: st) M x := Rs_when (qx_kd_obj (k := 4) (by decide) hk) c145_9 rfl
theorem c145_12 : qx_code 145 12 = some (12, .iload_n 1, 13, 0, 0, 0) := by decide +kernel
theorem s145_12 {L : Nat} {xs : Nat → Int32} {d x : Nat} {M : qxM} {st : List Value} {a0 : Option Value} {z : Int32} : Rs L xs (d) 145 12 [a0, some (.int z)] st M x = Rs L xs (d) 145 13 [a0, some (.int z)] (.int z :: st) M x := Rs_next c145_12 rfl
theorem c145_13 : qx_code 145 13 = some (13, .invokevirtual 177, 16, 47, 2, 827) := by decide +kernel
theorem s145_13 {L : Nat} {xs : Nat → Int32} {d x : Nat} {M : qxM} {st : List Value} {ls : qxL} {t : Nat} {z0 : Int32} (hk : qx_kd t = 12) (hs : st.length ≤ 4) : Rs L xs (d + 1) 145 13 ls (.int z0 :: .ref t :: st) M x = (Rs L xs d 47 0 [some (.ref t), some (.int z0)] [] M 0).bind (qx_kn L xs (d + 1) 145 13 16 47 ls st x) := by
  have h1 : qx_act L xs (qx_rt 145) (13, .invokevirtual 177, 16, 47, 2, 827) ls (.int z0 :: .ref t :: st) M = if 2 ≤ (.int z0 :: .ref t :: st).length ∧ st.length ≤ 4 then some (.inr (.inr (.inr (47, [.ref t, .int z0], st)))) else none := rfl
  rw [if_pos ⟨by simp [List.length_cons]; try omega, hs⟩] at h1
  have h2 := qx_kd_obj (k := 2) (by decide) hk
  exact Rs_call c145_13 h1 (by rw [show qx_args 47 [.ref t, .int z0] = decide (qx_sh t = some (.inl 2)) from rfl]; exact decide_eq_true h2)
theorem c145_16 : qx_code 145 16 = some (16, .ifCond .ne 14, 19, 30, 0, 0) := by decide +kernel
theorem s145_16 {L : Nat} {xs : Nat → Int32} {d x : Nat} {M : qxM} {st : List Value} {ls : qxL} {z : Int32} : Rs L xs (d) 145 16 ls (.int z :: st) M x = if z = 0 then Rs L xs (d) 145 19 ls st M x else Rs L xs (d) 145 30 ls st M x := Rs_ite c145_16 rfl
theorem c145_19 : qx_code 145 19 = some (19, .new 70, 22, 1, 12, 6930683) := by decide +kernel
theorem s145_19 {L : Nat} {xs : Nat → Int32} {d x : Nat} {M : qxM} {ls : qxL} : Rs L xs (d) 145 19 ls [] M x = some (.inr (qx_ex 1), M, x + 1) := Rs_thr rfl c145_19 rfl
theorem c145_22 : qx_code 145 22 = some (22, .dup, 23, 0, 0, 0) := by decide +kernel
theorem s145_22r {L : Nat} {xs : Nat → Int32} {d x : Nat} {M : qxM} {st : List Value} {ls : qxL} {z : Nat} : Rs L xs (d) 145 22 ls (.ref z :: st) M x = Rs L xs (d) 145 23 ls (.ref z :: .ref z :: st) M x := Rs_next c145_22 rfl
theorem s145_22i {L : Nat} {xs : Nat → Int32} {d x : Nat} {M : qxM} {st : List Value} {ls : qxL} {z : Int32} : Rs L xs (d) 145 22 ls (.int z :: st) M x = Rs L xs (d) 145 23 ls (.int z :: .int z :: st) M x := Rs_next c145_22 rfl
theorem c145_23 : qx_code 145 23 = some (23, .ldc_w 353, 26, 12, 1, 0) := by decide +kernel
theorem c145_26 : qx_code 145 26 = some (26, .invokespecial 74, 29, 9999, 2, 693) := by decide +kernel
theorem c145_29 : qx_code 145 29 = some (29, .athrow, 30, 0, 0, 0) := by decide +kernel
theorem c145_30 : qx_code 145 30 = some (30, .aload_n 0, 31, 0, 0, 0) := by decide +kernel
theorem s145_30 {L : Nat} {xs : Nat → Int32} {d x : Nat} {M : qxM} {st : List Value} {a1 : Option Value} {z : Nat} : Rs L xs (d) 145 30 [some (.ref z), a1] st M x = Rs L xs (d) 145 31 [some (.ref z), a1] (.ref z :: st) M x := Rs_next c145_30 rfl
theorem c145_31 : qx_code 145 31 = some (31, .invokevirtual 355, 34, 166, 1, 1405) := by decide +kernel
theorem s145_31 {L : Nat} {xs : Nat → Int32} {d x : Nat} {M : qxM} {st : List Value} {ls : qxL} {t : Nat} (hk : qx_kd t = 17) (hs : st.length ≤ 4) : Rs L xs (d + 1) 145 31 ls (.ref t :: st) M x = (Rs L xs d 166 0 [some (.ref t)] [] M 0).bind (qx_kn L xs (d + 1) 145 31 34 166 ls st x) := by
  have h1 : qx_act L xs (qx_rt 145) (31, .invokevirtual 355, 34, 166, 1, 1405) ls (.ref t :: st) M = if 1 ≤ (.ref t :: st).length ∧ st.length ≤ 4 then some (.inr (.inr (.inr (166, [.ref t], st)))) else none := rfl
  rw [if_pos ⟨by simp [List.length_cons]; try omega, hs⟩] at h1
  have h2 := qx_kd_obj (k := 7) (by decide) hk
  exact Rs_call c145_31 h1 (by rw [show qx_args 166 [.ref t] = decide (qx_sh t = some (.inl 7)) from rfl]; exact decide_eq_true h2)
theorem c145_34 : qx_code 145 34 = some (34, .aload_n 0, 35, 0, 0, 0) := by decide +kernel
theorem s145_34 {L : Nat} {xs : Nat → Int32} {d x : Nat} {M : qxM} {st : List Value} {a1 : Option Value} {z : Nat} : Rs L xs (d) 145 34 [some (.ref z), a1] st M x = Rs L xs (d) 145 35 [some (.ref z), a1] (.ref z :: st) M x := Rs_next c145_34 rfl
theorem c145_35 : qx_code 145 35 = some (35, .getfield 33, 38, 7, 3, 384) := by decide +kernel
theorem s145_35 {L : Nat} {xs : Nat → Int32} {d x : Nat} {M : qxM} {st : List Value} {ls : qxL} {t : Nat} (hk : qx_kd t = 17) : Rs L xs (d) 145 35 ls (.ref t :: st) M x = Rs L xs (d) 145 38 ls (.ref (t + 90) :: st) M x := Rs_when (qx_kd_obj (k := 7) (by decide) hk) c145_35 rfl
theorem c145_38 : qx_code 145 38 = some (38, .getfield 180, 41, 4, 1, 358) := by decide +kernel
theorem s145_38 {L : Nat} {xs : Nat → Int32} {d x : Nat} {M : qxM} {st : List Value} {ls : qxL} {t : Nat} (hk : qx_kd t = 14) : Rs L xs (d) 145 38 ls (.ref t :: st) M x = Rs L xs (d) 145 41 ls (.ref (t + 4) :: st) M x := Rs_when (qx_kd_obj (k := 4) (by decide) hk) c145_38 rfl
theorem c145_41 : qx_code 145 41 = some (41, .iload_n 1, 42, 0, 0, 0) := by decide +kernel
theorem s145_41 {L : Nat} {xs : Nat → Int32} {d x : Nat} {M : qxM} {st : List Value} {a0 : Option Value} {z : Int32} : Rs L xs (d) 145 41 [a0, some (.int z)] st M x = Rs L xs (d) 145 42 [a0, some (.int z)] (.int z :: st) M x := Rs_next c145_41 rfl
theorem c145_42 : qx_code 145 42 = some (42, .invokevirtual 358, 45, 53, 2, 1427) := by decide +kernel
theorem s145_42 {L : Nat} {xs : Nat → Int32} {d x : Nat} {M : qxM} {st : List Value} {ls : qxL} {t : Nat} {z0 : Int32} (hk : qx_kd t = 13) (hs : st.length ≤ 4) : Rs L xs (d + 1) 145 42 ls (.int z0 :: .ref t :: st) M x = (Rs L xs d 53 0 [some (.ref t), some (.int z0), none] [] M 0).bind (qx_kn L xs (d + 1) 145 42 45 53 ls st x) := by
  have h1 : qx_act L xs (qx_rt 145) (42, .invokevirtual 358, 45, 53, 2, 1427) ls (.int z0 :: .ref t :: st) M = if 2 ≤ (.int z0 :: .ref t :: st).length ∧ st.length ≤ 4 then some (.inr (.inr (.inr (53, [.ref t, .int z0], st)))) else none := rfl
  rw [if_pos ⟨by simp [List.length_cons]; try omega, hs⟩] at h1
  have h2 := qx_kd_obj (k := 3) (by decide) hk
  exact Rs_call c145_42 h1 (by rw [show qx_args 53 [.ref t, .int z0] = decide (qx_sh t = some (.inl 3)) from rfl]; exact decide_eq_true h2)
theorem c145_45 : qx_code 145 45 = some (45, .aload_n 0, 46, 0, 0, 0) := by decide +kernel
theorem s145_45 {L : Nat} {xs : Nat → Int32} {d x : Nat} {M : qxM} {st : List Value} {a1 : Option Value} {z : Nat} : Rs L xs (d) 145 45 [some (.ref z), a1] st M x = Rs L xs (d) 145 46 [some (.ref z), a1] (.ref z :: st) M x := Rs_next c145_45 rfl
theorem c145_46 : qx_code 145 46 = some (46, .getfield 33, 49, 7, 3, 384) := by decide +kernel
theorem s145_46 {L : Nat} {xs : Nat → Int32} {d x : Nat} {M : qxM} {st : List Value} {ls : qxL} {t : Nat} (hk : qx_kd t = 17) : Rs L xs (d) 145 46 ls (.ref t :: st) M x = Rs L xs (d) 145 49 ls (.ref (t + 90) :: st) M x := Rs_when (qx_kd_obj (k := 7) (by decide) hk) c145_46 rfl
theorem c145_49 : qx_code 145 49 = some (49, .getfield 93, 52, 4, 0, 356) := by decide +kernel
theorem s145_49 {L : Nat} {xs : Nat → Int32} {d x : Nat} {M : qxM} {st : List Value} {ls : qxL} {t : Nat} (hk : qx_kd t = 14) : Rs L xs (d) 145 49 ls (.ref t :: st) M x = Rs L xs (d) 145 52 ls (.ref (t + 1) :: st) M x := Rs_when (qx_kd_obj (k := 4) (by decide) hk) c145_49 rfl
theorem c145_52 : qx_code 145 52 = some (52, .iload_n 1, 53, 0, 0, 0) := by decide +kernel
theorem s145_52 {L : Nat} {xs : Nat → Int32} {d x : Nat} {M : qxM} {st : List Value} {a0 : Option Value} {z : Int32} : Rs L xs (d) 145 52 [a0, some (.int z)] st M x = Rs L xs (d) 145 53 [a0, some (.int z)] (.int z :: st) M x := Rs_next c145_52 rfl
theorem c145_53 : qx_code 145 53 = some (53, .invokevirtual 157, 56, 42, 2, 790) := by decide +kernel
theorem s145_53 {L : Nat} {xs : Nat → Int32} {d x : Nat} {M : qxM} {st : List Value} {ls : qxL} {t : Nat} {z0 : Int32} (hk : qx_kd t = 12) (hs : st.length ≤ 4) : Rs L xs (d + 1) 145 53 ls (.int z0 :: .ref t :: st) M x = (Rs L xs d 42 0 [some (.ref t), some (.int z0)] [] M 0).bind (qx_kn L xs (d + 1) 145 53 56 42 ls st x) := by
  have h1 : qx_act L xs (qx_rt 145) (53, .invokevirtual 157, 56, 42, 2, 790) ls (.int z0 :: .ref t :: st) M = if 2 ≤ (.int z0 :: .ref t :: st).length ∧ st.length ≤ 4 then some (.inr (.inr (.inr (42, [.ref t, .int z0], st)))) else none := rfl
  rw [if_pos ⟨by simp [List.length_cons]; try omega, hs⟩] at h1
  have h2 := qx_kd_obj (k := 2) (by decide) hk
  exact Rs_call c145_53 h1 (by rw [show qx_args 42 [.ref t, .int z0] = decide (qx_sh t = some (.inl 2)) from rfl]; exact decide_eq_true h2)
theorem c145_56 : qx_code 145 56 = some (56, .invokestatic 130, 59, 334, 1, 772) := by decide +kernel
theorem s145_56 {L : Nat} {xs : Nat → Int32} {d x : Nat} {M : qxM} {st : List Value} {ls : qxL} {z0 : Int32} (hs : st.length ≤ 4) : Rs L xs (d + 1) 145 56 ls (.int z0 :: st) M x = (Rs L xs d 334 0 [some (.int z0)] [] M 0).bind (qx_kn L xs (d + 1) 145 56 59 334 ls st x) := by
  have h1 : qx_act L xs (qx_rt 145) (56, .invokestatic 130, 59, 334, 1, 772) ls (.int z0 :: st) M = if 1 ≤ (.int z0 :: st).length ∧ st.length ≤ 4 then some (.inr (.inr (.inr (334, [.int z0], st)))) else none := rfl
  rw [if_pos ⟨by simp [List.length_cons]; try omega, hs⟩] at h1
  exact Rs_call c145_56 h1 rfl
theorem c145_59 : qx_code 145 59 = some (59, .ireturn, 60, 0, 0, 0) := by decide +kernel
theorem s145_59 {L : Nat} {xs : Nat → Int32} {d x : Nat} {M : qxM} {ls : qxL} {z : Int32} : Rs L xs (d) 145 59 ls [.int z] M x = some (.inl (some (.int z)), M, x) := Rs_ret c145_59 rfl
theorem c146_0 : qx_code 146 0 = some (0, .aload_n 0, 1, 0, 0, 0) := by decide +kernel
theorem s146_0 {L : Nat} {xs : Nat → Int32} {d x : Nat} {M : qxM} {st : List Value} {z : Nat} : Rs L xs (d) 146 0 [some (.ref z)] st M x = Rs L xs (d) 146 1 [some (.ref z)] (.ref z :: st) M x := Rs_next c146_0 rfl
theorem c146_1 : qx_code 146 1 = some (1, .invokevirtual 361, 4, 165, 1, 1435) := by decide +kernel
theorem s146_1 {L : Nat} {xs : Nat → Int32} {d x : Nat} {M : qxM} {st : List Value} {ls : qxL} {t : Nat} (hk : qx_kd t = 17) (hs : st.length ≤ 4) : Rs L xs (d + 1) 146 1 ls (.ref t :: st) M x = (Rs L xs d 165 0 [some (.ref t)] [] M 0).bind (qx_kn L xs (d + 1) 146 1 4 165 ls st x) := by
  have h1 : qx_act L xs (qx_rt 146) (1, .invokevirtual 361, 4, 165, 1, 1435) ls (.ref t :: st) M = if 1 ≤ (.ref t :: st).length ∧ st.length ≤ 4 then some (.inr (.inr (.inr (165, [.ref t], st)))) else none := rfl
  rw [if_pos ⟨by simp [List.length_cons]; try omega, hs⟩] at h1
  have h2 := qx_kd_obj (k := 7) (by decide) hk
  exact Rs_call c146_1 h1 (by rw [show qx_args 165 [.ref t] = decide (qx_sh t = some (.inl 7)) from rfl]; exact decide_eq_true h2)
theorem c146_4 : qx_code 146 4 = some (4, .aload_n 0, 5, 0, 0, 0) := by decide +kernel
theorem s146_4 {L : Nat} {xs : Nat → Int32} {d x : Nat} {M : qxM} {st : List Value} {z : Nat} : Rs L xs (d) 146 4 [some (.ref z)] st M x = Rs L xs (d) 146 5 [some (.ref z)] (.ref z :: st) M x := Rs_next c146_4 rfl
theorem c146_5 : qx_code 146 5 = some (5, .invokevirtual 355, 8, 166, 1, 1405) := by decide +kernel
theorem s146_5 {L : Nat} {xs : Nat → Int32} {d x : Nat} {M : qxM} {st : List Value} {ls : qxL} {t : Nat} (hk : qx_kd t = 17) (hs : st.length ≤ 4) : Rs L xs (d + 1) 146 5 ls (.ref t :: st) M x = (Rs L xs d 166 0 [some (.ref t)] [] M 0).bind (qx_kn L xs (d + 1) 146 5 8 166 ls st x) := by
  have h1 : qx_act L xs (qx_rt 146) (5, .invokevirtual 355, 8, 166, 1, 1405) ls (.ref t :: st) M = if 1 ≤ (.ref t :: st).length ∧ st.length ≤ 4 then some (.inr (.inr (.inr (166, [.ref t], st)))) else none := rfl
  rw [if_pos ⟨by simp [List.length_cons]; try omega, hs⟩] at h1
  have h2 := qx_kd_obj (k := 7) (by decide) hk
  exact Rs_call c146_5 h1 (by rw [show qx_args 166 [.ref t] = decide (qx_sh t = some (.inl 7)) from rfl]; exact decide_eq_true h2)
theorem c146_8 : qx_code 146 8 = some (8, .aload_n 0, 9, 0, 0, 0) := by decide +kernel
theorem s146_8 {L : Nat} {xs : Nat → Int32} {d x : Nat} {M : qxM} {st : List Value} {z : Nat} : Rs L xs (d) 146 8 [some (.ref z)] st M x = Rs L xs (d) 146 9 [some (.ref z)] (.ref z :: st) M x := Rs_next c146_8 rfl
theorem c146_9 : qx_code 146 9 = some (9, .getfield 33, 12, 7, 3, 384) := by decide +kernel
theorem s146_9 {L : Nat} {xs : Nat → Int32} {d x : Nat} {M : qxM} {st : List Value} {ls : qxL} {t : Nat} (hk : qx_kd t = 17) : Rs L xs (d) 146 9 ls (.ref t :: st) M x = Rs L xs (d) 146 12 ls (.ref (t + 90) :: st) M x := Rs_when (qx_kd_obj (k := 7) (by decide) hk) c146_9 rfl
theorem c146_12 : qx_code 146 12 = some (12, .invokevirtual 364, 15, 76, 1, 1440) := by decide +kernel
theorem s146_12 {L : Nat} {xs : Nat → Int32} {d x : Nat} {M : qxM} {st : List Value} {ls : qxL} {t : Nat} (hk : qx_kd t = 14) (hs : st.length ≤ 4) : Rs L xs (d + 1) 146 12 ls (.ref t :: st) M x = (Rs L xs d 76 0 [some (.ref t), none, none] [] M 0).bind (qx_kn L xs (d + 1) 146 12 15 76 ls st x) := by
  have h1 : qx_act L xs (qx_rt 146) (12, .invokevirtual 364, 15, 76, 1, 1440) ls (.ref t :: st) M = if 1 ≤ (.ref t :: st).length ∧ st.length ≤ 4 then some (.inr (.inr (.inr (76, [.ref t], st)))) else none := rfl
  rw [if_pos ⟨by simp [List.length_cons]; try omega, hs⟩] at h1
  have h2 := qx_kd_obj (k := 4) (by decide) hk
  exact Rs_call c146_12 h1 (by rw [show qx_args 76 [.ref t] = decide (qx_sh t = some (.inl 4)) from rfl]; exact decide_eq_true h2)
theorem c146_15 : qx_code 146 15 = some (15, .ireturn, 16, 0, 0, 0) := by decide +kernel
theorem s146_15 {L : Nat} {xs : Nat → Int32} {d x : Nat} {M : qxM} {ls : qxL} {z : Int32} : Rs L xs (d) 146 15 ls [.int z] M x = some (.inl (some (.int z)), M, x) := Rs_ret c146_15 rfl
theorem c147_0 : qx_code 147 0 = some (0, .aload_n 0, 1, 0, 0, 0) := by decide +kernel
theorem s147_0 {L : Nat} {xs : Nat → Int32} {d x : Nat} {M : qxM} {st : List Value} {z : Nat} : Rs L xs (d) 147 0 [some (.ref z)] st M x = Rs L xs (d) 147 1 [some (.ref z)] (.ref z :: st) M x := Rs_next c147_0 rfl
theorem c147_1 : qx_code 147 1 = some (1, .invokevirtual 361, 4, 165, 1, 1435) := by decide +kernel
theorem s147_1 {L : Nat} {xs : Nat → Int32} {d x : Nat} {M : qxM} {st : List Value} {ls : qxL} {t : Nat} (hk : qx_kd t = 17) (hs : st.length ≤ 4) : Rs L xs (d + 1) 147 1 ls (.ref t :: st) M x = (Rs L xs d 165 0 [some (.ref t)] [] M 0).bind (qx_kn L xs (d + 1) 147 1 4 165 ls st x) := by
  have h1 : qx_act L xs (qx_rt 147) (1, .invokevirtual 361, 4, 165, 1, 1435) ls (.ref t :: st) M = if 1 ≤ (.ref t :: st).length ∧ st.length ≤ 4 then some (.inr (.inr (.inr (165, [.ref t], st)))) else none := rfl
  rw [if_pos ⟨by simp [List.length_cons]; try omega, hs⟩] at h1
  have h2 := qx_kd_obj (k := 7) (by decide) hk
  exact Rs_call c147_1 h1 (by rw [show qx_args 165 [.ref t] = decide (qx_sh t = some (.inl 7)) from rfl]; exact decide_eq_true h2)
theorem c147_4 : qx_code 147 4 = some (4, .aload_n 0, 5, 0, 0, 0) := by decide +kernel
theorem s147_4 {L : Nat} {xs : Nat → Int32} {d x : Nat} {M : qxM} {st : List Value} {z : Nat} : Rs L xs (d) 147 4 [some (.ref z)] st M x = Rs L xs (d) 147 5 [some (.ref z)] (.ref z :: st) M x := Rs_next c147_4 rfl
theorem c147_5 : qx_code 147 5 = some (5, .invokevirtual 355, 8, 166, 1, 1405) := by decide +kernel
theorem s147_5 {L : Nat} {xs : Nat → Int32} {d x : Nat} {M : qxM} {st : List Value} {ls : qxL} {t : Nat} (hk : qx_kd t = 17) (hs : st.length ≤ 4) : Rs L xs (d + 1) 147 5 ls (.ref t :: st) M x = (Rs L xs d 166 0 [some (.ref t)] [] M 0).bind (qx_kn L xs (d + 1) 147 5 8 166 ls st x) := by
  have h1 : qx_act L xs (qx_rt 147) (5, .invokevirtual 355, 8, 166, 1, 1405) ls (.ref t :: st) M = if 1 ≤ (.ref t :: st).length ∧ st.length ≤ 4 then some (.inr (.inr (.inr (166, [.ref t], st)))) else none := rfl
  rw [if_pos ⟨by simp [List.length_cons]; try omega, hs⟩] at h1
  have h2 := qx_kd_obj (k := 7) (by decide) hk
  exact Rs_call c147_5 h1 (by rw [show qx_args 166 [.ref t] = decide (qx_sh t = some (.inl 7)) from rfl]; exact decide_eq_true h2)
theorem c147_8 : qx_code 147 8 = some (8, .aload_n 0, 9, 0, 0, 0) := by decide +kernel
theorem s147_8 {L : Nat} {xs : Nat → Int32} {d x : Nat} {M : qxM} {st : List Value} {z : Nat} : Rs L xs (d) 147 8 [some (.ref z)] st M x = Rs L xs (d) 147 9 [some (.ref z)] (.ref z :: st) M x := Rs_next c147_8 rfl
theorem c147_9 : qx_code 147 9 = some (9, .getfield 33, 12, 7, 3, 384) := by decide +kernel
theorem s147_9 {L : Nat} {xs : Nat → Int32} {d x : Nat} {M : qxM} {st : List Value} {ls : qxL} {t : Nat} (hk : qx_kd t = 17) : Rs L xs (d) 147 9 ls (.ref t :: st) M x = Rs L xs (d) 147 12 ls (.ref (t + 90) :: st) M x := Rs_when (qx_kd_obj (k := 7) (by decide) hk) c147_9 rfl
theorem c147_12 : qx_code 147 12 = some (12, .invokevirtual 324, 15, 77, 1, 1257) := by decide +kernel
theorem s147_12 {L : Nat} {xs : Nat → Int32} {d x : Nat} {M : qxM} {st : List Value} {ls : qxL} {t : Nat} (hk : qx_kd t = 14) (hs : st.length ≤ 4) : Rs L xs (d + 1) 147 12 ls (.ref t :: st) M x = (Rs L xs d 77 0 [some (.ref t), none, none, none] [] M 0).bind (qx_kn L xs (d + 1) 147 12 15 77 ls st x) := by
  have h1 : qx_act L xs (qx_rt 147) (12, .invokevirtual 324, 15, 77, 1, 1257) ls (.ref t :: st) M = if 1 ≤ (.ref t :: st).length ∧ st.length ≤ 4 then some (.inr (.inr (.inr (77, [.ref t], st)))) else none := rfl
  rw [if_pos ⟨by simp [List.length_cons]; try omega, hs⟩] at h1
  have h2 := qx_kd_obj (k := 4) (by decide) hk
  exact Rs_call c147_12 h1 (by rw [show qx_args 77 [.ref t] = decide (qx_sh t = some (.inl 4)) from rfl]; exact decide_eq_true h2)
theorem c147_15 : qx_code 147 15 = some (15, .ireturn, 16, 0, 0, 0) := by decide +kernel
theorem s147_15 {L : Nat} {xs : Nat → Int32} {d x : Nat} {M : qxM} {ls : qxL} {z : Int32} : Rs L xs (d) 147 15 ls [.int z] M x = some (.inl (some (.int z)), M, x) := Rs_ret c147_15 rfl
theorem c148_0 : qx_code 148 0 = some (0, .aload_n 0, 1, 0, 0, 0) := by decide +kernel
theorem s148_0 {L : Nat} {xs : Nat → Int32} {d x : Nat} {M : qxM} {st : List Value} {a1 : Option Value} {z : Nat} : Rs L xs (d) 148 0 [some (.ref z), a1] st M x = Rs L xs (d) 148 1 [some (.ref z), a1] (.ref z :: st) M x := Rs_next c148_0 rfl
theorem c148_1 : qx_code 148 1 = some (1, .invokevirtual 107, 4, 159, 1, 728) := by decide +kernel
theorem s148_1 {L : Nat} {xs : Nat → Int32} {d x : Nat} {M : qxM} {st : List Value} {ls : qxL} {t : Nat} (hk : qx_kd t = 17) (hs : st.length ≤ 4) : Rs L xs (d + 1) 148 1 ls (.ref t :: st) M x = (Rs L xs d 159 0 [some (.ref t)] [] M 0).bind (qx_kn L xs (d + 1) 148 1 4 159 ls st x) := by
  have h1 : qx_act L xs (qx_rt 148) (1, .invokevirtual 107, 4, 159, 1, 728) ls (.ref t :: st) M = if 1 ≤ (.ref t :: st).length ∧ st.length ≤ 4 then some (.inr (.inr (.inr (159, [.ref t], st)))) else none := rfl
  rw [if_pos ⟨by simp [List.length_cons]; try omega, hs⟩] at h1
  have h2 := qx_kd_obj (k := 7) (by decide) hk
  exact Rs_call c148_1 h1 (by rw [show qx_args 159 [.ref t] = decide (qx_sh t = some (.inl 7)) from rfl]; exact decide_eq_true h2)
theorem c148_4 : qx_code 148 4 = some (4, .aload_n 0, 5, 0, 0, 0) := by decide +kernel
theorem s148_4 {L : Nat} {xs : Nat → Int32} {d x : Nat} {M : qxM} {st : List Value} {a1 : Option Value} {z : Nat} : Rs L xs (d) 148 4 [some (.ref z), a1] st M x = Rs L xs (d) 148 5 [some (.ref z), a1] (.ref z :: st) M x := Rs_next c148_4 rfl
theorem c148_5 : qx_code 148 5 = some (5, .invokevirtual 355, 8, 166, 1, 1405) := by decide +kernel
theorem s148_5 {L : Nat} {xs : Nat → Int32} {d x : Nat} {M : qxM} {st : List Value} {ls : qxL} {t : Nat} (hk : qx_kd t = 17) (hs : st.length ≤ 4) : Rs L xs (d + 1) 148 5 ls (.ref t :: st) M x = (Rs L xs d 166 0 [some (.ref t)] [] M 0).bind (qx_kn L xs (d + 1) 148 5 8 166 ls st x) := by
  have h1 : qx_act L xs (qx_rt 148) (5, .invokevirtual 355, 8, 166, 1, 1405) ls (.ref t :: st) M = if 1 ≤ (.ref t :: st).length ∧ st.length ≤ 4 then some (.inr (.inr (.inr (166, [.ref t], st)))) else none := rfl
  rw [if_pos ⟨by simp [List.length_cons]; try omega, hs⟩] at h1
  have h2 := qx_kd_obj (k := 7) (by decide) hk
  exact Rs_call c148_5 h1 (by rw [show qx_args 166 [.ref t] = decide (qx_sh t = some (.inl 7)) from rfl]; exact decide_eq_true h2)
theorem c148_8 : qx_code 148 8 = some (8, .iconst 0, 9, 0, 0, 0) := by decide +kernel
theorem s148_8 {L : Nat} {xs : Nat → Int32} {d x : Nat} {M : qxM} {st : List Value} {ls : qxL} : Rs L xs (d) 148 8 ls st M x = Rs L xs (d) 148 9 ls (.int (nI 0) :: st) M x := Rs_next c148_8 rfl
theorem c148_9 : qx_code 148 9 = some (9, .istore_n 1, 10, 0, 0, 0) := by decide +kernel
theorem s148_9i {L : Nat} {xs : Nat → Int32} {d x : Nat} {M : qxM} {st : List Value} {a1 : Option Value} {z : Int32} {y : Int32} : Rs L xs (d) 148 9 [some (.int y), a1] (.int z :: st) M x = Rs L xs (d) 148 10 [some (.int y), some (.int z)] st M x := Rs_next c148_9 rfl
theorem s148_9r {L : Nat} {xs : Nat → Int32} {d x : Nat} {M : qxM} {st : List Value} {a1 : Option Value} {z : Int32} {y : Nat} : Rs L xs (d) 148 9 [some (.ref y), a1] (.int z :: st) M x = Rs L xs (d) 148 10 [some (.ref y), some (.int z)] st M x := Rs_next c148_9 rfl
theorem s148_9n {L : Nat} {xs : Nat → Int32} {d x : Nat} {M : qxM} {st : List Value} {a1 : Option Value} {z : Int32} : Rs L xs (d) 148 9 [none, a1] (.int z :: st) M x = Rs L xs (d) 148 10 [none, some (.int z)] st M x := Rs_next c148_9 rfl
theorem c148_10 : qx_code 148 10 = some (10, .iload_n 1, 11, 0, 0, 0) := by decide +kernel
theorem s148_10 {L : Nat} {xs : Nat → Int32} {d x : Nat} {M : qxM} {st : List Value} {a0 : Option Value} {z : Int32} : Rs L xs (d) 148 10 [a0, some (.int z)] st M x = Rs L xs (d) 148 11 [a0, some (.int z)] (.int z :: st) M x := Rs_next c148_10 rfl
theorem c148_11 : qx_code 148 11 = some (11, .aload_n 0, 12, 0, 0, 0) := by decide +kernel
theorem s148_11 {L : Nat} {xs : Nat → Int32} {d x : Nat} {M : qxM} {st : List Value} {a1 : Option Value} {z : Nat} : Rs L xs (d) 148 11 [some (.ref z), a1] st M x = Rs L xs (d) 148 12 [some (.ref z), a1] (.ref z :: st) M x := Rs_next c148_11 rfl
theorem c148_12 : qx_code 148 12 = some (12, .getfield 33, 15, 7, 3, 384) := by decide +kernel
theorem s148_12 {L : Nat} {xs : Nat → Int32} {d x : Nat} {M : qxM} {st : List Value} {ls : qxL} {t : Nat} (hk : qx_kd t = 17) : Rs L xs (d) 148 12 ls (.ref t :: st) M x = Rs L xs (d) 148 15 ls (.ref (t + 90) :: st) M x := Rs_when (qx_kd_obj (k := 7) (by decide) hk) c148_12 rfl
theorem c148_15 : qx_code 148 15 = some (15, .getfield 93, 18, 4, 0, 356) := by decide +kernel
theorem s148_15 {L : Nat} {xs : Nat → Int32} {d x : Nat} {M : qxM} {st : List Value} {ls : qxL} {t : Nat} (hk : qx_kd t = 14) : Rs L xs (d) 148 15 ls (.ref t :: st) M x = Rs L xs (d) 148 18 ls (.ref (t + 1) :: st) M x := Rs_when (qx_kd_obj (k := 4) (by decide) hk) c148_15 rfl
theorem c148_18 : qx_code 148 18 = some (18, .getfield 96, 21, 2, 0, 166) := by decide +kernel
theorem s148_18 {L : Nat} {xs : Nat → Int32} {d x : Nat} {M : qxM} {st : List Value} {ls : qxL} {t : Nat} (hk : qx_kd t = 12) : Rs L xs (d) 148 18 ls (.ref t :: st) M x = Rs L xs (d) 148 21 ls (.int (M.1 t 0) :: st) M x := Rs_when (qx_kd_obj (k := 2) (by decide) hk) c148_18 rfl
theorem c148_21 : qx_code 148 21 = some (21, .if_icmp .ge 42, 24, 63, 0, 0) := by decide +kernel
theorem s148_21 {L : Nat} {xs : Nat → Int32} {d x : Nat} {M : qxM} {st : List Value} {ls : qxL} {z y : Int32} : Rs L xs (d) 148 21 ls (.int y :: .int z :: st) M x = if y ≤ z then Rs L xs (d) 148 63 ls st M x else Rs L xs (d) 148 24 ls st M x := Rs_ite c148_21 rfl
theorem c148_24 : qx_code 148 24 = some (24, .aload_n 0, 25, 0, 0, 0) := by decide +kernel
theorem s148_24 {L : Nat} {xs : Nat → Int32} {d x : Nat} {M : qxM} {st : List Value} {a1 : Option Value} {z : Nat} : Rs L xs (d) 148 24 [some (.ref z), a1] st M x = Rs L xs (d) 148 25 [some (.ref z), a1] (.ref z :: st) M x := Rs_next c148_24 rfl
theorem c148_25 : qx_code 148 25 = some (25, .getfield 33, 28, 7, 3, 384) := by decide +kernel
theorem s148_25 {L : Nat} {xs : Nat → Int32} {d x : Nat} {M : qxM} {st : List Value} {ls : qxL} {t : Nat} (hk : qx_kd t = 17) : Rs L xs (d) 148 25 ls (.ref t :: st) M x = Rs L xs (d) 148 28 ls (.ref (t + 90) :: st) M x := Rs_when (qx_kd_obj (k := 7) (by decide) hk) c148_25 rfl
theorem c148_28 : qx_code 148 28 = some (28, .getfield 93, 31, 4, 0, 356) := by decide +kernel
theorem s148_28 {L : Nat} {xs : Nat → Int32} {d x : Nat} {M : qxM} {st : List Value} {ls : qxL} {t : Nat} (hk : qx_kd t = 14) : Rs L xs (d) 148 28 ls (.ref t :: st) M x = Rs L xs (d) 148 31 ls (.ref (t + 1) :: st) M x := Rs_when (qx_kd_obj (k := 4) (by decide) hk) c148_28 rfl
theorem c148_31 : qx_code 148 31 = some (31, .iload_n 1, 32, 0, 0, 0) := by decide +kernel
theorem s148_31 {L : Nat} {xs : Nat → Int32} {d x : Nat} {M : qxM} {st : List Value} {a0 : Option Value} {z : Int32} : Rs L xs (d) 148 31 [a0, some (.int z)] st M x = Rs L xs (d) 148 32 [a0, some (.int z)] (.int z :: st) M x := Rs_next c148_31 rfl
theorem c148_32 : qx_code 148 32 = some (32, .invokevirtual 177, 35, 47, 2, 827) := by decide +kernel
theorem s148_32 {L : Nat} {xs : Nat → Int32} {d x : Nat} {M : qxM} {st : List Value} {ls : qxL} {t : Nat} {z0 : Int32} (hk : qx_kd t = 12) (hs : st.length ≤ 4) : Rs L xs (d + 1) 148 32 ls (.int z0 :: .ref t :: st) M x = (Rs L xs d 47 0 [some (.ref t), some (.int z0)] [] M 0).bind (qx_kn L xs (d + 1) 148 32 35 47 ls st x) := by
  have h1 : qx_act L xs (qx_rt 148) (32, .invokevirtual 177, 35, 47, 2, 827) ls (.int z0 :: .ref t :: st) M = if 2 ≤ (.int z0 :: .ref t :: st).length ∧ st.length ≤ 4 then some (.inr (.inr (.inr (47, [.ref t, .int z0], st)))) else none := rfl
  rw [if_pos ⟨by simp [List.length_cons]; try omega, hs⟩] at h1
  have h2 := qx_kd_obj (k := 2) (by decide) hk
  exact Rs_call c148_32 h1 (by rw [show qx_args 47 [.ref t, .int z0] = decide (qx_sh t = some (.inl 2)) from rfl]; exact decide_eq_true h2)
theorem c148_35 : qx_code 148 35 = some (35, .ifCond .eq 22, 38, 57, 0, 0) := by decide +kernel
theorem s148_35 {L : Nat} {xs : Nat → Int32} {d x : Nat} {M : qxM} {st : List Value} {ls : qxL} {z : Int32} : Rs L xs (d) 148 35 ls (.int z :: st) M x = if z = 0 then Rs L xs (d) 148 57 ls st M x else Rs L xs (d) 148 38 ls st M x := Rs_ite c148_35 rfl
theorem c148_38 : qx_code 148 38 = some (38, .aload_n 0, 39, 0, 0, 0) := by decide +kernel
theorem s148_38 {L : Nat} {xs : Nat → Int32} {d x : Nat} {M : qxM} {st : List Value} {a1 : Option Value} {z : Nat} : Rs L xs (d) 148 38 [some (.ref z), a1] st M x = Rs L xs (d) 148 39 [some (.ref z), a1] (.ref z :: st) M x := Rs_next c148_38 rfl
theorem c148_39 : qx_code 148 39 = some (39, .getfield 33, 42, 7, 3, 384) := by decide +kernel
theorem s148_39 {L : Nat} {xs : Nat → Int32} {d x : Nat} {M : qxM} {st : List Value} {ls : qxL} {t : Nat} (hk : qx_kd t = 17) : Rs L xs (d) 148 39 ls (.ref t :: st) M x = Rs L xs (d) 148 42 ls (.ref (t + 90) :: st) M x := Rs_when (qx_kd_obj (k := 7) (by decide) hk) c148_39 rfl
theorem c148_42 : qx_code 148 42 = some (42, .getfield 180, 45, 4, 1, 358) := by decide +kernel
theorem s148_42 {L : Nat} {xs : Nat → Int32} {d x : Nat} {M : qxM} {st : List Value} {ls : qxL} {t : Nat} (hk : qx_kd t = 14) : Rs L xs (d) 148 42 ls (.ref t :: st) M x = Rs L xs (d) 148 45 ls (.ref (t + 4) :: st) M x := Rs_when (qx_kd_obj (k := 4) (by decide) hk) c148_42 rfl
theorem c148_45 : qx_code 148 45 = some (45, .iload_n 1, 46, 0, 0, 0) := by decide +kernel
theorem s148_45 {L : Nat} {xs : Nat → Int32} {d x : Nat} {M : qxM} {st : List Value} {a0 : Option Value} {z : Int32} : Rs L xs (d) 148 45 [a0, some (.int z)] st M x = Rs L xs (d) 148 46 [a0, some (.int z)] (.int z :: st) M x := Rs_next c148_45 rfl
theorem c148_46 : qx_code 148 46 = some (46, .invokevirtual 358, 49, 53, 2, 1427) := by decide +kernel
theorem s148_46 {L : Nat} {xs : Nat → Int32} {d x : Nat} {M : qxM} {st : List Value} {ls : qxL} {t : Nat} {z0 : Int32} (hk : qx_kd t = 13) (hs : st.length ≤ 4) : Rs L xs (d + 1) 148 46 ls (.int z0 :: .ref t :: st) M x = (Rs L xs d 53 0 [some (.ref t), some (.int z0), none] [] M 0).bind (qx_kn L xs (d + 1) 148 46 49 53 ls st x) := by
  have h1 : qx_act L xs (qx_rt 148) (46, .invokevirtual 358, 49, 53, 2, 1427) ls (.int z0 :: .ref t :: st) M = if 2 ≤ (.int z0 :: .ref t :: st).length ∧ st.length ≤ 4 then some (.inr (.inr (.inr (53, [.ref t, .int z0], st)))) else none := rfl
  rw [if_pos ⟨by simp [List.length_cons]; try omega, hs⟩] at h1
  have h2 := qx_kd_obj (k := 3) (by decide) hk
  exact Rs_call c148_46 h1 (by rw [show qx_args 53 [.ref t, .int z0] = decide (qx_sh t = some (.inl 3)) from rfl]; exact decide_eq_true h2)
theorem c148_49 : qx_code 148 49 = some (49, .aload_n 0, 50, 0, 0, 0) := by decide +kernel
theorem s148_49 {L : Nat} {xs : Nat → Int32} {d x : Nat} {M : qxM} {st : List Value} {a1 : Option Value} {z : Nat} : Rs L xs (d) 148 49 [some (.ref z), a1] st M x = Rs L xs (d) 148 50 [some (.ref z), a1] (.ref z :: st) M x := Rs_next c148_49 rfl
theorem c148_50 : qx_code 148 50 = some (50, .getfield 33, 53, 7, 3, 384) := by decide +kernel
theorem s148_50 {L : Nat} {xs : Nat → Int32} {d x : Nat} {M : qxM} {st : List Value} {ls : qxL} {t : Nat} (hk : qx_kd t = 17) : Rs L xs (d) 148 50 ls (.ref t :: st) M x = Rs L xs (d) 148 53 ls (.ref (t + 90) :: st) M x := Rs_when (qx_kd_obj (k := 7) (by decide) hk) c148_50 rfl
theorem c148_53 : qx_code 148 53 = some (53, .invokevirtual 324, 56, 77, 1, 1257) := by decide +kernel
theorem s148_53 {L : Nat} {xs : Nat → Int32} {d x : Nat} {M : qxM} {st : List Value} {ls : qxL} {t : Nat} (hk : qx_kd t = 14) (hs : st.length ≤ 4) : Rs L xs (d + 1) 148 53 ls (.ref t :: st) M x = (Rs L xs d 77 0 [some (.ref t), none, none, none] [] M 0).bind (qx_kn L xs (d + 1) 148 53 56 77 ls st x) := by
  have h1 : qx_act L xs (qx_rt 148) (53, .invokevirtual 324, 56, 77, 1, 1257) ls (.ref t :: st) M = if 1 ≤ (.ref t :: st).length ∧ st.length ≤ 4 then some (.inr (.inr (.inr (77, [.ref t], st)))) else none := rfl
  rw [if_pos ⟨by simp [List.length_cons]; try omega, hs⟩] at h1
  have h2 := qx_kd_obj (k := 4) (by decide) hk
  exact Rs_call c148_53 h1 (by rw [show qx_args 77 [.ref t] = decide (qx_sh t = some (.inl 4)) from rfl]; exact decide_eq_true h2)
theorem c148_56 : qx_code 148 56 = some (56, .pop, 57, 0, 0, 0) := by decide +kernel
theorem s148_56 {L : Nat} {xs : Nat → Int32} {d x : Nat} {M : qxM} {st : List Value} {ls : qxL} {z : Int32} : Rs L xs (d) 148 56 ls (.int z :: st) M x = Rs L xs (d) 148 57 ls st M x := Rs_next c148_56 rfl
theorem c148_57 : qx_code 148 57 = some (57, .iinc 1 1, 60, 0, 0, 0) := by decide +kernel
theorem s148_57i {L : Nat} {xs : Nat → Int32} {d x : Nat} {M : qxM} {st : List Value} {z : Int32} {y : Int32} : Rs L xs (d) 148 57 [some (.int y), some (.int z)] st M x = Rs L xs (d) 148 60 [some (.int y), some (.int (z + (nI 1)))] st M x := Rs_next c148_57 rfl
theorem s148_57r {L : Nat} {xs : Nat → Int32} {d x : Nat} {M : qxM} {st : List Value} {z : Int32} {y : Nat} : Rs L xs (d) 148 57 [some (.ref y), some (.int z)] st M x = Rs L xs (d) 148 60 [some (.ref y), some (.int (z + (nI 1)))] st M x := Rs_next c148_57 rfl
theorem s148_57n {L : Nat} {xs : Nat → Int32} {d x : Nat} {M : qxM} {st : List Value} {z : Int32} : Rs L xs (d) 148 57 [none, some (.int z)] st M x = Rs L xs (d) 148 60 [none, some (.int (z + (nI 1)))] st M x := Rs_next c148_57 rfl
theorem c148_60 : qx_code 148 60 = some (60, .goto (-50), 63, 10, 0, 0) := by decide +kernel
theorem s148_60 {L : Nat} {xs : Nat → Int32} {d x : Nat} {M : qxM} {st : List Value} {ls : qxL} : Rs L xs (d) 148 60 ls st M x = Rs L xs (d) 148 10 ls st M x := Rs_next c148_60 rfl
theorem c148_63 : qx_code 148 63 = some (63, .aload_n 0, 64, 0, 0, 0) := by decide +kernel
theorem s148_63 {L : Nat} {xs : Nat → Int32} {d x : Nat} {M : qxM} {st : List Value} {a1 : Option Value} {z : Nat} : Rs L xs (d) 148 63 [some (.ref z), a1] st M x = Rs L xs (d) 148 64 [some (.ref z), a1] (.ref z :: st) M x := Rs_next c148_63 rfl
theorem c148_64 : qx_code 148 64 = some (64, .getfield 33, 67, 7, 3, 384) := by decide +kernel
theorem s148_64 {L : Nat} {xs : Nat → Int32} {d x : Nat} {M : qxM} {st : List Value} {ls : qxL} {t : Nat} (hk : qx_kd t = 17) : Rs L xs (d) 148 64 ls (.ref t :: st) M x = Rs L xs (d) 148 67 ls (.ref (t + 90) :: st) M x := Rs_when (qx_kd_obj (k := 7) (by decide) hk) c148_64 rfl
theorem c148_67 : qx_code 148 67 = some (67, .getfield 180, 70, 4, 1, 358) := by decide +kernel
theorem s148_67 {L : Nat} {xs : Nat → Int32} {d x : Nat} {M : qxM} {st : List Value} {ls : qxL} {t : Nat} (hk : qx_kd t = 14) : Rs L xs (d) 148 67 ls (.ref t :: st) M x = Rs L xs (d) 148 70 ls (.ref (t + 4) :: st) M x := Rs_when (qx_kd_obj (k := 4) (by decide) hk) c148_67 rfl
theorem c148_70 : qx_code 148 70 = some (70, .invokevirtual 367, 73, 54, 1, 1458) := by decide +kernel
theorem s148_70 {L : Nat} {xs : Nat → Int32} {d x : Nat} {M : qxM} {st : List Value} {ls : qxL} {t : Nat} (hk : qx_kd t = 13) (hs : st.length ≤ 4) : Rs L xs (d + 1) 148 70 ls (.ref t :: st) M x = (Rs L xs d 54 0 [some (.ref t)] [] M 0).bind (qx_kn L xs (d + 1) 148 70 73 54 ls st x) := by
  have h1 : qx_act L xs (qx_rt 148) (70, .invokevirtual 367, 73, 54, 1, 1458) ls (.ref t :: st) M = if 1 ≤ (.ref t :: st).length ∧ st.length ≤ 4 then some (.inr (.inr (.inr (54, [.ref t], st)))) else none := rfl
  rw [if_pos ⟨by simp [List.length_cons]; try omega, hs⟩] at h1
  have h2 := qx_kd_obj (k := 3) (by decide) hk
  exact Rs_call c148_70 h1 (by rw [show qx_args 54 [.ref t] = decide (qx_sh t = some (.inl 3)) from rfl]; exact decide_eq_true h2)
theorem c148_73 : qx_code 148 73 = some (73, .aload_n 0, 74, 0, 0, 0) := by decide +kernel
theorem s148_73 {L : Nat} {xs : Nat → Int32} {d x : Nat} {M : qxM} {st : List Value} {a1 : Option Value} {z : Nat} : Rs L xs (d) 148 73 [some (.ref z), a1] st M x = Rs L xs (d) 148 74 [some (.ref z), a1] (.ref z :: st) M x := Rs_next c148_73 rfl
theorem c148_74 : qx_code 148 74 = some (74, .getfield 33, 77, 7, 3, 384) := by decide +kernel
theorem s148_74 {L : Nat} {xs : Nat → Int32} {d x : Nat} {M : qxM} {st : List Value} {ls : qxL} {t : Nat} (hk : qx_kd t = 17) : Rs L xs (d) 148 74 ls (.ref t :: st) M x = Rs L xs (d) 148 77 ls (.ref (t + 90) :: st) M x := Rs_when (qx_kd_obj (k := 7) (by decide) hk) c148_74 rfl
theorem c148_77 : qx_code 148 77 = some (77, .getfield 93, 80, 4, 0, 356) := by decide +kernel
theorem s148_77 {L : Nat} {xs : Nat → Int32} {d x : Nat} {M : qxM} {st : List Value} {ls : qxL} {t : Nat} (hk : qx_kd t = 14) : Rs L xs (d) 148 77 ls (.ref t :: st) M x = Rs L xs (d) 148 80 ls (.ref (t + 1) :: st) M x := Rs_when (qx_kd_obj (k := 4) (by decide) hk) c148_77 rfl
theorem c148_80 : qx_code 148 80 = some (80, .invokevirtual 121, 83, 48, 1, 767) := by decide +kernel
theorem s148_80 {L : Nat} {xs : Nat → Int32} {d x : Nat} {M : qxM} {st : List Value} {ls : qxL} {t : Nat} (hk : qx_kd t = 12) (hs : st.length ≤ 4) : Rs L xs (d + 1) 148 80 ls (.ref t :: st) M x = (Rs L xs d 48 0 [some (.ref t), none, none] [] M 0).bind (qx_kn L xs (d + 1) 148 80 83 48 ls st x) := by
  have h1 : qx_act L xs (qx_rt 148) (80, .invokevirtual 121, 83, 48, 1, 767) ls (.ref t :: st) M = if 1 ≤ (.ref t :: st).length ∧ st.length ≤ 4 then some (.inr (.inr (.inr (48, [.ref t], st)))) else none := rfl
  rw [if_pos ⟨by simp [List.length_cons]; try omega, hs⟩] at h1
  have h2 := qx_kd_obj (k := 2) (by decide) hk
  exact Rs_call c148_80 h1 (by rw [show qx_args 48 [.ref t] = decide (qx_sh t = some (.inl 2)) from rfl]; exact decide_eq_true h2)
theorem c148_83 : qx_code 148 83 = some (83, .ireturn, 84, 0, 0, 0) := by decide +kernel
theorem s148_83 {L : Nat} {xs : Nat → Int32} {d x : Nat} {M : qxM} {ls : qxL} {z : Int32} : Rs L xs (d) 148 83 ls [.int z] M x = some (.inl (some (.int z)), M, x) := Rs_ret c148_83 rfl
theorem c149_0 : qx_code 149 0 = some (0, .aload_n 0, 1, 0, 0, 0) := by decide +kernel
theorem s149_0 {L : Nat} {xs : Nat → Int32} {d x : Nat} {M : qxM} {st : List Value} {a1 a2 : Option Value} {z : Nat} : Rs L xs (d) 149 0 [some (.ref z), a1, a2] st M x = Rs L xs (d) 149 1 [some (.ref z), a1, a2] (.ref z :: st) M x := Rs_next c149_0 rfl
theorem c149_1 : qx_code 149 1 = some (1, .iload_n 1, 2, 0, 0, 0) := by decide +kernel
theorem s149_1 {L : Nat} {xs : Nat → Int32} {d x : Nat} {M : qxM} {st : List Value} {a0 a2 : Option Value} {z : Int32} : Rs L xs (d) 149 1 [a0, some (.int z), a2] st M x = Rs L xs (d) 149 2 [a0, some (.int z), a2] (.int z :: st) M x := Rs_next c149_1 rfl
theorem c149_2 : qx_code 149 2 = some (2, .iload_n 2, 3, 0, 0, 0) := by decide +kernel
theorem s149_2 {L : Nat} {xs : Nat → Int32} {d x : Nat} {M : qxM} {st : List Value} {a0 a1 : Option Value} {z : Int32} : Rs L xs (d) 149 2 [a0, a1, some (.int z)] st M x = Rs L xs (d) 149 3 [a0, a1, some (.int z)] (.int z :: st) M x := Rs_next c149_2 rfl
theorem c149_3 : qx_code 149 3 = some (3, .invokevirtual 163, 6, 161, 3, 799) := by decide +kernel
theorem s149_3 {L : Nat} {xs : Nat → Int32} {d x : Nat} {M : qxM} {st : List Value} {ls : qxL} {t : Nat} {z0 : Int32} {z1 : Int32} (hk : qx_kd t = 17) (hs : st.length ≤ 4) : Rs L xs (d + 1) 149 3 ls (.int z1 :: .int z0 :: .ref t :: st) M x = (Rs L xs d 161 0 [some (.ref t), some (.int z0), some (.int z1)] [] M 0).bind (qx_kn L xs (d + 1) 149 3 6 161 ls st x) := by
  have h1 : qx_act L xs (qx_rt 149) (3, .invokevirtual 163, 6, 161, 3, 799) ls (.int z1 :: .int z0 :: .ref t :: st) M = if 3 ≤ (.int z1 :: .int z0 :: .ref t :: st).length ∧ st.length ≤ 4 then some (.inr (.inr (.inr (161, [.ref t, .int z0, .int z1], st)))) else none := rfl
  rw [if_pos ⟨by simp [List.length_cons]; try omega, hs⟩] at h1
  have h2 := qx_kd_obj (k := 7) (by decide) hk
  exact Rs_call c149_3 h1 (by rw [show qx_args 161 [.ref t, .int z0, .int z1] = decide (qx_sh t = some (.inl 7)) from rfl]; exact decide_eq_true h2)
theorem c149_6 : qx_code 149 6 = some (6, .aload_n 0, 7, 0, 0, 0) := by decide +kernel
theorem s149_6 {L : Nat} {xs : Nat → Int32} {d x : Nat} {M : qxM} {st : List Value} {a1 a2 : Option Value} {z : Nat} : Rs L xs (d) 149 6 [some (.ref z), a1, a2] st M x = Rs L xs (d) 149 7 [some (.ref z), a1, a2] (.ref z :: st) M x := Rs_next c149_6 rfl
theorem c149_7 : qx_code 149 7 = some (7, .iload_n 1, 8, 0, 0, 0) := by decide +kernel
theorem s149_7 {L : Nat} {xs : Nat → Int32} {d x : Nat} {M : qxM} {st : List Value} {a0 a2 : Option Value} {z : Int32} : Rs L xs (d) 149 7 [a0, some (.int z), a2] st M x = Rs L xs (d) 149 8 [a0, some (.int z), a2] (.int z :: st) M x := Rs_next c149_7 rfl
theorem c149_8 : qx_code 149 8 = some (8, .iload_n 2, 9, 0, 0, 0) := by decide +kernel
theorem s149_8 {L : Nat} {xs : Nat → Int32} {d x : Nat} {M : qxM} {st : List Value} {a0 a1 : Option Value} {z : Int32} : Rs L xs (d) 149 8 [a0, a1, some (.int z)] st M x = Rs L xs (d) 149 9 [a0, a1, some (.int z)] (.int z :: st) M x := Rs_next c149_8 rfl
theorem c149_9 : qx_code 149 9 = some (9, .invokevirtual 170, 12, 102, 3, 818) := by decide +kernel
theorem s149_9 {L : Nat} {xs : Nat → Int32} {d x : Nat} {M : qxM} {st : List Value} {ls : qxL} {t : Nat} {z0 : Int32} {z1 : Int32} (hk : qx_kd t = 17) (hs : st.length ≤ 4) : Rs L xs (d + 1) 149 9 ls (.int z1 :: .int z0 :: .ref t :: st) M x = (Rs L xs d 102 0 [some (.ref t), some (.int z0), some (.int z1), none] [] M 0).bind (qx_kn L xs (d + 1) 149 9 12 102 ls st x) := by
  have h1 : qx_act L xs (qx_rt 149) (9, .invokevirtual 170, 12, 102, 3, 818) ls (.int z1 :: .int z0 :: .ref t :: st) M = if 3 ≤ (.int z1 :: .int z0 :: .ref t :: st).length ∧ st.length ≤ 4 then some (.inr (.inr (.inr (102, [.ref t, .int z0, .int z1], st)))) else none := rfl
  rw [if_pos ⟨by simp [List.length_cons]; try omega, hs⟩] at h1
  have h2 := qx_kd_obj (k := 7) (by decide) hk
  exact Rs_call c149_9 h1 (by rw [show qx_args 102 [.ref t, .int z0, .int z1] = decide (qx_sh t = some (.inl 7)) from rfl]; exact decide_eq_true h2)
theorem c149_12 : qx_code 149 12 = some (12, .ifCond .eq 14, 15, 26, 0, 0) := by decide +kernel
theorem s149_12 {L : Nat} {xs : Nat → Int32} {d x : Nat} {M : qxM} {st : List Value} {ls : qxL} {z : Int32} : Rs L xs (d) 149 12 ls (.int z :: st) M x = if z = 0 then Rs L xs (d) 149 26 ls st M x else Rs L xs (d) 149 15 ls st M x := Rs_ite c149_12 rfl
theorem c149_15 : qx_code 149 15 = some (15, .new 70, 18, 1, 14, 6930683) := by decide +kernel
theorem s149_15 {L : Nat} {xs : Nat → Int32} {d x : Nat} {M : qxM} {ls : qxL} : Rs L xs (d) 149 15 ls [] M x = some (.inr (qx_ex 1), M, x + 1) := Rs_thr rfl c149_15 rfl
theorem c149_18 : qx_code 149 18 = some (18, .dup, 19, 0, 0, 0) := by decide +kernel
theorem s149_18r {L : Nat} {xs : Nat → Int32} {d x : Nat} {M : qxM} {st : List Value} {ls : qxL} {z : Nat} : Rs L xs (d) 149 18 ls (.ref z :: st) M x = Rs L xs (d) 149 19 ls (.ref z :: .ref z :: st) M x := Rs_next c149_18 rfl
theorem s149_18i {L : Nat} {xs : Nat → Int32} {d x : Nat} {M : qxM} {st : List Value} {ls : qxL} {z : Int32} : Rs L xs (d) 149 18 ls (.int z :: st) M x = Rs L xs (d) 149 19 ls (.int z :: .int z :: st) M x := Rs_next c149_18 rfl
theorem c149_19 : qx_code 149 19 = some (19, .ldc_w 370, 22, 14, 1, 0) := by decide +kernel
theorem c149_22 : qx_code 149 22 = some (22, .invokespecial 74, 25, 9999, 2, 693) := by decide +kernel
theorem c149_25 : qx_code 149 25 = some (25, .athrow, 26, 0, 0, 0) := by decide +kernel
theorem c149_26 : qx_code 149 26 = some (26, .aload_n 0, 27, 0, 0, 0) := by decide +kernel
theorem s149_26 {L : Nat} {xs : Nat → Int32} {d x : Nat} {M : qxM} {st : List Value} {a1 a2 : Option Value} {z : Nat} : Rs L xs (d) 149 26 [some (.ref z), a1, a2] st M x = Rs L xs (d) 149 27 [some (.ref z), a1, a2] (.ref z :: st) M x := Rs_next c149_26 rfl
theorem c149_27 : qx_code 149 27 = some (27, .invokevirtual 355, 30, 166, 1, 1405) := by decide +kernel
theorem s149_27 {L : Nat} {xs : Nat → Int32} {d x : Nat} {M : qxM} {st : List Value} {ls : qxL} {t : Nat} (hk : qx_kd t = 17) (hs : st.length ≤ 4) : Rs L xs (d + 1) 149 27 ls (.ref t :: st) M x = (Rs L xs d 166 0 [some (.ref t)] [] M 0).bind (qx_kn L xs (d + 1) 149 27 30 166 ls st x) := by
  have h1 : qx_act L xs (qx_rt 149) (27, .invokevirtual 355, 30, 166, 1, 1405) ls (.ref t :: st) M = if 1 ≤ (.ref t :: st).length ∧ st.length ≤ 4 then some (.inr (.inr (.inr (166, [.ref t], st)))) else none := rfl
  rw [if_pos ⟨by simp [List.length_cons]; try omega, hs⟩] at h1
  have h2 := qx_kd_obj (k := 7) (by decide) hk
  exact Rs_call c149_27 h1 (by rw [show qx_args 166 [.ref t] = decide (qx_sh t = some (.inl 7)) from rfl]; exact decide_eq_true h2)
theorem c149_30 : qx_code 149 30 = some (30, .aload_n 0, 31, 0, 0, 0) := by decide +kernel
theorem s149_30 {L : Nat} {xs : Nat → Int32} {d x : Nat} {M : qxM} {st : List Value} {a1 a2 : Option Value} {z : Nat} : Rs L xs (d) 149 30 [some (.ref z), a1, a2] st M x = Rs L xs (d) 149 31 [some (.ref z), a1, a2] (.ref z :: st) M x := Rs_next c149_30 rfl
theorem c149_31 : qx_code 149 31 = some (31, .getfield 33, 34, 7, 3, 384) := by decide +kernel
theorem s149_31 {L : Nat} {xs : Nat → Int32} {d x : Nat} {M : qxM} {st : List Value} {ls : qxL} {t : Nat} (hk : qx_kd t = 17) : Rs L xs (d) 149 31 ls (.ref t :: st) M x = Rs L xs (d) 149 34 ls (.ref (t + 90) :: st) M x := Rs_when (qx_kd_obj (k := 7) (by decide) hk) c149_31 rfl
theorem c149_34 : qx_code 149 34 = some (34, .getfield 180, 37, 4, 1, 358) := by decide +kernel
theorem s149_34 {L : Nat} {xs : Nat → Int32} {d x : Nat} {M : qxM} {st : List Value} {ls : qxL} {t : Nat} (hk : qx_kd t = 14) : Rs L xs (d) 149 34 ls (.ref t :: st) M x = Rs L xs (d) 149 37 ls (.ref (t + 4) :: st) M x := Rs_when (qx_kd_obj (k := 4) (by decide) hk) c149_34 rfl
theorem c149_37 : qx_code 149 37 = some (37, .invokevirtual 367, 40, 54, 1, 1458) := by decide +kernel
theorem s149_37 {L : Nat} {xs : Nat → Int32} {d x : Nat} {M : qxM} {st : List Value} {ls : qxL} {t : Nat} (hk : qx_kd t = 13) (hs : st.length ≤ 4) : Rs L xs (d + 1) 149 37 ls (.ref t :: st) M x = (Rs L xs d 54 0 [some (.ref t)] [] M 0).bind (qx_kn L xs (d + 1) 149 37 40 54 ls st x) := by
  have h1 : qx_act L xs (qx_rt 149) (37, .invokevirtual 367, 40, 54, 1, 1458) ls (.ref t :: st) M = if 1 ≤ (.ref t :: st).length ∧ st.length ≤ 4 then some (.inr (.inr (.inr (54, [.ref t], st)))) else none := rfl
  rw [if_pos ⟨by simp [List.length_cons]; try omega, hs⟩] at h1
  have h2 := qx_kd_obj (k := 3) (by decide) hk
  exact Rs_call c149_37 h1 (by rw [show qx_args 54 [.ref t] = decide (qx_sh t = some (.inl 3)) from rfl]; exact decide_eq_true h2)
theorem c149_40 : qx_code 149 40 = some (40, .aload_n 0, 41, 0, 0, 0) := by decide +kernel
theorem s149_40 {L : Nat} {xs : Nat → Int32} {d x : Nat} {M : qxM} {st : List Value} {a1 a2 : Option Value} {z : Nat} : Rs L xs (d) 149 40 [some (.ref z), a1, a2] st M x = Rs L xs (d) 149 41 [some (.ref z), a1, a2] (.ref z :: st) M x := Rs_next c149_40 rfl
theorem c149_41 : qx_code 149 41 = some (41, .getfield 33, 44, 7, 3, 384) := by decide +kernel
theorem s149_41 {L : Nat} {xs : Nat → Int32} {d x : Nat} {M : qxM} {st : List Value} {ls : qxL} {t : Nat} (hk : qx_kd t = 17) : Rs L xs (d) 149 41 ls (.ref t :: st) M x = Rs L xs (d) 149 44 ls (.ref (t + 90) :: st) M x := Rs_when (qx_kd_obj (k := 7) (by decide) hk) c149_41 rfl
theorem c149_44 : qx_code 149 44 = some (44, .getfield 93, 47, 4, 0, 356) := by decide +kernel
theorem s149_44 {L : Nat} {xs : Nat → Int32} {d x : Nat} {M : qxM} {st : List Value} {ls : qxL} {t : Nat} (hk : qx_kd t = 14) : Rs L xs (d) 149 44 ls (.ref t :: st) M x = Rs L xs (d) 149 47 ls (.ref (t + 1) :: st) M x := Rs_when (qx_kd_obj (k := 4) (by decide) hk) c149_44 rfl
theorem c149_47 : qx_code 149 47 = some (47, .iload_n 1, 48, 0, 0, 0) := by decide +kernel
theorem s149_47 {L : Nat} {xs : Nat → Int32} {d x : Nat} {M : qxM} {st : List Value} {a0 a2 : Option Value} {z : Int32} : Rs L xs (d) 149 47 [a0, some (.int z), a2] st M x = Rs L xs (d) 149 48 [a0, some (.int z), a2] (.int z :: st) M x := Rs_next c149_47 rfl
theorem c149_48 : qx_code 149 48 = some (48, .iload_n 2, 49, 0, 0, 0) := by decide +kernel
theorem s149_48 {L : Nat} {xs : Nat → Int32} {d x : Nat} {M : qxM} {st : List Value} {a0 a1 : Option Value} {z : Int32} : Rs L xs (d) 149 48 [a0, a1, some (.int z)] st M x = Rs L xs (d) 149 49 [a0, a1, some (.int z)] (.int z :: st) M x := Rs_next c149_48 rfl
theorem c149_49 : qx_code 149 49 = some (49, .invokevirtual 372, 52, 49, 3, 1467) := by decide +kernel
theorem s149_49 {L : Nat} {xs : Nat → Int32} {d x : Nat} {M : qxM} {st : List Value} {ls : qxL} {t : Nat} {z0 : Int32} {z1 : Int32} (hk : qx_kd t = 12) (hs : st.length ≤ 4) : Rs L xs (d + 1) 149 49 ls (.int z1 :: .int z0 :: .ref t :: st) M x = (Rs L xs d 49 0 [some (.ref t), some (.int z0), some (.int z1)] [] M 0).bind (qx_kn L xs (d + 1) 149 49 52 49 ls st x) := by
  have h1 : qx_act L xs (qx_rt 149) (49, .invokevirtual 372, 52, 49, 3, 1467) ls (.int z1 :: .int z0 :: .ref t :: st) M = if 3 ≤ (.int z1 :: .int z0 :: .ref t :: st).length ∧ st.length ≤ 4 then some (.inr (.inr (.inr (49, [.ref t, .int z0, .int z1], st)))) else none := rfl
  rw [if_pos ⟨by simp [List.length_cons]; try omega, hs⟩] at h1
  have h2 := qx_kd_obj (k := 2) (by decide) hk
  exact Rs_call c149_49 h1 (by rw [show qx_args 49 [.ref t, .int z0, .int z1] = decide (qx_sh t = some (.inl 2)) from rfl]; exact decide_eq_true h2)
theorem c149_52 : qx_code 149 52 = some (52, .aload_n 0, 53, 0, 0, 0) := by decide +kernel
theorem s149_52 {L : Nat} {xs : Nat → Int32} {d x : Nat} {M : qxM} {st : List Value} {a1 a2 : Option Value} {z : Nat} : Rs L xs (d) 149 52 [some (.ref z), a1, a2] st M x = Rs L xs (d) 149 53 [some (.ref z), a1, a2] (.ref z :: st) M x := Rs_next c149_52 rfl
theorem c149_53 : qx_code 149 53 = some (53, .getfield 33, 56, 7, 3, 384) := by decide +kernel
theorem s149_53 {L : Nat} {xs : Nat → Int32} {d x : Nat} {M : qxM} {st : List Value} {ls : qxL} {t : Nat} (hk : qx_kd t = 17) : Rs L xs (d) 149 53 ls (.ref t :: st) M x = Rs L xs (d) 149 56 ls (.ref (t + 90) :: st) M x := Rs_when (qx_kd_obj (k := 7) (by decide) hk) c149_53 rfl
theorem c149_56 : qx_code 149 56 = some (56, .getfield 93, 59, 4, 0, 356) := by decide +kernel
theorem s149_56 {L : Nat} {xs : Nat → Int32} {d x : Nat} {M : qxM} {st : List Value} {ls : qxL} {t : Nat} (hk : qx_kd t = 14) : Rs L xs (d) 149 56 ls (.ref t :: st) M x = Rs L xs (d) 149 59 ls (.ref (t + 1) :: st) M x := Rs_when (qx_kd_obj (k := 4) (by decide) hk) c149_56 rfl
theorem c149_59 : qx_code 149 59 = some (59, .invokevirtual 121, 62, 48, 1, 767) := by decide +kernel
theorem s149_59 {L : Nat} {xs : Nat → Int32} {d x : Nat} {M : qxM} {st : List Value} {ls : qxL} {t : Nat} (hk : qx_kd t = 12) (hs : st.length ≤ 4) : Rs L xs (d + 1) 149 59 ls (.ref t :: st) M x = (Rs L xs d 48 0 [some (.ref t), none, none] [] M 0).bind (qx_kn L xs (d + 1) 149 59 62 48 ls st x) := by
  have h1 : qx_act L xs (qx_rt 149) (59, .invokevirtual 121, 62, 48, 1, 767) ls (.ref t :: st) M = if 1 ≤ (.ref t :: st).length ∧ st.length ≤ 4 then some (.inr (.inr (.inr (48, [.ref t], st)))) else none := rfl
  rw [if_pos ⟨by simp [List.length_cons]; try omega, hs⟩] at h1
  have h2 := qx_kd_obj (k := 2) (by decide) hk
  exact Rs_call c149_59 h1 (by rw [show qx_args 48 [.ref t] = decide (qx_sh t = some (.inl 2)) from rfl]; exact decide_eq_true h2)
theorem c149_62 : qx_code 149 62 = some (62, .ireturn, 63, 0, 0, 0) := by decide +kernel
theorem s149_62 {L : Nat} {xs : Nat → Int32} {d x : Nat} {M : qxM} {ls : qxL} {z : Int32} : Rs L xs (d) 149 62 ls [.int z] M x = some (.inl (some (.int z)), M, x) := Rs_ret c149_62 rfl
theorem c150_0 : qx_code 150 0 = some (0, .aload_n 0, 1, 0, 0, 0) := by decide +kernel
theorem s150_0 {L : Nat} {xs : Nat → Int32} {d x : Nat} {M : qxM} {st : List Value} {a1 a2 : Option Value} {z : Nat} : Rs L xs (d) 150 0 [some (.ref z), a1, a2] st M x = Rs L xs (d) 150 1 [some (.ref z), a1, a2] (.ref z :: st) M x := Rs_next c150_0 rfl
theorem c150_1 : qx_code 150 1 = some (1, .iload_n 1, 2, 0, 0, 0) := by decide +kernel
theorem s150_1 {L : Nat} {xs : Nat → Int32} {d x : Nat} {M : qxM} {st : List Value} {a0 a2 : Option Value} {z : Int32} : Rs L xs (d) 150 1 [a0, some (.int z), a2] st M x = Rs L xs (d) 150 2 [a0, some (.int z), a2] (.int z :: st) M x := Rs_next c150_1 rfl
theorem c150_2 : qx_code 150 2 = some (2, .invokevirtual 148, 5, 160, 2, 780) := by decide +kernel
theorem s150_2 {L : Nat} {xs : Nat → Int32} {d x : Nat} {M : qxM} {st : List Value} {ls : qxL} {t : Nat} {z0 : Int32} (hk : qx_kd t = 17) (hs : st.length ≤ 4) : Rs L xs (d + 1) 150 2 ls (.int z0 :: .ref t :: st) M x = (Rs L xs d 160 0 [some (.ref t), some (.int z0)] [] M 0).bind (qx_kn L xs (d + 1) 150 2 5 160 ls st x) := by
  have h1 : qx_act L xs (qx_rt 150) (2, .invokevirtual 148, 5, 160, 2, 780) ls (.int z0 :: .ref t :: st) M = if 2 ≤ (.int z0 :: .ref t :: st).length ∧ st.length ≤ 4 then some (.inr (.inr (.inr (160, [.ref t, .int z0], st)))) else none := rfl
  rw [if_pos ⟨by simp [List.length_cons]; try omega, hs⟩] at h1
  have h2 := qx_kd_obj (k := 7) (by decide) hk
  exact Rs_call c150_2 h1 (by rw [show qx_args 160 [.ref t, .int z0] = decide (qx_sh t = some (.inl 7)) from rfl]; exact decide_eq_true h2)
theorem c150_5 : qx_code 150 5 = some (5, .aload_n 0, 6, 0, 0, 0) := by decide +kernel
theorem s150_5 {L : Nat} {xs : Nat → Int32} {d x : Nat} {M : qxM} {st : List Value} {a1 a2 : Option Value} {z : Nat} : Rs L xs (d) 150 5 [some (.ref z), a1, a2] st M x = Rs L xs (d) 150 6 [some (.ref z), a1, a2] (.ref z :: st) M x := Rs_next c150_5 rfl
theorem c150_6 : qx_code 150 6 = some (6, .getfield 33, 9, 7, 3, 384) := by decide +kernel
theorem s150_6 {L : Nat} {xs : Nat → Int32} {d x : Nat} {M : qxM} {st : List Value} {ls : qxL} {t : Nat} (hk : qx_kd t = 17) : Rs L xs (d) 150 6 ls (.ref t :: st) M x = Rs L xs (d) 150 9 ls (.ref (t + 90) :: st) M x := Rs_when (qx_kd_obj (k := 7) (by decide) hk) c150_6 rfl
theorem c150_9 : qx_code 150 9 = some (9, .getfield 93, 12, 4, 0, 356) := by decide +kernel
theorem s150_9 {L : Nat} {xs : Nat → Int32} {d x : Nat} {M : qxM} {st : List Value} {ls : qxL} {t : Nat} (hk : qx_kd t = 14) : Rs L xs (d) 150 9 ls (.ref t :: st) M x = Rs L xs (d) 150 12 ls (.ref (t + 1) :: st) M x := Rs_when (qx_kd_obj (k := 4) (by decide) hk) c150_9 rfl
theorem c150_12 : qx_code 150 12 = some (12, .iload_n 1, 13, 0, 0, 0) := by decide +kernel
theorem s150_12 {L : Nat} {xs : Nat → Int32} {d x : Nat} {M : qxM} {st : List Value} {a0 a2 : Option Value} {z : Int32} : Rs L xs (d) 150 12 [a0, some (.int z), a2] st M x = Rs L xs (d) 150 13 [a0, some (.int z), a2] (.int z :: st) M x := Rs_next c150_12 rfl
theorem c150_13 : qx_code 150 13 = some (13, .invokevirtual 177, 16, 47, 2, 827) := by decide +kernel
theorem s150_13 {L : Nat} {xs : Nat → Int32} {d x : Nat} {M : qxM} {st : List Value} {ls : qxL} {t : Nat} {z0 : Int32} (hk : qx_kd t = 12) (hs : st.length ≤ 4) : Rs L xs (d + 1) 150 13 ls (.int z0 :: .ref t :: st) M x = (Rs L xs d 47 0 [some (.ref t), some (.int z0)] [] M 0).bind (qx_kn L xs (d + 1) 150 13 16 47 ls st x) := by
  have h1 : qx_act L xs (qx_rt 150) (13, .invokevirtual 177, 16, 47, 2, 827) ls (.int z0 :: .ref t :: st) M = if 2 ≤ (.int z0 :: .ref t :: st).length ∧ st.length ≤ 4 then some (.inr (.inr (.inr (47, [.ref t, .int z0], st)))) else none := rfl
  rw [if_pos ⟨by simp [List.length_cons]; try omega, hs⟩] at h1
  have h2 := qx_kd_obj (k := 2) (by decide) hk
  exact Rs_call c150_13 h1 (by rw [show qx_args 47 [.ref t, .int z0] = decide (qx_sh t = some (.inl 2)) from rfl]; exact decide_eq_true h2)
theorem c150_16 : qx_code 150 16 = some (16, .ifCond .eq 14, 19, 30, 0, 0) := by decide +kernel
theorem s150_16 {L : Nat} {xs : Nat → Int32} {d x : Nat} {M : qxM} {st : List Value} {ls : qxL} {z : Int32} : Rs L xs (d) 150 16 ls (.int z :: st) M x = if z = 0 then Rs L xs (d) 150 30 ls st M x else Rs L xs (d) 150 19 ls st M x := Rs_ite c150_16 rfl
theorem c150_19 : qx_code 150 19 = some (19, .new 70, 22, 1, 15, 6930683) := by decide +kernel
theorem s150_19 {L : Nat} {xs : Nat → Int32} {d x : Nat} {M : qxM} {ls : qxL} : Rs L xs (d) 150 19 ls [] M x = some (.inr (qx_ex 1), M, x + 1) := Rs_thr rfl c150_19 rfl
theorem c150_22 : qx_code 150 22 = some (22, .dup, 23, 0, 0, 0) := by decide +kernel
theorem s150_22r {L : Nat} {xs : Nat → Int32} {d x : Nat} {M : qxM} {st : List Value} {ls : qxL} {z : Nat} : Rs L xs (d) 150 22 ls (.ref z :: st) M x = Rs L xs (d) 150 23 ls (.ref z :: .ref z :: st) M x := Rs_next c150_22 rfl
theorem s150_22i {L : Nat} {xs : Nat → Int32} {d x : Nat} {M : qxM} {st : List Value} {ls : qxL} {z : Int32} : Rs L xs (d) 150 22 ls (.int z :: st) M x = Rs L xs (d) 150 23 ls (.int z :: .int z :: st) M x := Rs_next c150_22 rfl
theorem c150_23 : qx_code 150 23 = some (23, .ldc_w 375, 26, 15, 1, 0) := by decide +kernel
theorem c150_26 : qx_code 150 26 = some (26, .invokespecial 74, 29, 9999, 2, 693) := by decide +kernel
theorem c150_29 : qx_code 150 29 = some (29, .athrow, 30, 0, 0, 0) := by decide +kernel
theorem c150_30 : qx_code 150 30 = some (30, .aload_n 0, 31, 0, 0, 0) := by decide +kernel
theorem s150_30 {L : Nat} {xs : Nat → Int32} {d x : Nat} {M : qxM} {st : List Value} {a1 a2 : Option Value} {z : Nat} : Rs L xs (d) 150 30 [some (.ref z), a1, a2] st M x = Rs L xs (d) 150 31 [some (.ref z), a1, a2] (.ref z :: st) M x := Rs_next c150_30 rfl
theorem c150_31 : qx_code 150 31 = some (31, .invokevirtual 355, 34, 166, 1, 1405) := by decide +kernel
theorem s150_31 {L : Nat} {xs : Nat → Int32} {d x : Nat} {M : qxM} {st : List Value} {ls : qxL} {t : Nat} (hk : qx_kd t = 17) (hs : st.length ≤ 4) : Rs L xs (d + 1) 150 31 ls (.ref t :: st) M x = (Rs L xs d 166 0 [some (.ref t)] [] M 0).bind (qx_kn L xs (d + 1) 150 31 34 166 ls st x) := by
  have h1 : qx_act L xs (qx_rt 150) (31, .invokevirtual 355, 34, 166, 1, 1405) ls (.ref t :: st) M = if 1 ≤ (.ref t :: st).length ∧ st.length ≤ 4 then some (.inr (.inr (.inr (166, [.ref t], st)))) else none := rfl
  rw [if_pos ⟨by simp [List.length_cons]; try omega, hs⟩] at h1
  have h2 := qx_kd_obj (k := 7) (by decide) hk
  exact Rs_call c150_31 h1 (by rw [show qx_args 166 [.ref t] = decide (qx_sh t = some (.inl 7)) from rfl]; exact decide_eq_true h2)
theorem c150_34 : qx_code 150 34 = some (34, .aload_n 0, 35, 0, 0, 0) := by decide +kernel
theorem s150_34 {L : Nat} {xs : Nat → Int32} {d x : Nat} {M : qxM} {st : List Value} {a1 a2 : Option Value} {z : Nat} : Rs L xs (d) 150 34 [some (.ref z), a1, a2] st M x = Rs L xs (d) 150 35 [some (.ref z), a1, a2] (.ref z :: st) M x := Rs_next c150_34 rfl
theorem c150_35 : qx_code 150 35 = some (35, .getfield 33, 38, 7, 3, 384) := by decide +kernel
theorem s150_35 {L : Nat} {xs : Nat → Int32} {d x : Nat} {M : qxM} {st : List Value} {ls : qxL} {t : Nat} (hk : qx_kd t = 17) : Rs L xs (d) 150 35 ls (.ref t :: st) M x = Rs L xs (d) 150 38 ls (.ref (t + 90) :: st) M x := Rs_when (qx_kd_obj (k := 7) (by decide) hk) c150_35 rfl
theorem c150_38 : qx_code 150 38 = some (38, .getfield 180, 41, 4, 1, 358) := by decide +kernel
theorem s150_38 {L : Nat} {xs : Nat → Int32} {d x : Nat} {M : qxM} {st : List Value} {ls : qxL} {t : Nat} (hk : qx_kd t = 14) : Rs L xs (d) 150 38 ls (.ref t :: st) M x = Rs L xs (d) 150 41 ls (.ref (t + 4) :: st) M x := Rs_when (qx_kd_obj (k := 4) (by decide) hk) c150_38 rfl
theorem c150_41 : qx_code 150 41 = some (41, .invokevirtual 367, 44, 54, 1, 1458) := by decide +kernel
theorem s150_41 {L : Nat} {xs : Nat → Int32} {d x : Nat} {M : qxM} {st : List Value} {ls : qxL} {t : Nat} (hk : qx_kd t = 13) (hs : st.length ≤ 4) : Rs L xs (d + 1) 150 41 ls (.ref t :: st) M x = (Rs L xs d 54 0 [some (.ref t)] [] M 0).bind (qx_kn L xs (d + 1) 150 41 44 54 ls st x) := by
  have h1 : qx_act L xs (qx_rt 150) (41, .invokevirtual 367, 44, 54, 1, 1458) ls (.ref t :: st) M = if 1 ≤ (.ref t :: st).length ∧ st.length ≤ 4 then some (.inr (.inr (.inr (54, [.ref t], st)))) else none := rfl
  rw [if_pos ⟨by simp [List.length_cons]; try omega, hs⟩] at h1
  have h2 := qx_kd_obj (k := 3) (by decide) hk
  exact Rs_call c150_41 h1 (by rw [show qx_args 54 [.ref t] = decide (qx_sh t = some (.inl 3)) from rfl]; exact decide_eq_true h2)
theorem c150_44 : qx_code 150 44 = some (44, .aload_n 0, 45, 0, 0, 0) := by decide +kernel
theorem s150_44 {L : Nat} {xs : Nat → Int32} {d x : Nat} {M : qxM} {st : List Value} {a1 a2 : Option Value} {z : Nat} : Rs L xs (d) 150 44 [some (.ref z), a1, a2] st M x = Rs L xs (d) 150 45 [some (.ref z), a1, a2] (.ref z :: st) M x := Rs_next c150_44 rfl
theorem c150_45 : qx_code 150 45 = some (45, .getfield 33, 48, 7, 3, 384) := by decide +kernel
theorem s150_45 {L : Nat} {xs : Nat → Int32} {d x : Nat} {M : qxM} {st : List Value} {ls : qxL} {t : Nat} (hk : qx_kd t = 17) : Rs L xs (d) 150 45 ls (.ref t :: st) M x = Rs L xs (d) 150 48 ls (.ref (t + 90) :: st) M x := Rs_when (qx_kd_obj (k := 7) (by decide) hk) c150_45 rfl
theorem c150_48 : qx_code 150 48 = some (48, .getfield 93, 51, 4, 0, 356) := by decide +kernel
theorem s150_48 {L : Nat} {xs : Nat → Int32} {d x : Nat} {M : qxM} {st : List Value} {ls : qxL} {t : Nat} (hk : qx_kd t = 14) : Rs L xs (d) 150 48 ls (.ref t :: st) M x = Rs L xs (d) 150 51 ls (.ref (t + 1) :: st) M x := Rs_when (qx_kd_obj (k := 4) (by decide) hk) c150_48 rfl
theorem c150_51 : qx_code 150 51 = some (51, .iload_n 1, 52, 0, 0, 0) := by decide +kernel
theorem s150_51 {L : Nat} {xs : Nat → Int32} {d x : Nat} {M : qxM} {st : List Value} {a0 a2 : Option Value} {z : Int32} : Rs L xs (d) 150 51 [a0, some (.int z), a2] st M x = Rs L xs (d) 150 52 [a0, some (.int z), a2] (.int z :: st) M x := Rs_next c150_51 rfl
theorem c150_52 : qx_code 150 52 = some (52, .invokevirtual 160, 55, 46, 2, 791) := by decide +kernel
theorem s150_52 {L : Nat} {xs : Nat → Int32} {d x : Nat} {M : qxM} {st : List Value} {ls : qxL} {t : Nat} {z0 : Int32} (hk : qx_kd t = 12) (hs : st.length ≤ 4) : Rs L xs (d + 1) 150 52 ls (.int z0 :: .ref t :: st) M x = (Rs L xs d 46 0 [some (.ref t), some (.int z0)] [] M 0).bind (qx_kn L xs (d + 1) 150 52 55 46 ls st x) := by
  have h1 : qx_act L xs (qx_rt 150) (52, .invokevirtual 160, 55, 46, 2, 791) ls (.int z0 :: .ref t :: st) M = if 2 ≤ (.int z0 :: .ref t :: st).length ∧ st.length ≤ 4 then some (.inr (.inr (.inr (46, [.ref t, .int z0], st)))) else none := rfl
  rw [if_pos ⟨by simp [List.length_cons]; try omega, hs⟩] at h1
  have h2 := qx_kd_obj (k := 2) (by decide) hk
  exact Rs_call c150_52 h1 (by rw [show qx_args 46 [.ref t, .int z0] = decide (qx_sh t = some (.inl 2)) from rfl]; exact decide_eq_true h2)
theorem c150_55 : qx_code 150 55 = some (55, .istore_n 2, 56, 0, 0, 0) := by decide +kernel
theorem s150_55i {L : Nat} {xs : Nat → Int32} {d x : Nat} {M : qxM} {st : List Value} {a0 a2 : Option Value} {z : Int32} {y : Int32} : Rs L xs (d) 150 55 [a0, some (.int y), a2] (.int z :: st) M x = Rs L xs (d) 150 56 [a0, some (.int y), some (.int z)] st M x := Rs_next c150_55 rfl
theorem s150_55r {L : Nat} {xs : Nat → Int32} {d x : Nat} {M : qxM} {st : List Value} {a0 a2 : Option Value} {z : Int32} {y : Nat} : Rs L xs (d) 150 55 [a0, some (.ref y), a2] (.int z :: st) M x = Rs L xs (d) 150 56 [a0, some (.ref y), some (.int z)] st M x := Rs_next c150_55 rfl
theorem s150_55n {L : Nat} {xs : Nat → Int32} {d x : Nat} {M : qxM} {st : List Value} {a0 a2 : Option Value} {z : Int32} : Rs L xs (d) 150 55 [a0, none, a2] (.int z :: st) M x = Rs L xs (d) 150 56 [a0, none, some (.int z)] st M x := Rs_next c150_55 rfl
theorem c150_56 : qx_code 150 56 = some (56, .aload_n 0, 57, 0, 0, 0) := by decide +kernel
theorem s150_56 {L : Nat} {xs : Nat → Int32} {d x : Nat} {M : qxM} {st : List Value} {a1 a2 : Option Value} {z : Nat} : Rs L xs (d) 150 56 [some (.ref z), a1, a2] st M x = Rs L xs (d) 150 57 [some (.ref z), a1, a2] (.ref z :: st) M x := Rs_next c150_56 rfl
theorem c150_57 : qx_code 150 57 = some (57, .getfield 33, 60, 7, 3, 384) := by decide +kernel
theorem s150_57 {L : Nat} {xs : Nat → Int32} {d x : Nat} {M : qxM} {st : List Value} {ls : qxL} {t : Nat} (hk : qx_kd t = 17) : Rs L xs (d) 150 57 ls (.ref t :: st) M x = Rs L xs (d) 150 60 ls (.ref (t + 90) :: st) M x := Rs_when (qx_kd_obj (k := 7) (by decide) hk) c150_57 rfl
theorem c150_60 : qx_code 150 60 = some (60, .getfield 93, 63, 4, 0, 356) := by decide +kernel
theorem s150_60 {L : Nat} {xs : Nat → Int32} {d x : Nat} {M : qxM} {st : List Value} {ls : qxL} {t : Nat} (hk : qx_kd t = 14) : Rs L xs (d) 150 60 ls (.ref t :: st) M x = Rs L xs (d) 150 63 ls (.ref (t + 1) :: st) M x := Rs_when (qx_kd_obj (k := 4) (by decide) hk) c150_60 rfl
theorem c150_63 : qx_code 150 63 = some (63, .iload_n 1, 64, 0, 0, 0) := by decide +kernel
theorem s150_63 {L : Nat} {xs : Nat → Int32} {d x : Nat} {M : qxM} {st : List Value} {a0 a2 : Option Value} {z : Int32} : Rs L xs (d) 150 63 [a0, some (.int z), a2] st M x = Rs L xs (d) 150 64 [a0, some (.int z), a2] (.int z :: st) M x := Rs_next c150_63 rfl
theorem c150_64 : qx_code 150 64 = some (64, .invokevirtual 377, 67, 50, 2, 1476) := by decide +kernel
theorem s150_64 {L : Nat} {xs : Nat → Int32} {d x : Nat} {M : qxM} {st : List Value} {ls : qxL} {t : Nat} {z0 : Int32} (hk : qx_kd t = 12) (hs : st.length ≤ 4) : Rs L xs (d + 1) 150 64 ls (.int z0 :: .ref t :: st) M x = (Rs L xs d 50 0 [some (.ref t), some (.int z0)] [] M 0).bind (qx_kn L xs (d + 1) 150 64 67 50 ls st x) := by
  have h1 : qx_act L xs (qx_rt 150) (64, .invokevirtual 377, 67, 50, 2, 1476) ls (.int z0 :: .ref t :: st) M = if 2 ≤ (.int z0 :: .ref t :: st).length ∧ st.length ≤ 4 then some (.inr (.inr (.inr (50, [.ref t, .int z0], st)))) else none := rfl
  rw [if_pos ⟨by simp [List.length_cons]; try omega, hs⟩] at h1
  have h2 := qx_kd_obj (k := 2) (by decide) hk
  exact Rs_call c150_64 h1 (by rw [show qx_args 50 [.ref t, .int z0] = decide (qx_sh t = some (.inl 2)) from rfl]; exact decide_eq_true h2)
theorem c150_67 : qx_code 150 67 = some (67, .aload_n 0, 68, 0, 0, 0) := by decide +kernel
theorem s150_67 {L : Nat} {xs : Nat → Int32} {d x : Nat} {M : qxM} {st : List Value} {a1 a2 : Option Value} {z : Nat} : Rs L xs (d) 150 67 [some (.ref z), a1, a2] st M x = Rs L xs (d) 150 68 [some (.ref z), a1, a2] (.ref z :: st) M x := Rs_next c150_67 rfl
theorem c150_68 : qx_code 150 68 = some (68, .getfield 33, 71, 7, 3, 384) := by decide +kernel
theorem s150_68 {L : Nat} {xs : Nat → Int32} {d x : Nat} {M : qxM} {st : List Value} {ls : qxL} {t : Nat} (hk : qx_kd t = 17) : Rs L xs (d) 150 68 ls (.ref t :: st) M x = Rs L xs (d) 150 71 ls (.ref (t + 90) :: st) M x := Rs_when (qx_kd_obj (k := 7) (by decide) hk) c150_68 rfl
theorem c150_71 : qx_code 150 71 = some (71, .dup, 72, 0, 0, 0) := by decide +kernel
theorem s150_71r {L : Nat} {xs : Nat → Int32} {d x : Nat} {M : qxM} {st : List Value} {ls : qxL} {z : Nat} : Rs L xs (d) 150 71 ls (.ref z :: st) M x = Rs L xs (d) 150 72 ls (.ref z :: .ref z :: st) M x := Rs_next c150_71 rfl
theorem s150_71i {L : Nat} {xs : Nat → Int32} {d x : Nat} {M : qxM} {st : List Value} {ls : qxL} {z : Int32} : Rs L xs (d) 150 71 ls (.int z :: st) M x = Rs L xs (d) 150 72 ls (.int z :: .int z :: st) M x := Rs_next c150_71 rfl
theorem c150_72 : qx_code 150 72 = some (72, .getfield 145, 75, 4, 5, 366) := by decide +kernel
theorem s150_72 {L : Nat} {xs : Nat → Int32} {d x : Nat} {M : qxM} {st : List Value} {ls : qxL} {t : Nat} (hk : qx_kd t = 14) : Rs L xs (d) 150 72 ls (.ref t :: st) M x = Rs L xs (d) 150 75 ls (.int (M.1 t 5) :: st) M x := Rs_when (qx_kd_obj (k := 4) (by decide) hk) c150_72 rfl
theorem c150_75 : qx_code 150 75 = some (75, .iconst 1, 76, 0, 0, 0) := by decide +kernel
theorem s150_75 {L : Nat} {xs : Nat → Int32} {d x : Nat} {M : qxM} {st : List Value} {ls : qxL} : Rs L xs (d) 150 75 ls st M x = Rs L xs (d) 150 76 ls (.int (nI 1) :: st) M x := Rs_next c150_75 rfl
theorem c150_76 : qx_code 150 76 = some (76, .iadd, 77, 0, 0, 0) := by decide +kernel
theorem s150_76 {L : Nat} {xs : Nat → Int32} {d x : Nat} {M : qxM} {st : List Value} {ls : qxL} {z y : Int32} : Rs L xs (d) 150 76 ls (.int y :: .int z :: st) M x = Rs L xs (d) 150 77 ls (.int (z + y) :: st) M x := Rs_next c150_76 rfl
theorem c150_77 : qx_code 150 77 = some (77, .putfield 145, 80, 4, 5, 366) := by decide +kernel
theorem s150_77 {L : Nat} {xs : Nat → Int32} {d x : Nat} {M : qxM} {st : List Value} {ls : qxL} {t : Nat} {z : Int32} (hk : qx_kd t = 14) : Rs L xs (d) 150 77 ls (.int z :: .ref t :: st) M x = Rs L xs (d) 150 80 ls st (qx_up M t 5 z) x := Rs_when (cnd := qx_sh t = some (.inl 4) ∧ qx_fo 4 5 = none ∧ (qx_bf 4 5 = true → z = 0 ∨ z = 1)) ⟨qx_kd_obj (k := 4) (by decide) hk, rfl, fun h => nomatch h⟩ c150_77 rfl
theorem c150_80 : qx_code 150 80 = some (80, .iload_n 2, 81, 0, 0, 0) := by decide +kernel
theorem s150_80 {L : Nat} {xs : Nat → Int32} {d x : Nat} {M : qxM} {st : List Value} {a0 a1 : Option Value} {z : Int32} : Rs L xs (d) 150 80 [a0, a1, some (.int z)] st M x = Rs L xs (d) 150 81 [a0, a1, some (.int z)] (.int z :: st) M x := Rs_next c150_80 rfl
theorem c150_81 : qx_code 150 81 = some (81, .ireturn, 82, 0, 0, 0) := by decide +kernel
theorem s150_81 {L : Nat} {xs : Nat → Int32} {d x : Nat} {M : qxM} {ls : qxL} {z : Int32} : Rs L xs (d) 150 81 ls [.int z] M x = some (.inl (some (.int z)), M, x) := Rs_ret c150_81 rfl
theorem c151_0 : qx_code 151 0 = some (0, .aload_n 0, 1, 0, 0, 0) := by decide +kernel
theorem s151_0 {L : Nat} {xs : Nat → Int32} {d x : Nat} {M : qxM} {st : List Value} {a1 : Option Value} {z : Nat} : Rs L xs (d) 151 0 [some (.ref z), a1] st M x = Rs L xs (d) 151 1 [some (.ref z), a1] (.ref z :: st) M x := Rs_next c151_0 rfl
theorem c151_1 : qx_code 151 1 = some (1, .iload_n 1, 2, 0, 0, 0) := by decide +kernel
theorem s151_1 {L : Nat} {xs : Nat → Int32} {d x : Nat} {M : qxM} {st : List Value} {a0 : Option Value} {z : Int32} : Rs L xs (d) 151 1 [a0, some (.int z)] st M x = Rs L xs (d) 151 2 [a0, some (.int z)] (.int z :: st) M x := Rs_next c151_1 rfl
theorem c151_2 : qx_code 151 2 = some (2, .invokevirtual 148, 5, 160, 2, 780) := by decide +kernel
theorem s151_2 {L : Nat} {xs : Nat → Int32} {d x : Nat} {M : qxM} {st : List Value} {ls : qxL} {t : Nat} {z0 : Int32} (hk : qx_kd t = 17) (hs : st.length ≤ 4) : Rs L xs (d + 1) 151 2 ls (.int z0 :: .ref t :: st) M x = (Rs L xs d 160 0 [some (.ref t), some (.int z0)] [] M 0).bind (qx_kn L xs (d + 1) 151 2 5 160 ls st x) := by
  have h1 : qx_act L xs (qx_rt 151) (2, .invokevirtual 148, 5, 160, 2, 780) ls (.int z0 :: .ref t :: st) M = if 2 ≤ (.int z0 :: .ref t :: st).length ∧ st.length ≤ 4 then some (.inr (.inr (.inr (160, [.ref t, .int z0], st)))) else none := rfl
  rw [if_pos ⟨by simp [List.length_cons]; try omega, hs⟩] at h1
  have h2 := qx_kd_obj (k := 7) (by decide) hk
  exact Rs_call c151_2 h1 (by rw [show qx_args 160 [.ref t, .int z0] = decide (qx_sh t = some (.inl 7)) from rfl]; exact decide_eq_true h2)
theorem c151_5 : qx_code 151 5 = some (5, .aload_n 0, 6, 0, 0, 0) := by decide +kernel
theorem s151_5 {L : Nat} {xs : Nat → Int32} {d x : Nat} {M : qxM} {st : List Value} {a1 : Option Value} {z : Nat} : Rs L xs (d) 151 5 [some (.ref z), a1] st M x = Rs L xs (d) 151 6 [some (.ref z), a1] (.ref z :: st) M x := Rs_next c151_5 rfl
theorem c151_6 : qx_code 151 6 = some (6, .getfield 33, 9, 7, 3, 384) := by decide +kernel
theorem s151_6 {L : Nat} {xs : Nat → Int32} {d x : Nat} {M : qxM} {st : List Value} {ls : qxL} {t : Nat} (hk : qx_kd t = 17) : Rs L xs (d) 151 6 ls (.ref t :: st) M x = Rs L xs (d) 151 9 ls (.ref (t + 90) :: st) M x := Rs_when (qx_kd_obj (k := 7) (by decide) hk) c151_6 rfl
theorem c151_9 : qx_code 151 9 = some (9, .getfield 180, 12, 4, 1, 358) := by decide +kernel
theorem s151_9 {L : Nat} {xs : Nat → Int32} {d x : Nat} {M : qxM} {st : List Value} {ls : qxL} {t : Nat} (hk : qx_kd t = 14) : Rs L xs (d) 151 9 ls (.ref t :: st) M x = Rs L xs (d) 151 12 ls (.ref (t + 4) :: st) M x := Rs_when (qx_kd_obj (k := 4) (by decide) hk) c151_9 rfl
theorem c151_12 : qx_code 151 12 = some (12, .iload_n 1, 13, 0, 0, 0) := by decide +kernel
theorem s151_12 {L : Nat} {xs : Nat → Int32} {d x : Nat} {M : qxM} {st : List Value} {a0 : Option Value} {z : Int32} : Rs L xs (d) 151 12 [a0, some (.int z)] st M x = Rs L xs (d) 151 13 [a0, some (.int z)] (.int z :: st) M x := Rs_next c151_12 rfl
theorem c151_13 : qx_code 151 13 = some (13, .invokevirtual 244, 16, 62, 2, 941) := by decide +kernel
theorem s151_13 {L : Nat} {xs : Nat → Int32} {d x : Nat} {M : qxM} {st : List Value} {ls : qxL} {t : Nat} {z0 : Int32} (hk : qx_kd t = 13) (hs : st.length ≤ 4) : Rs L xs (d + 1) 151 13 ls (.int z0 :: .ref t :: st) M x = (Rs L xs d 62 0 [some (.ref t), some (.int z0)] [] M 0).bind (qx_kn L xs (d + 1) 151 13 16 62 ls st x) := by
  have h1 : qx_act L xs (qx_rt 151) (13, .invokevirtual 244, 16, 62, 2, 941) ls (.int z0 :: .ref t :: st) M = if 2 ≤ (.int z0 :: .ref t :: st).length ∧ st.length ≤ 4 then some (.inr (.inr (.inr (62, [.ref t, .int z0], st)))) else none := rfl
  rw [if_pos ⟨by simp [List.length_cons]; try omega, hs⟩] at h1
  have h2 := qx_kd_obj (k := 3) (by decide) hk
  exact Rs_call c151_13 h1 (by rw [show qx_args 62 [.ref t, .int z0] = decide (qx_sh t = some (.inl 3)) from rfl]; exact decide_eq_true h2)
theorem c151_16 : qx_code 151 16 = some (16, .ifCond .ne 14, 19, 30, 0, 0) := by decide +kernel
theorem s151_16 {L : Nat} {xs : Nat → Int32} {d x : Nat} {M : qxM} {st : List Value} {ls : qxL} {z : Int32} : Rs L xs (d) 151 16 ls (.int z :: st) M x = if z = 0 then Rs L xs (d) 151 19 ls st M x else Rs L xs (d) 151 30 ls st M x := Rs_ite c151_16 rfl
theorem c151_19 : qx_code 151 19 = some (19, .new 70, 22, 1, 16, 6930683) := by decide +kernel
theorem s151_19 {L : Nat} {xs : Nat → Int32} {d x : Nat} {M : qxM} {ls : qxL} : Rs L xs (d) 151 19 ls [] M x = some (.inr (qx_ex 1), M, x + 1) := Rs_thr rfl c151_19 rfl
theorem c151_22 : qx_code 151 22 = some (22, .dup, 23, 0, 0, 0) := by decide +kernel
theorem s151_22r {L : Nat} {xs : Nat → Int32} {d x : Nat} {M : qxM} {st : List Value} {ls : qxL} {z : Nat} : Rs L xs (d) 151 22 ls (.ref z :: st) M x = Rs L xs (d) 151 23 ls (.ref z :: .ref z :: st) M x := Rs_next c151_22 rfl
theorem s151_22i {L : Nat} {xs : Nat → Int32} {d x : Nat} {M : qxM} {st : List Value} {ls : qxL} {z : Int32} : Rs L xs (d) 151 22 ls (.int z :: st) M x = Rs L xs (d) 151 23 ls (.int z :: .int z :: st) M x := Rs_next c151_22 rfl
theorem c151_23 : qx_code 151 23 = some (23, .ldc_w 380, 26, 16, 1, 0) := by decide +kernel
theorem c151_26 : qx_code 151 26 = some (26, .invokespecial 74, 29, 9999, 2, 693) := by decide +kernel
theorem c151_29 : qx_code 151 29 = some (29, .athrow, 30, 0, 0, 0) := by decide +kernel
theorem c151_30 : qx_code 151 30 = some (30, .aload_n 0, 31, 0, 0, 0) := by decide +kernel
theorem s151_30 {L : Nat} {xs : Nat → Int32} {d x : Nat} {M : qxM} {st : List Value} {a1 : Option Value} {z : Nat} : Rs L xs (d) 151 30 [some (.ref z), a1] st M x = Rs L xs (d) 151 31 [some (.ref z), a1] (.ref z :: st) M x := Rs_next c151_30 rfl
theorem c151_31 : qx_code 151 31 = some (31, .invokevirtual 355, 34, 166, 1, 1405) := by decide +kernel
theorem s151_31 {L : Nat} {xs : Nat → Int32} {d x : Nat} {M : qxM} {st : List Value} {ls : qxL} {t : Nat} (hk : qx_kd t = 17) (hs : st.length ≤ 4) : Rs L xs (d + 1) 151 31 ls (.ref t :: st) M x = (Rs L xs d 166 0 [some (.ref t)] [] M 0).bind (qx_kn L xs (d + 1) 151 31 34 166 ls st x) := by
  have h1 : qx_act L xs (qx_rt 151) (31, .invokevirtual 355, 34, 166, 1, 1405) ls (.ref t :: st) M = if 1 ≤ (.ref t :: st).length ∧ st.length ≤ 4 then some (.inr (.inr (.inr (166, [.ref t], st)))) else none := rfl
  rw [if_pos ⟨by simp [List.length_cons]; try omega, hs⟩] at h1
  have h2 := qx_kd_obj (k := 7) (by decide) hk
  exact Rs_call c151_31 h1 (by rw [show qx_args 166 [.ref t] = decide (qx_sh t = some (.inl 7)) from rfl]; exact decide_eq_true h2)
theorem c151_34 : qx_code 151 34 = some (34, .aload_n 0, 35, 0, 0, 0) := by decide +kernel
theorem s151_34 {L : Nat} {xs : Nat → Int32} {d x : Nat} {M : qxM} {st : List Value} {a1 : Option Value} {z : Nat} : Rs L xs (d) 151 34 [some (.ref z), a1] st M x = Rs L xs (d) 151 35 [some (.ref z), a1] (.ref z :: st) M x := Rs_next c151_34 rfl
theorem c151_35 : qx_code 151 35 = some (35, .getfield 33, 38, 7, 3, 384) := by decide +kernel
theorem s151_35 {L : Nat} {xs : Nat → Int32} {d x : Nat} {M : qxM} {st : List Value} {ls : qxL} {t : Nat} (hk : qx_kd t = 17) : Rs L xs (d) 151 35 ls (.ref t :: st) M x = Rs L xs (d) 151 38 ls (.ref (t + 90) :: st) M x := Rs_when (qx_kd_obj (k := 7) (by decide) hk) c151_35 rfl
theorem c151_38 : qx_code 151 38 = some (38, .getfield 180, 41, 4, 1, 358) := by decide +kernel
theorem s151_38 {L : Nat} {xs : Nat → Int32} {d x : Nat} {M : qxM} {st : List Value} {ls : qxL} {t : Nat} (hk : qx_kd t = 14) : Rs L xs (d) 151 38 ls (.ref t :: st) M x = Rs L xs (d) 151 41 ls (.ref (t + 4) :: st) M x := Rs_when (qx_kd_obj (k := 4) (by decide) hk) c151_38 rfl
theorem c151_41 : qx_code 151 41 = some (41, .invokevirtual 367, 44, 54, 1, 1458) := by decide +kernel
theorem s151_41 {L : Nat} {xs : Nat → Int32} {d x : Nat} {M : qxM} {st : List Value} {ls : qxL} {t : Nat} (hk : qx_kd t = 13) (hs : st.length ≤ 4) : Rs L xs (d + 1) 151 41 ls (.ref t :: st) M x = (Rs L xs d 54 0 [some (.ref t)] [] M 0).bind (qx_kn L xs (d + 1) 151 41 44 54 ls st x) := by
  have h1 : qx_act L xs (qx_rt 151) (41, .invokevirtual 367, 44, 54, 1, 1458) ls (.ref t :: st) M = if 1 ≤ (.ref t :: st).length ∧ st.length ≤ 4 then some (.inr (.inr (.inr (54, [.ref t], st)))) else none := rfl
  rw [if_pos ⟨by simp [List.length_cons]; try omega, hs⟩] at h1
  have h2 := qx_kd_obj (k := 3) (by decide) hk
  exact Rs_call c151_41 h1 (by rw [show qx_args 54 [.ref t] = decide (qx_sh t = some (.inl 3)) from rfl]; exact decide_eq_true h2)
theorem c151_44 : qx_code 151 44 = some (44, .aload_n 0, 45, 0, 0, 0) := by decide +kernel
theorem s151_44 {L : Nat} {xs : Nat → Int32} {d x : Nat} {M : qxM} {st : List Value} {a1 : Option Value} {z : Nat} : Rs L xs (d) 151 44 [some (.ref z), a1] st M x = Rs L xs (d) 151 45 [some (.ref z), a1] (.ref z :: st) M x := Rs_next c151_44 rfl
theorem c151_45 : qx_code 151 45 = some (45, .getfield 33, 48, 7, 3, 384) := by decide +kernel
theorem s151_45 {L : Nat} {xs : Nat → Int32} {d x : Nat} {M : qxM} {st : List Value} {ls : qxL} {t : Nat} (hk : qx_kd t = 17) : Rs L xs (d) 151 45 ls (.ref t :: st) M x = Rs L xs (d) 151 48 ls (.ref (t + 90) :: st) M x := Rs_when (qx_kd_obj (k := 7) (by decide) hk) c151_45 rfl
theorem c151_48 : qx_code 151 48 = some (48, .getfield 93, 51, 4, 0, 356) := by decide +kernel
theorem s151_48 {L : Nat} {xs : Nat → Int32} {d x : Nat} {M : qxM} {st : List Value} {ls : qxL} {t : Nat} (hk : qx_kd t = 14) : Rs L xs (d) 151 48 ls (.ref t :: st) M x = Rs L xs (d) 151 51 ls (.ref (t + 1) :: st) M x := Rs_when (qx_kd_obj (k := 4) (by decide) hk) c151_48 rfl
theorem c151_51 : qx_code 151 51 = some (51, .aload_n 0, 52, 0, 0, 0) := by decide +kernel
theorem s151_51 {L : Nat} {xs : Nat → Int32} {d x : Nat} {M : qxM} {st : List Value} {a1 : Option Value} {z : Nat} : Rs L xs (d) 151 51 [some (.ref z), a1] st M x = Rs L xs (d) 151 52 [some (.ref z), a1] (.ref z :: st) M x := Rs_next c151_51 rfl
theorem c151_52 : qx_code 151 52 = some (52, .getfield 33, 55, 7, 3, 384) := by decide +kernel
theorem s151_52 {L : Nat} {xs : Nat → Int32} {d x : Nat} {M : qxM} {st : List Value} {ls : qxL} {t : Nat} (hk : qx_kd t = 17) : Rs L xs (d) 151 52 ls (.ref t :: st) M x = Rs L xs (d) 151 55 ls (.ref (t + 90) :: st) M x := Rs_when (qx_kd_obj (k := 7) (by decide) hk) c151_52 rfl
theorem c151_55 : qx_code 151 55 = some (55, .getfield 180, 58, 4, 1, 358) := by decide +kernel
theorem s151_55 {L : Nat} {xs : Nat → Int32} {d x : Nat} {M : qxM} {st : List Value} {ls : qxL} {t : Nat} (hk : qx_kd t = 14) : Rs L xs (d) 151 55 ls (.ref t :: st) M x = Rs L xs (d) 151 58 ls (.ref (t + 4) :: st) M x := Rs_when (qx_kd_obj (k := 4) (by decide) hk) c151_55 rfl
theorem c151_58 : qx_code 151 58 = some (58, .getfield 247, 61, 3, 14, 323) := by decide +kernel
theorem s151_58 {L : Nat} {xs : Nat → Int32} {d x : Nat} {M : qxM} {st : List Value} {ls : qxL} {t : Nat} (hk : qx_kd t = 13) : Rs L xs (d) 151 58 ls (.ref t :: st) M x = Rs L xs (d) 151 61 ls (.ref (t + 6) :: st) M x := Rs_when (qx_kd_obj (k := 3) (by decide) hk) c151_58 rfl
theorem c151_61 : qx_code 151 61 = some (61, .iload_n 1, 62, 0, 0, 0) := by decide +kernel
theorem s151_61 {L : Nat} {xs : Nat → Int32} {d x : Nat} {M : qxM} {st : List Value} {a0 : Option Value} {z : Int32} : Rs L xs (d) 151 61 [a0, some (.int z)] st M x = Rs L xs (d) 151 62 [a0, some (.int z)] (.int z :: st) M x := Rs_next c151_61 rfl
theorem c151_62 : qx_code 151 62 = some (62, .invokevirtual 382, 65, 52, 3, 1485) := by decide +kernel
theorem s151_62 {L : Nat} {xs : Nat → Int32} {d x : Nat} {M : qxM} {st : List Value} {ls : qxL} {t : Nat} {z0 : Nat} {z1 : Int32} (hk : qx_kd t = 12) (hs : st.length ≤ 4) : Rs L xs (d + 1) 151 62 ls (.int z1 :: .ref z0 :: .ref t :: st) M x = (Rs L xs d 52 0 [some (.ref t), some (.ref z0), some (.int z1), none, none] [] M 0).bind (qx_kn L xs (d + 1) 151 62 65 52 ls st x) := by
  have h1 : qx_act L xs (qx_rt 151) (62, .invokevirtual 382, 65, 52, 3, 1485) ls (.int z1 :: .ref z0 :: .ref t :: st) M = if 3 ≤ (.int z1 :: .ref z0 :: .ref t :: st).length ∧ st.length ≤ 4 then some (.inr (.inr (.inr (52, [.ref t, .ref z0, .int z1], st)))) else none := rfl
  rw [if_pos ⟨by simp [List.length_cons]; try omega, hs⟩] at h1
  have h2 := qx_kd_obj (k := 2) (by decide) hk
  exact Rs_call c151_62 h1 (by rw [show qx_args 52 [.ref t, .ref z0, .int z1] = decide (qx_sh t = some (.inl 2)) from rfl]; exact decide_eq_true h2)
theorem c151_65 : qx_code 151 65 = some (65, .aload_n 0, 66, 0, 0, 0) := by decide +kernel
theorem s151_65 {L : Nat} {xs : Nat → Int32} {d x : Nat} {M : qxM} {st : List Value} {a1 : Option Value} {z : Nat} : Rs L xs (d) 151 65 [some (.ref z), a1] st M x = Rs L xs (d) 151 66 [some (.ref z), a1] (.ref z :: st) M x := Rs_next c151_65 rfl
theorem c151_66 : qx_code 151 66 = some (66, .getfield 33, 69, 7, 3, 384) := by decide +kernel
theorem s151_66 {L : Nat} {xs : Nat → Int32} {d x : Nat} {M : qxM} {st : List Value} {ls : qxL} {t : Nat} (hk : qx_kd t = 17) : Rs L xs (d) 151 66 ls (.ref t :: st) M x = Rs L xs (d) 151 69 ls (.ref (t + 90) :: st) M x := Rs_when (qx_kd_obj (k := 7) (by decide) hk) c151_66 rfl
theorem c151_69 : qx_code 151 69 = some (69, .getfield 93, 72, 4, 0, 356) := by decide +kernel
theorem s151_69 {L : Nat} {xs : Nat → Int32} {d x : Nat} {M : qxM} {st : List Value} {ls : qxL} {t : Nat} (hk : qx_kd t = 14) : Rs L xs (d) 151 69 ls (.ref t :: st) M x = Rs L xs (d) 151 72 ls (.ref (t + 1) :: st) M x := Rs_when (qx_kd_obj (k := 4) (by decide) hk) c151_69 rfl
theorem c151_72 : qx_code 151 72 = some (72, .aload_n 0, 73, 0, 0, 0) := by decide +kernel
theorem s151_72 {L : Nat} {xs : Nat → Int32} {d x : Nat} {M : qxM} {st : List Value} {a1 : Option Value} {z : Nat} : Rs L xs (d) 151 72 [some (.ref z), a1] st M x = Rs L xs (d) 151 73 [some (.ref z), a1] (.ref z :: st) M x := Rs_next c151_72 rfl
theorem c151_73 : qx_code 151 73 = some (73, .getfield 33, 76, 7, 3, 384) := by decide +kernel
theorem s151_73 {L : Nat} {xs : Nat → Int32} {d x : Nat} {M : qxM} {st : List Value} {ls : qxL} {t : Nat} (hk : qx_kd t = 17) : Rs L xs (d) 151 73 ls (.ref t :: st) M x = Rs L xs (d) 151 76 ls (.ref (t + 90) :: st) M x := Rs_when (qx_kd_obj (k := 7) (by decide) hk) c151_73 rfl
theorem c151_76 : qx_code 151 76 = some (76, .getfield 180, 79, 4, 1, 358) := by decide +kernel
theorem s151_76 {L : Nat} {xs : Nat → Int32} {d x : Nat} {M : qxM} {st : List Value} {ls : qxL} {t : Nat} (hk : qx_kd t = 14) : Rs L xs (d) 151 76 ls (.ref t :: st) M x = Rs L xs (d) 151 79 ls (.ref (t + 4) :: st) M x := Rs_when (qx_kd_obj (k := 4) (by decide) hk) c151_76 rfl
theorem c151_79 : qx_code 151 79 = some (79, .getfield 192, 82, 3, 1, 300) := by decide +kernel
theorem s151_79 {L : Nat} {xs : Nat → Int32} {d x : Nat} {M : qxM} {st : List Value} {ls : qxL} {t : Nat} (hk : qx_kd t = 13) : Rs L xs (d) 151 79 ls (.ref t :: st) M x = Rs L xs (d) 151 82 ls (.int (M.1 t 1) :: st) M x := Rs_when (qx_kd_obj (k := 3) (by decide) hk) c151_79 rfl
theorem c151_82 : qx_code 151 82 = some (82, .invokevirtual 160, 85, 46, 2, 791) := by decide +kernel
theorem s151_82 {L : Nat} {xs : Nat → Int32} {d x : Nat} {M : qxM} {st : List Value} {ls : qxL} {t : Nat} {z0 : Int32} (hk : qx_kd t = 12) (hs : st.length ≤ 4) : Rs L xs (d + 1) 151 82 ls (.int z0 :: .ref t :: st) M x = (Rs L xs d 46 0 [some (.ref t), some (.int z0)] [] M 0).bind (qx_kn L xs (d + 1) 151 82 85 46 ls st x) := by
  have h1 : qx_act L xs (qx_rt 151) (82, .invokevirtual 160, 85, 46, 2, 791) ls (.int z0 :: .ref t :: st) M = if 2 ≤ (.int z0 :: .ref t :: st).length ∧ st.length ≤ 4 then some (.inr (.inr (.inr (46, [.ref t, .int z0], st)))) else none := rfl
  rw [if_pos ⟨by simp [List.length_cons]; try omega, hs⟩] at h1
  have h2 := qx_kd_obj (k := 2) (by decide) hk
  exact Rs_call c151_82 h1 (by rw [show qx_args 46 [.ref t, .int z0] = decide (qx_sh t = some (.inl 2)) from rfl]; exact decide_eq_true h2)
theorem c151_85 : qx_code 151 85 = some (85, .ireturn, 86, 0, 0, 0) := by decide +kernel
theorem s151_85 {L : Nat} {xs : Nat → Int32} {d x : Nat} {M : qxM} {ls : qxL} {z : Int32} : Rs L xs (d) 151 85 ls [.int z] M x = some (.inl (some (.int z)), M, x) := Rs_ret c151_85 rfl
theorem c152_0 : qx_code 152 0 = some (0, .aload_n 0, 1, 0, 0, 0) := by decide +kernel
theorem s152_0 {L : Nat} {xs : Nat → Int32} {d x : Nat} {M : qxM} {st : List Value} {a1 a2 a3 : Option Value} {z : Nat} : Rs L xs (d) 152 0 [some (.ref z), a1, a2, a3] st M x = Rs L xs (d) 152 1 [some (.ref z), a1, a2, a3] (.ref z :: st) M x := Rs_next c152_0 rfl
theorem c152_1 : qx_code 152 1 = some (1, .iload_n 1, 2, 0, 0, 0) := by decide +kernel
theorem s152_1 {L : Nat} {xs : Nat → Int32} {d x : Nat} {M : qxM} {st : List Value} {a0 a2 a3 : Option Value} {z : Int32} : Rs L xs (d) 152 1 [a0, some (.int z), a2, a3] st M x = Rs L xs (d) 152 2 [a0, some (.int z), a2, a3] (.int z :: st) M x := Rs_next c152_1 rfl
theorem c152_2 : qx_code 152 2 = some (2, .iload_n 2, 3, 0, 0, 0) := by decide +kernel
theorem s152_2 {L : Nat} {xs : Nat → Int32} {d x : Nat} {M : qxM} {st : List Value} {a0 a1 a3 : Option Value} {z : Int32} : Rs L xs (d) 152 2 [a0, a1, some (.int z), a3] st M x = Rs L xs (d) 152 3 [a0, a1, some (.int z), a3] (.int z :: st) M x := Rs_next c152_2 rfl
theorem c152_3 : qx_code 152 3 = some (3, .invokevirtual 163, 6, 161, 3, 799) := by decide +kernel
theorem s152_3 {L : Nat} {xs : Nat → Int32} {d x : Nat} {M : qxM} {st : List Value} {ls : qxL} {t : Nat} {z0 : Int32} {z1 : Int32} (hk : qx_kd t = 17) (hs : st.length ≤ 4) : Rs L xs (d + 1) 152 3 ls (.int z1 :: .int z0 :: .ref t :: st) M x = (Rs L xs d 161 0 [some (.ref t), some (.int z0), some (.int z1)] [] M 0).bind (qx_kn L xs (d + 1) 152 3 6 161 ls st x) := by
  have h1 : qx_act L xs (qx_rt 152) (3, .invokevirtual 163, 6, 161, 3, 799) ls (.int z1 :: .int z0 :: .ref t :: st) M = if 3 ≤ (.int z1 :: .int z0 :: .ref t :: st).length ∧ st.length ≤ 4 then some (.inr (.inr (.inr (161, [.ref t, .int z0, .int z1], st)))) else none := rfl
  rw [if_pos ⟨by simp [List.length_cons]; try omega, hs⟩] at h1
  have h2 := qx_kd_obj (k := 7) (by decide) hk
  exact Rs_call c152_3 h1 (by rw [show qx_args 161 [.ref t, .int z0, .int z1] = decide (qx_sh t = some (.inl 7)) from rfl]; exact decide_eq_true h2)
theorem c152_6 : qx_code 152 6 = some (6, .iload_n 1, 7, 0, 0, 0) := by decide +kernel
theorem s152_6 {L : Nat} {xs : Nat → Int32} {d x : Nat} {M : qxM} {st : List Value} {a0 a2 a3 : Option Value} {z : Int32} : Rs L xs (d) 152 6 [a0, some (.int z), a2, a3] st M x = Rs L xs (d) 152 7 [a0, some (.int z), a2, a3] (.int z :: st) M x := Rs_next c152_6 rfl
theorem c152_7 : qx_code 152 7 = some (7, .iload_n 2, 8, 0, 0, 0) := by decide +kernel
theorem s152_7 {L : Nat} {xs : Nat → Int32} {d x : Nat} {M : qxM} {st : List Value} {a0 a1 a3 : Option Value} {z : Int32} : Rs L xs (d) 152 7 [a0, a1, some (.int z), a3] st M x = Rs L xs (d) 152 8 [a0, a1, some (.int z), a3] (.int z :: st) M x := Rs_next c152_7 rfl
theorem c152_8 : qx_code 152 8 = some (8, .if_icmp .ne 14, 11, 22, 0, 0) := by decide +kernel
theorem s152_8 {L : Nat} {xs : Nat → Int32} {d x : Nat} {M : qxM} {st : List Value} {ls : qxL} {z y : Int32} : Rs L xs (d) 152 8 ls (.int y :: .int z :: st) M x = if z = y then Rs L xs (d) 152 11 ls st M x else Rs L xs (d) 152 22 ls st M x := Rs_ite c152_8 rfl
theorem c152_11 : qx_code 152 11 = some (11, .new 70, 14, 1, 17, 6930683) := by decide +kernel
theorem s152_11 {L : Nat} {xs : Nat → Int32} {d x : Nat} {M : qxM} {ls : qxL} : Rs L xs (d) 152 11 ls [] M x = some (.inr (qx_ex 1), M, x + 1) := Rs_thr rfl c152_11 rfl
theorem c152_14 : qx_code 152 14 = some (14, .dup, 15, 0, 0, 0) := by decide +kernel
theorem s152_14r {L : Nat} {xs : Nat → Int32} {d x : Nat} {M : qxM} {st : List Value} {ls : qxL} {z : Nat} : Rs L xs (d) 152 14 ls (.ref z :: st) M x = Rs L xs (d) 152 15 ls (.ref z :: .ref z :: st) M x := Rs_next c152_14 rfl
theorem s152_14i {L : Nat} {xs : Nat → Int32} {d x : Nat} {M : qxM} {st : List Value} {ls : qxL} {z : Int32} : Rs L xs (d) 152 14 ls (.int z :: st) M x = Rs L xs (d) 152 15 ls (.int z :: .int z :: st) M x := Rs_next c152_14 rfl
theorem c152_15 : qx_code 152 15 = some (15, .ldc_w 386, 18, 17, 1, 0) := by decide +kernel
theorem c152_18 : qx_code 152 18 = some (18, .invokespecial 74, 21, 9999, 2, 693) := by decide +kernel
theorem c152_21 : qx_code 152 21 = some (21, .athrow, 22, 0, 0, 0) := by decide +kernel
theorem c152_22 : qx_code 152 22 = some (22, .aload_n 0, 23, 0, 0, 0) := by decide +kernel
theorem s152_22 {L : Nat} {xs : Nat → Int32} {d x : Nat} {M : qxM} {st : List Value} {a1 a2 a3 : Option Value} {z : Nat} : Rs L xs (d) 152 22 [some (.ref z), a1, a2, a3] st M x = Rs L xs (d) 152 23 [some (.ref z), a1, a2, a3] (.ref z :: st) M x := Rs_next c152_22 rfl
theorem c152_23 : qx_code 152 23 = some (23, .invokevirtual 355, 26, 166, 1, 1405) := by decide +kernel
theorem s152_23 {L : Nat} {xs : Nat → Int32} {d x : Nat} {M : qxM} {st : List Value} {ls : qxL} {t : Nat} (hk : qx_kd t = 17) (hs : st.length ≤ 4) : Rs L xs (d + 1) 152 23 ls (.ref t :: st) M x = (Rs L xs d 166 0 [some (.ref t)] [] M 0).bind (qx_kn L xs (d + 1) 152 23 26 166 ls st x) := by
  have h1 : qx_act L xs (qx_rt 152) (23, .invokevirtual 355, 26, 166, 1, 1405) ls (.ref t :: st) M = if 1 ≤ (.ref t :: st).length ∧ st.length ≤ 4 then some (.inr (.inr (.inr (166, [.ref t], st)))) else none := rfl
  rw [if_pos ⟨by simp [List.length_cons]; try omega, hs⟩] at h1
  have h2 := qx_kd_obj (k := 7) (by decide) hk
  exact Rs_call c152_23 h1 (by rw [show qx_args 166 [.ref t] = decide (qx_sh t = some (.inl 7)) from rfl]; exact decide_eq_true h2)
theorem c152_26 : qx_code 152 26 = some (26, .aload_n 0, 27, 0, 0, 0) := by decide +kernel
theorem s152_26 {L : Nat} {xs : Nat → Int32} {d x : Nat} {M : qxM} {st : List Value} {a1 a2 a3 : Option Value} {z : Nat} : Rs L xs (d) 152 26 [some (.ref z), a1, a2, a3] st M x = Rs L xs (d) 152 27 [some (.ref z), a1, a2, a3] (.ref z :: st) M x := Rs_next c152_26 rfl
theorem c152_27 : qx_code 152 27 = some (27, .getfield 33, 30, 7, 3, 384) := by decide +kernel
theorem s152_27 {L : Nat} {xs : Nat → Int32} {d x : Nat} {M : qxM} {st : List Value} {ls : qxL} {t : Nat} (hk : qx_kd t = 17) : Rs L xs (d) 152 27 ls (.ref t :: st) M x = Rs L xs (d) 152 30 ls (.ref (t + 90) :: st) M x := Rs_when (qx_kd_obj (k := 7) (by decide) hk) c152_27 rfl
theorem c152_30 : qx_code 152 30 = some (30, .getfield 180, 33, 4, 1, 358) := by decide +kernel
theorem s152_30 {L : Nat} {xs : Nat → Int32} {d x : Nat} {M : qxM} {st : List Value} {ls : qxL} {t : Nat} (hk : qx_kd t = 14) : Rs L xs (d) 152 30 ls (.ref t :: st) M x = Rs L xs (d) 152 33 ls (.ref (t + 4) :: st) M x := Rs_when (qx_kd_obj (k := 4) (by decide) hk) c152_30 rfl
theorem c152_33 : qx_code 152 33 = some (33, .invokevirtual 367, 36, 54, 1, 1458) := by decide +kernel
theorem s152_33 {L : Nat} {xs : Nat → Int32} {d x : Nat} {M : qxM} {st : List Value} {ls : qxL} {t : Nat} (hk : qx_kd t = 13) (hs : st.length ≤ 4) : Rs L xs (d + 1) 152 33 ls (.ref t :: st) M x = (Rs L xs d 54 0 [some (.ref t)] [] M 0).bind (qx_kn L xs (d + 1) 152 33 36 54 ls st x) := by
  have h1 : qx_act L xs (qx_rt 152) (33, .invokevirtual 367, 36, 54, 1, 1458) ls (.ref t :: st) M = if 1 ≤ (.ref t :: st).length ∧ st.length ≤ 4 then some (.inr (.inr (.inr (54, [.ref t], st)))) else none := rfl
  rw [if_pos ⟨by simp [List.length_cons]; try omega, hs⟩] at h1
  have h2 := qx_kd_obj (k := 3) (by decide) hk
  exact Rs_call c152_33 h1 (by rw [show qx_args 54 [.ref t] = decide (qx_sh t = some (.inl 3)) from rfl]; exact decide_eq_true h2)
theorem c152_36 : qx_code 152 36 = some (36, .aload_n 0, 37, 0, 0, 0) := by decide +kernel
theorem s152_36 {L : Nat} {xs : Nat → Int32} {d x : Nat} {M : qxM} {st : List Value} {a1 a2 a3 : Option Value} {z : Nat} : Rs L xs (d) 152 36 [some (.ref z), a1, a2, a3] st M x = Rs L xs (d) 152 37 [some (.ref z), a1, a2, a3] (.ref z :: st) M x := Rs_next c152_36 rfl
theorem c152_37 : qx_code 152 37 = some (37, .getfield 33, 40, 7, 3, 384) := by decide +kernel
theorem s152_37 {L : Nat} {xs : Nat → Int32} {d x : Nat} {M : qxM} {st : List Value} {ls : qxL} {t : Nat} (hk : qx_kd t = 17) : Rs L xs (d) 152 37 ls (.ref t :: st) M x = Rs L xs (d) 152 40 ls (.ref (t + 90) :: st) M x := Rs_when (qx_kd_obj (k := 7) (by decide) hk) c152_37 rfl
theorem c152_40 : qx_code 152 40 = some (40, .getfield 93, 43, 4, 0, 356) := by decide +kernel
theorem s152_40 {L : Nat} {xs : Nat → Int32} {d x : Nat} {M : qxM} {st : List Value} {ls : qxL} {t : Nat} (hk : qx_kd t = 14) : Rs L xs (d) 152 40 ls (.ref t :: st) M x = Rs L xs (d) 152 43 ls (.ref (t + 1) :: st) M x := Rs_when (qx_kd_obj (k := 4) (by decide) hk) c152_40 rfl
theorem c152_43 : qx_code 152 43 = some (43, .iload_n 1, 44, 0, 0, 0) := by decide +kernel
theorem s152_43 {L : Nat} {xs : Nat → Int32} {d x : Nat} {M : qxM} {st : List Value} {a0 a2 a3 : Option Value} {z : Int32} : Rs L xs (d) 152 43 [a0, some (.int z), a2, a3] st M x = Rs L xs (d) 152 44 [a0, some (.int z), a2, a3] (.int z :: st) M x := Rs_next c152_43 rfl
theorem c152_44 : qx_code 152 44 = some (44, .iload_n 2, 45, 0, 0, 0) := by decide +kernel
theorem s152_44 {L : Nat} {xs : Nat → Int32} {d x : Nat} {M : qxM} {st : List Value} {a0 a1 a3 : Option Value} {z : Int32} : Rs L xs (d) 152 44 [a0, a1, some (.int z), a3] st M x = Rs L xs (d) 152 45 [a0, a1, some (.int z), a3] (.int z :: st) M x := Rs_next c152_44 rfl
theorem c152_45 : qx_code 152 45 = some (45, .iload_n 3, 46, 0, 0, 0) := by decide +kernel
theorem s152_45 {L : Nat} {xs : Nat → Int32} {d x : Nat} {M : qxM} {st : List Value} {a0 a1 a2 : Option Value} {z : Int32} : Rs L xs (d) 152 45 [a0, a1, a2, some (.int z)] st M x = Rs L xs (d) 152 46 [a0, a1, a2, some (.int z)] (.int z :: st) M x := Rs_next c152_45 rfl
theorem c152_46 : qx_code 152 46 = some (46, .invokevirtual 388, 49, 40, 4, 1494) := by decide +kernel
theorem s152_46 {L : Nat} {xs : Nat → Int32} {d x : Nat} {M : qxM} {st : List Value} {ls : qxL} {t : Nat} {z0 : Int32} {z1 : Int32} {z2 : Int32} (hk : qx_kd t = 12) (hs : st.length ≤ 4) : Rs L xs (d + 1) 152 46 ls (.int z2 :: .int z1 :: .int z0 :: .ref t :: st) M x = (Rs L xs d 40 0 [some (.ref t), some (.int z0), some (.int z1), some (.int z2)] [] M 0).bind (qx_kn L xs (d + 1) 152 46 49 40 ls st x) := by
  have h1 : qx_act L xs (qx_rt 152) (46, .invokevirtual 388, 49, 40, 4, 1494) ls (.int z2 :: .int z1 :: .int z0 :: .ref t :: st) M = if 4 ≤ (.int z2 :: .int z1 :: .int z0 :: .ref t :: st).length ∧ st.length ≤ 4 then some (.inr (.inr (.inr (40, [.ref t, .int z0, .int z1, .int z2], st)))) else none := rfl
  rw [if_pos ⟨by simp [List.length_cons]; try omega, hs⟩] at h1
  have h2 := qx_kd_obj (k := 2) (by decide) hk
  exact Rs_call c152_46 h1 (by rw [show qx_args 40 [.ref t, .int z0, .int z1, .int z2] = decide (qx_sh t = some (.inl 2)) from rfl]; exact decide_eq_true h2)
theorem c152_49 : qx_code 152 49 = some (49, .aload_n 0, 50, 0, 0, 0) := by decide +kernel
theorem s152_49 {L : Nat} {xs : Nat → Int32} {d x : Nat} {M : qxM} {st : List Value} {a1 a2 a3 : Option Value} {z : Nat} : Rs L xs (d) 152 49 [some (.ref z), a1, a2, a3] st M x = Rs L xs (d) 152 50 [some (.ref z), a1, a2, a3] (.ref z :: st) M x := Rs_next c152_49 rfl
theorem c152_50 : qx_code 152 50 = some (50, .getfield 33, 53, 7, 3, 384) := by decide +kernel
theorem s152_50 {L : Nat} {xs : Nat → Int32} {d x : Nat} {M : qxM} {st : List Value} {ls : qxL} {t : Nat} (hk : qx_kd t = 17) : Rs L xs (d) 152 50 ls (.ref t :: st) M x = Rs L xs (d) 152 53 ls (.ref (t + 90) :: st) M x := Rs_when (qx_kd_obj (k := 7) (by decide) hk) c152_50 rfl
theorem c152_53 : qx_code 152 53 = some (53, .dup, 54, 0, 0, 0) := by decide +kernel
theorem s152_53r {L : Nat} {xs : Nat → Int32} {d x : Nat} {M : qxM} {st : List Value} {ls : qxL} {z : Nat} : Rs L xs (d) 152 53 ls (.ref z :: st) M x = Rs L xs (d) 152 54 ls (.ref z :: .ref z :: st) M x := Rs_next c152_53 rfl
theorem s152_53i {L : Nat} {xs : Nat → Int32} {d x : Nat} {M : qxM} {st : List Value} {ls : qxL} {z : Int32} : Rs L xs (d) 152 53 ls (.int z :: st) M x = Rs L xs (d) 152 54 ls (.int z :: .int z :: st) M x := Rs_next c152_53 rfl
theorem c152_54 : qx_code 152 54 = some (54, .getfield 145, 57, 4, 5, 366) := by decide +kernel
theorem s152_54 {L : Nat} {xs : Nat → Int32} {d x : Nat} {M : qxM} {st : List Value} {ls : qxL} {t : Nat} (hk : qx_kd t = 14) : Rs L xs (d) 152 54 ls (.ref t :: st) M x = Rs L xs (d) 152 57 ls (.int (M.1 t 5) :: st) M x := Rs_when (qx_kd_obj (k := 4) (by decide) hk) c152_54 rfl
theorem c152_57 : qx_code 152 57 = some (57, .aload_n 0, 58, 0, 0, 0) := by decide +kernel
theorem s152_57 {L : Nat} {xs : Nat → Int32} {d x : Nat} {M : qxM} {st : List Value} {a1 a2 a3 : Option Value} {z : Nat} : Rs L xs (d) 152 57 [some (.ref z), a1, a2, a3] st M x = Rs L xs (d) 152 58 [some (.ref z), a1, a2, a3] (.ref z :: st) M x := Rs_next c152_57 rfl
theorem c152_58 : qx_code 152 58 = some (58, .getfield 33, 61, 7, 3, 384) := by decide +kernel
theorem s152_58 {L : Nat} {xs : Nat → Int32} {d x : Nat} {M : qxM} {st : List Value} {ls : qxL} {t : Nat} (hk : qx_kd t = 17) : Rs L xs (d) 152 58 ls (.ref t :: st) M x = Rs L xs (d) 152 61 ls (.ref (t + 90) :: st) M x := Rs_when (qx_kd_obj (k := 7) (by decide) hk) c152_58 rfl
theorem c152_61 : qx_code 152 61 = some (61, .getfield 93, 64, 4, 0, 356) := by decide +kernel
theorem s152_61 {L : Nat} {xs : Nat → Int32} {d x : Nat} {M : qxM} {st : List Value} {ls : qxL} {t : Nat} (hk : qx_kd t = 14) : Rs L xs (d) 152 61 ls (.ref t :: st) M x = Rs L xs (d) 152 64 ls (.ref (t + 1) :: st) M x := Rs_when (qx_kd_obj (k := 4) (by decide) hk) c152_61 rfl
theorem c152_64 : qx_code 152 64 = some (64, .invokevirtual 392, 67, 51, 1, 1495) := by decide +kernel
theorem s152_64 {L : Nat} {xs : Nat → Int32} {d x : Nat} {M : qxM} {st : List Value} {ls : qxL} {t : Nat} (hk : qx_kd t = 12) (hs : st.length ≤ 4) : Rs L xs (d + 1) 152 64 ls (.ref t :: st) M x = (Rs L xs d 51 0 [some (.ref t), none, none, none] [] M 0).bind (qx_kn L xs (d + 1) 152 64 67 51 ls st x) := by
  have h1 : qx_act L xs (qx_rt 152) (64, .invokevirtual 392, 67, 51, 1, 1495) ls (.ref t :: st) M = if 1 ≤ (.ref t :: st).length ∧ st.length ≤ 4 then some (.inr (.inr (.inr (51, [.ref t], st)))) else none := rfl
  rw [if_pos ⟨by simp [List.length_cons]; try omega, hs⟩] at h1
  have h2 := qx_kd_obj (k := 2) (by decide) hk
  exact Rs_call c152_64 h1 (by rw [show qx_args 51 [.ref t] = decide (qx_sh t = some (.inl 2)) from rfl]; exact decide_eq_true h2)
theorem c152_67 : qx_code 152 67 = some (67, .iadd, 68, 0, 0, 0) := by decide +kernel
theorem s152_67 {L : Nat} {xs : Nat → Int32} {d x : Nat} {M : qxM} {st : List Value} {ls : qxL} {z y : Int32} : Rs L xs (d) 152 67 ls (.int y :: .int z :: st) M x = Rs L xs (d) 152 68 ls (.int (z + y) :: st) M x := Rs_next c152_67 rfl
theorem c152_68 : qx_code 152 68 = some (68, .putfield 145, 71, 4, 5, 366) := by decide +kernel
theorem s152_68 {L : Nat} {xs : Nat → Int32} {d x : Nat} {M : qxM} {st : List Value} {ls : qxL} {t : Nat} {z : Int32} (hk : qx_kd t = 14) : Rs L xs (d) 152 68 ls (.int z :: .ref t :: st) M x = Rs L xs (d) 152 71 ls st (qx_up M t 5 z) x := Rs_when (cnd := qx_sh t = some (.inl 4) ∧ qx_fo 4 5 = none ∧ (qx_bf 4 5 = true → z = 0 ∨ z = 1)) ⟨qx_kd_obj (k := 4) (by decide) hk, rfl, fun h => nomatch h⟩ c152_68 rfl
theorem c152_71 : qx_code 152 71 = some (71, .aload_n 0, 72, 0, 0, 0) := by decide +kernel
theorem s152_71 {L : Nat} {xs : Nat → Int32} {d x : Nat} {M : qxM} {st : List Value} {a1 a2 a3 : Option Value} {z : Nat} : Rs L xs (d) 152 71 [some (.ref z), a1, a2, a3] st M x = Rs L xs (d) 152 72 [some (.ref z), a1, a2, a3] (.ref z :: st) M x := Rs_next c152_71 rfl
theorem c152_72 : qx_code 152 72 = some (72, .getfield 33, 75, 7, 3, 384) := by decide +kernel
theorem s152_72 {L : Nat} {xs : Nat → Int32} {d x : Nat} {M : qxM} {st : List Value} {ls : qxL} {t : Nat} (hk : qx_kd t = 17) : Rs L xs (d) 152 72 ls (.ref t :: st) M x = Rs L xs (d) 152 75 ls (.ref (t + 90) :: st) M x := Rs_when (qx_kd_obj (k := 7) (by decide) hk) c152_72 rfl
theorem c152_75 : qx_code 152 75 = some (75, .getfield 93, 78, 4, 0, 356) := by decide +kernel
theorem s152_75 {L : Nat} {xs : Nat → Int32} {d x : Nat} {M : qxM} {st : List Value} {ls : qxL} {t : Nat} (hk : qx_kd t = 14) : Rs L xs (d) 152 75 ls (.ref t :: st) M x = Rs L xs (d) 152 78 ls (.ref (t + 1) :: st) M x := Rs_when (qx_kd_obj (k := 4) (by decide) hk) c152_75 rfl
theorem c152_78 : qx_code 152 78 = some (78, .invokevirtual 114, 81, 44, 1, 753) := by decide +kernel
theorem s152_78 {L : Nat} {xs : Nat → Int32} {d x : Nat} {M : qxM} {st : List Value} {ls : qxL} {t : Nat} (hk : qx_kd t = 12) (hs : st.length ≤ 4) : Rs L xs (d + 1) 152 78 ls (.ref t :: st) M x = (Rs L xs d 44 0 [some (.ref t), none, none] [] M 0).bind (qx_kn L xs (d + 1) 152 78 81 44 ls st x) := by
  have h1 : qx_act L xs (qx_rt 152) (78, .invokevirtual 114, 81, 44, 1, 753) ls (.ref t :: st) M = if 1 ≤ (.ref t :: st).length ∧ st.length ≤ 4 then some (.inr (.inr (.inr (44, [.ref t], st)))) else none := rfl
  rw [if_pos ⟨by simp [List.length_cons]; try omega, hs⟩] at h1
  have h2 := qx_kd_obj (k := 2) (by decide) hk
  exact Rs_call c152_78 h1 (by rw [show qx_args 44 [.ref t] = decide (qx_sh t = some (.inl 2)) from rfl]; exact decide_eq_true h2)
theorem c152_81 : qx_code 152 81 = some (81, .ireturn, 82, 0, 0, 0) := by decide +kernel
theorem s152_81 {L : Nat} {xs : Nat → Int32} {d x : Nat} {M : qxM} {ls : qxL} {z : Int32} : Rs L xs (d) 152 81 ls [.int z] M x = some (.inl (some (.int z)), M, x) := Rs_ret c152_81 rfl
theorem c153_0 : qx_code 153 0 = some (0, .aload_n 0, 1, 0, 0, 0) := by decide +kernel
theorem s153_0 {L : Nat} {xs : Nat → Int32} {d x : Nat} {M : qxM} {st : List Value} {a1 a2 a3 : Option Value} {z : Nat} : Rs L xs (d) 153 0 [some (.ref z), a1, a2, a3] st M x = Rs L xs (d) 153 1 [some (.ref z), a1, a2, a3] (.ref z :: st) M x := Rs_next c153_0 rfl
theorem c153_1 : qx_code 153 1 = some (1, .iload_n 1, 2, 0, 0, 0) := by decide +kernel
theorem s153_1 {L : Nat} {xs : Nat → Int32} {d x : Nat} {M : qxM} {st : List Value} {a0 a2 a3 : Option Value} {z : Int32} : Rs L xs (d) 153 1 [a0, some (.int z), a2, a3] st M x = Rs L xs (d) 153 2 [a0, some (.int z), a2, a3] (.int z :: st) M x := Rs_next c153_1 rfl
theorem c153_2 : qx_code 153 2 = some (2, .invokevirtual 148, 5, 160, 2, 780) := by decide +kernel
theorem s153_2 {L : Nat} {xs : Nat → Int32} {d x : Nat} {M : qxM} {st : List Value} {ls : qxL} {t : Nat} {z0 : Int32} (hk : qx_kd t = 17) (hs : st.length ≤ 4) : Rs L xs (d + 1) 153 2 ls (.int z0 :: .ref t :: st) M x = (Rs L xs d 160 0 [some (.ref t), some (.int z0)] [] M 0).bind (qx_kn L xs (d + 1) 153 2 5 160 ls st x) := by
  have h1 : qx_act L xs (qx_rt 153) (2, .invokevirtual 148, 5, 160, 2, 780) ls (.int z0 :: .ref t :: st) M = if 2 ≤ (.int z0 :: .ref t :: st).length ∧ st.length ≤ 4 then some (.inr (.inr (.inr (160, [.ref t, .int z0], st)))) else none := rfl
  rw [if_pos ⟨by simp [List.length_cons]; try omega, hs⟩] at h1
  have h2 := qx_kd_obj (k := 7) (by decide) hk
  exact Rs_call c153_2 h1 (by rw [show qx_args 160 [.ref t, .int z0] = decide (qx_sh t = some (.inl 7)) from rfl]; exact decide_eq_true h2)
theorem c153_5 : qx_code 153 5 = some (5, .aload_n 0, 6, 0, 0, 0) := by decide +kernel
theorem s153_5 {L : Nat} {xs : Nat → Int32} {d x : Nat} {M : qxM} {st : List Value} {a1 a2 a3 : Option Value} {z : Nat} : Rs L xs (d) 153 5 [some (.ref z), a1, a2, a3] st M x = Rs L xs (d) 153 6 [some (.ref z), a1, a2, a3] (.ref z :: st) M x := Rs_next c153_5 rfl
theorem c153_6 : qx_code 153 6 = some (6, .iload_n 2, 7, 0, 0, 0) := by decide +kernel
theorem s153_6 {L : Nat} {xs : Nat → Int32} {d x : Nat} {M : qxM} {st : List Value} {a0 a1 a3 : Option Value} {z : Int32} : Rs L xs (d) 153 6 [a0, a1, some (.int z), a3] st M x = Rs L xs (d) 153 7 [a0, a1, some (.int z), a3] (.int z :: st) M x := Rs_next c153_6 rfl
theorem c153_7 : qx_code 153 7 = some (7, .iconst 1, 8, 0, 0, 0) := by decide +kernel
theorem s153_7 {L : Nat} {xs : Nat → Int32} {d x : Nat} {M : qxM} {st : List Value} {ls : qxL} : Rs L xs (d) 153 7 ls st M x = Rs L xs (d) 153 8 ls (.int (nI 1) :: st) M x := Rs_next c153_7 rfl
theorem c153_8 : qx_code 153 8 = some (8, .invokevirtual 110, 11, 162, 3, 748) := by decide +kernel
theorem s153_8 {L : Nat} {xs : Nat → Int32} {d x : Nat} {M : qxM} {st : List Value} {ls : qxL} {t : Nat} {z0 : Int32} {z1 : Int32} (hk : qx_kd t = 17) (hs : st.length ≤ 4) : Rs L xs (d + 1) 153 8 ls (.int z1 :: .int z0 :: .ref t :: st) M x = (Rs L xs d 162 0 [some (.ref t), some (.int z0), some (.int z1)] [] M 0).bind (qx_kn L xs (d + 1) 153 8 11 162 ls st x) := by
  have h1 : qx_act L xs (qx_rt 153) (8, .invokevirtual 110, 11, 162, 3, 748) ls (.int z1 :: .int z0 :: .ref t :: st) M = if 3 ≤ (.int z1 :: .int z0 :: .ref t :: st).length ∧ st.length ≤ 4 then some (.inr (.inr (.inr (162, [.ref t, .int z0, .int z1], st)))) else none := rfl
  rw [if_pos ⟨by simp [List.length_cons]; try omega, hs⟩] at h1
  have h2 := qx_kd_obj (k := 7) (by decide) hk
  exact Rs_call c153_8 h1 (by rw [show qx_args 162 [.ref t, .int z0, .int z1] = decide (qx_sh t = some (.inl 7)) from rfl]; exact decide_eq_true h2)
theorem c153_11 : qx_code 153 11 = some (11, .aload_n 0, 12, 0, 0, 0) := by decide +kernel
theorem s153_11 {L : Nat} {xs : Nat → Int32} {d x : Nat} {M : qxM} {st : List Value} {a1 a2 a3 : Option Value} {z : Nat} : Rs L xs (d) 153 11 [some (.ref z), a1, a2, a3] st M x = Rs L xs (d) 153 12 [some (.ref z), a1, a2, a3] (.ref z :: st) M x := Rs_next c153_11 rfl
theorem c153_12 : qx_code 153 12 = some (12, .invokevirtual 355, 15, 166, 1, 1405) := by decide +kernel
theorem s153_12 {L : Nat} {xs : Nat → Int32} {d x : Nat} {M : qxM} {st : List Value} {ls : qxL} {t : Nat} (hk : qx_kd t = 17) (hs : st.length ≤ 4) : Rs L xs (d + 1) 153 12 ls (.ref t :: st) M x = (Rs L xs d 166 0 [some (.ref t)] [] M 0).bind (qx_kn L xs (d + 1) 153 12 15 166 ls st x) := by
  have h1 : qx_act L xs (qx_rt 153) (12, .invokevirtual 355, 15, 166, 1, 1405) ls (.ref t :: st) M = if 1 ≤ (.ref t :: st).length ∧ st.length ≤ 4 then some (.inr (.inr (.inr (166, [.ref t], st)))) else none := rfl
  rw [if_pos ⟨by simp [List.length_cons]; try omega, hs⟩] at h1
  have h2 := qx_kd_obj (k := 7) (by decide) hk
  exact Rs_call c153_12 h1 (by rw [show qx_args 166 [.ref t] = decide (qx_sh t = some (.inl 7)) from rfl]; exact decide_eq_true h2)
theorem c153_15 : qx_code 153 15 = some (15, .aload_n 0, 16, 0, 0, 0) := by decide +kernel
theorem s153_15 {L : Nat} {xs : Nat → Int32} {d x : Nat} {M : qxM} {st : List Value} {a1 a2 a3 : Option Value} {z : Nat} : Rs L xs (d) 153 15 [some (.ref z), a1, a2, a3] st M x = Rs L xs (d) 153 16 [some (.ref z), a1, a2, a3] (.ref z :: st) M x := Rs_next c153_15 rfl
theorem c153_16 : qx_code 153 16 = some (16, .getfield 33, 19, 7, 3, 384) := by decide +kernel
theorem s153_16 {L : Nat} {xs : Nat → Int32} {d x : Nat} {M : qxM} {st : List Value} {ls : qxL} {t : Nat} (hk : qx_kd t = 17) : Rs L xs (d) 153 16 ls (.ref t :: st) M x = Rs L xs (d) 153 19 ls (.ref (t + 90) :: st) M x := Rs_when (qx_kd_obj (k := 7) (by decide) hk) c153_16 rfl
theorem c153_19 : qx_code 153 19 = some (19, .getfield 180, 22, 4, 1, 358) := by decide +kernel
theorem s153_19 {L : Nat} {xs : Nat → Int32} {d x : Nat} {M : qxM} {st : List Value} {ls : qxL} {t : Nat} (hk : qx_kd t = 14) : Rs L xs (d) 153 19 ls (.ref t :: st) M x = Rs L xs (d) 153 22 ls (.ref (t + 4) :: st) M x := Rs_when (qx_kd_obj (k := 4) (by decide) hk) c153_19 rfl
theorem c153_22 : qx_code 153 22 = some (22, .invokevirtual 367, 25, 54, 1, 1458) := by decide +kernel
theorem s153_22 {L : Nat} {xs : Nat → Int32} {d x : Nat} {M : qxM} {st : List Value} {ls : qxL} {t : Nat} (hk : qx_kd t = 13) (hs : st.length ≤ 4) : Rs L xs (d + 1) 153 22 ls (.ref t :: st) M x = (Rs L xs d 54 0 [some (.ref t)] [] M 0).bind (qx_kn L xs (d + 1) 153 22 25 54 ls st x) := by
  have h1 : qx_act L xs (qx_rt 153) (22, .invokevirtual 367, 25, 54, 1, 1458) ls (.ref t :: st) M = if 1 ≤ (.ref t :: st).length ∧ st.length ≤ 4 then some (.inr (.inr (.inr (54, [.ref t], st)))) else none := rfl
  rw [if_pos ⟨by simp [List.length_cons]; try omega, hs⟩] at h1
  have h2 := qx_kd_obj (k := 3) (by decide) hk
  exact Rs_call c153_22 h1 (by rw [show qx_args 54 [.ref t] = decide (qx_sh t = some (.inl 3)) from rfl]; exact decide_eq_true h2)
theorem c153_25 : qx_code 153 25 = some (25, .aload_n 0, 26, 0, 0, 0) := by decide +kernel
theorem s153_25 {L : Nat} {xs : Nat → Int32} {d x : Nat} {M : qxM} {st : List Value} {a1 a2 a3 : Option Value} {z : Nat} : Rs L xs (d) 153 25 [some (.ref z), a1, a2, a3] st M x = Rs L xs (d) 153 26 [some (.ref z), a1, a2, a3] (.ref z :: st) M x := Rs_next c153_25 rfl
theorem c153_26 : qx_code 153 26 = some (26, .getfield 33, 29, 7, 3, 384) := by decide +kernel
theorem s153_26 {L : Nat} {xs : Nat → Int32} {d x : Nat} {M : qxM} {st : List Value} {ls : qxL} {t : Nat} (hk : qx_kd t = 17) : Rs L xs (d) 153 26 ls (.ref t :: st) M x = Rs L xs (d) 153 29 ls (.ref (t + 90) :: st) M x := Rs_when (qx_kd_obj (k := 7) (by decide) hk) c153_26 rfl
theorem c153_29 : qx_code 153 29 = some (29, .getfield 93, 32, 4, 0, 356) := by decide +kernel
theorem s153_29 {L : Nat} {xs : Nat → Int32} {d x : Nat} {M : qxM} {st : List Value} {ls : qxL} {t : Nat} (hk : qx_kd t = 14) : Rs L xs (d) 153 29 ls (.ref t :: st) M x = Rs L xs (d) 153 32 ls (.ref (t + 1) :: st) M x := Rs_when (qx_kd_obj (k := 4) (by decide) hk) c153_29 rfl
theorem c153_32 : qx_code 153 32 = some (32, .iload_n 1, 33, 0, 0, 0) := by decide +kernel
theorem s153_32 {L : Nat} {xs : Nat → Int32} {d x : Nat} {M : qxM} {st : List Value} {a0 a2 a3 : Option Value} {z : Int32} : Rs L xs (d) 153 32 [a0, some (.int z), a2, a3] st M x = Rs L xs (d) 153 33 [a0, some (.int z), a2, a3] (.int z :: st) M x := Rs_next c153_32 rfl
theorem c153_33 : qx_code 153 33 = some (33, .invokevirtual 151, 36, 37, 2, 785) := by decide +kernel
theorem s153_33 {L : Nat} {xs : Nat → Int32} {d x : Nat} {M : qxM} {st : List Value} {ls : qxL} {t : Nat} {z0 : Int32} (hk : qx_kd t = 12) (hs : st.length ≤ 4) : Rs L xs (d + 1) 153 33 ls (.int z0 :: .ref t :: st) M x = (Rs L xs d 37 0 [some (.ref t), some (.int z0)] [] M 0).bind (qx_kn L xs (d + 1) 153 33 36 37 ls st x) := by
  have h1 : qx_act L xs (qx_rt 153) (33, .invokevirtual 151, 36, 37, 2, 785) ls (.int z0 :: .ref t :: st) M = if 2 ≤ (.int z0 :: .ref t :: st).length ∧ st.length ≤ 4 then some (.inr (.inr (.inr (37, [.ref t, .int z0], st)))) else none := rfl
  rw [if_pos ⟨by simp [List.length_cons]; try omega, hs⟩] at h1
  have h2 := qx_kd_obj (k := 2) (by decide) hk
  exact Rs_call c153_33 h1 (by rw [show qx_args 37 [.ref t, .int z0] = decide (qx_sh t = some (.inl 2)) from rfl]; exact decide_eq_true h2)
theorem c153_36 : qx_code 153 36 = some (36, .istore_n 3, 37, 0, 0, 0) := by decide +kernel
theorem s153_36i {L : Nat} {xs : Nat → Int32} {d x : Nat} {M : qxM} {st : List Value} {a0 a1 a3 : Option Value} {z : Int32} {y : Int32} : Rs L xs (d) 153 36 [a0, a1, some (.int y), a3] (.int z :: st) M x = Rs L xs (d) 153 37 [a0, a1, some (.int y), some (.int z)] st M x := Rs_next c153_36 rfl
theorem s153_36r {L : Nat} {xs : Nat → Int32} {d x : Nat} {M : qxM} {st : List Value} {a0 a1 a3 : Option Value} {z : Int32} {y : Nat} : Rs L xs (d) 153 36 [a0, a1, some (.ref y), a3] (.int z :: st) M x = Rs L xs (d) 153 37 [a0, a1, some (.ref y), some (.int z)] st M x := Rs_next c153_36 rfl
theorem s153_36n {L : Nat} {xs : Nat → Int32} {d x : Nat} {M : qxM} {st : List Value} {a0 a1 a3 : Option Value} {z : Int32} : Rs L xs (d) 153 36 [a0, a1, none, a3] (.int z :: st) M x = Rs L xs (d) 153 37 [a0, a1, none, some (.int z)] st M x := Rs_next c153_36 rfl
theorem c153_37 : qx_code 153 37 = some (37, .aload_n 0, 38, 0, 0, 0) := by decide +kernel
theorem s153_37 {L : Nat} {xs : Nat → Int32} {d x : Nat} {M : qxM} {st : List Value} {a1 a2 a3 : Option Value} {z : Nat} : Rs L xs (d) 153 37 [some (.ref z), a1, a2, a3] st M x = Rs L xs (d) 153 38 [some (.ref z), a1, a2, a3] (.ref z :: st) M x := Rs_next c153_37 rfl
theorem c153_38 : qx_code 153 38 = some (38, .getfield 33, 41, 7, 3, 384) := by decide +kernel
theorem s153_38 {L : Nat} {xs : Nat → Int32} {d x : Nat} {M : qxM} {st : List Value} {ls : qxL} {t : Nat} (hk : qx_kd t = 17) : Rs L xs (d) 153 38 ls (.ref t :: st) M x = Rs L xs (d) 153 41 ls (.ref (t + 90) :: st) M x := Rs_when (qx_kd_obj (k := 7) (by decide) hk) c153_38 rfl
theorem c153_41 : qx_code 153 41 = some (41, .getfield 93, 44, 4, 0, 356) := by decide +kernel
theorem s153_41 {L : Nat} {xs : Nat → Int32} {d x : Nat} {M : qxM} {st : List Value} {ls : qxL} {t : Nat} (hk : qx_kd t = 14) : Rs L xs (d) 153 41 ls (.ref t :: st) M x = Rs L xs (d) 153 44 ls (.ref (t + 1) :: st) M x := Rs_when (qx_kd_obj (k := 4) (by decide) hk) c153_41 rfl
theorem c153_44 : qx_code 153 44 = some (44, .iload_n 1, 45, 0, 0, 0) := by decide +kernel
theorem s153_44 {L : Nat} {xs : Nat → Int32} {d x : Nat} {M : qxM} {st : List Value} {a0 a2 a3 : Option Value} {z : Int32} : Rs L xs (d) 153 44 [a0, some (.int z), a2, a3] st M x = Rs L xs (d) 153 45 [a0, some (.int z), a2, a3] (.int z :: st) M x := Rs_next c153_44 rfl
theorem c153_45 : qx_code 153 45 = some (45, .iload_n 2, 46, 0, 0, 0) := by decide +kernel
theorem s153_45 {L : Nat} {xs : Nat → Int32} {d x : Nat} {M : qxM} {st : List Value} {a0 a1 a3 : Option Value} {z : Int32} : Rs L xs (d) 153 45 [a0, a1, some (.int z), a3] st M x = Rs L xs (d) 153 46 [a0, a1, some (.int z), a3] (.int z :: st) M x := Rs_next c153_45 rfl
theorem c153_46 : qx_code 153 46 = some (46, .invokevirtual 395, 49, 38, 3, 1503) := by decide +kernel
theorem s153_46 {L : Nat} {xs : Nat → Int32} {d x : Nat} {M : qxM} {st : List Value} {ls : qxL} {t : Nat} {z0 : Int32} {z1 : Int32} (hk : qx_kd t = 12) (hs : st.length ≤ 4) : Rs L xs (d + 1) 153 46 ls (.int z1 :: .int z0 :: .ref t :: st) M x = (Rs L xs d 38 0 [some (.ref t), some (.int z0), some (.int z1)] [] M 0).bind (qx_kn L xs (d + 1) 153 46 49 38 ls st x) := by
  have h1 : qx_act L xs (qx_rt 153) (46, .invokevirtual 395, 49, 38, 3, 1503) ls (.int z1 :: .int z0 :: .ref t :: st) M = if 3 ≤ (.int z1 :: .int z0 :: .ref t :: st).length ∧ st.length ≤ 4 then some (.inr (.inr (.inr (38, [.ref t, .int z0, .int z1], st)))) else none := rfl
  rw [if_pos ⟨by simp [List.length_cons]; try omega, hs⟩] at h1
  have h2 := qx_kd_obj (k := 2) (by decide) hk
  exact Rs_call c153_46 h1 (by rw [show qx_args 38 [.ref t, .int z0, .int z1] = decide (qx_sh t = some (.inl 2)) from rfl]; exact decide_eq_true h2)
theorem c153_49 : qx_code 153 49 = some (49, .aload_n 0, 50, 0, 0, 0) := by decide +kernel
theorem s153_49 {L : Nat} {xs : Nat → Int32} {d x : Nat} {M : qxM} {st : List Value} {a1 a2 a3 : Option Value} {z : Nat} : Rs L xs (d) 153 49 [some (.ref z), a1, a2, a3] st M x = Rs L xs (d) 153 50 [some (.ref z), a1, a2, a3] (.ref z :: st) M x := Rs_next c153_49 rfl
theorem c153_50 : qx_code 153 50 = some (50, .getfield 33, 53, 7, 3, 384) := by decide +kernel
theorem s153_50 {L : Nat} {xs : Nat → Int32} {d x : Nat} {M : qxM} {st : List Value} {ls : qxL} {t : Nat} (hk : qx_kd t = 17) : Rs L xs (d) 153 50 ls (.ref t :: st) M x = Rs L xs (d) 153 53 ls (.ref (t + 90) :: st) M x := Rs_when (qx_kd_obj (k := 7) (by decide) hk) c153_50 rfl
theorem c153_53 : qx_code 153 53 = some (53, .dup, 54, 0, 0, 0) := by decide +kernel
theorem s153_53r {L : Nat} {xs : Nat → Int32} {d x : Nat} {M : qxM} {st : List Value} {ls : qxL} {z : Nat} : Rs L xs (d) 153 53 ls (.ref z :: st) M x = Rs L xs (d) 153 54 ls (.ref z :: .ref z :: st) M x := Rs_next c153_53 rfl
theorem s153_53i {L : Nat} {xs : Nat → Int32} {d x : Nat} {M : qxM} {st : List Value} {ls : qxL} {z : Int32} : Rs L xs (d) 153 53 ls (.int z :: st) M x = Rs L xs (d) 153 54 ls (.int z :: .int z :: st) M x := Rs_next c153_53 rfl
theorem c153_54 : qx_code 153 54 = some (54, .getfield 145, 57, 4, 5, 366) := by decide +kernel
theorem s153_54 {L : Nat} {xs : Nat → Int32} {d x : Nat} {M : qxM} {st : List Value} {ls : qxL} {t : Nat} (hk : qx_kd t = 14) : Rs L xs (d) 153 54 ls (.ref t :: st) M x = Rs L xs (d) 153 57 ls (.int (M.1 t 5) :: st) M x := Rs_when (qx_kd_obj (k := 4) (by decide) hk) c153_54 rfl
theorem c153_57 : qx_code 153 57 = some (57, .aload_n 0, 58, 0, 0, 0) := by decide +kernel
theorem s153_57 {L : Nat} {xs : Nat → Int32} {d x : Nat} {M : qxM} {st : List Value} {a1 a2 a3 : Option Value} {z : Nat} : Rs L xs (d) 153 57 [some (.ref z), a1, a2, a3] st M x = Rs L xs (d) 153 58 [some (.ref z), a1, a2, a3] (.ref z :: st) M x := Rs_next c153_57 rfl
theorem c153_58 : qx_code 153 58 = some (58, .getfield 33, 61, 7, 3, 384) := by decide +kernel
theorem s153_58 {L : Nat} {xs : Nat → Int32} {d x : Nat} {M : qxM} {st : List Value} {ls : qxL} {t : Nat} (hk : qx_kd t = 17) : Rs L xs (d) 153 58 ls (.ref t :: st) M x = Rs L xs (d) 153 61 ls (.ref (t + 90) :: st) M x := Rs_when (qx_kd_obj (k := 7) (by decide) hk) c153_58 rfl
theorem c153_61 : qx_code 153 61 = some (61, .getfield 93, 64, 4, 0, 356) := by decide +kernel
theorem s153_61 {L : Nat} {xs : Nat → Int32} {d x : Nat} {M : qxM} {st : List Value} {ls : qxL} {t : Nat} (hk : qx_kd t = 14) : Rs L xs (d) 153 61 ls (.ref t :: st) M x = Rs L xs (d) 153 64 ls (.ref (t + 1) :: st) M x := Rs_when (qx_kd_obj (k := 4) (by decide) hk) c153_61 rfl
theorem c153_64 : qx_code 153 64 = some (64, .invokevirtual 392, 67, 51, 1, 1495) := by decide +kernel
theorem s153_64 {L : Nat} {xs : Nat → Int32} {d x : Nat} {M : qxM} {st : List Value} {ls : qxL} {t : Nat} (hk : qx_kd t = 12) (hs : st.length ≤ 4) : Rs L xs (d + 1) 153 64 ls (.ref t :: st) M x = (Rs L xs d 51 0 [some (.ref t), none, none, none] [] M 0).bind (qx_kn L xs (d + 1) 153 64 67 51 ls st x) := by
  have h1 : qx_act L xs (qx_rt 153) (64, .invokevirtual 392, 67, 51, 1, 1495) ls (.ref t :: st) M = if 1 ≤ (.ref t :: st).length ∧ st.length ≤ 4 then some (.inr (.inr (.inr (51, [.ref t], st)))) else none := rfl
  rw [if_pos ⟨by simp [List.length_cons]; try omega, hs⟩] at h1
  have h2 := qx_kd_obj (k := 2) (by decide) hk
  exact Rs_call c153_64 h1 (by rw [show qx_args 51 [.ref t] = decide (qx_sh t = some (.inl 2)) from rfl]; exact decide_eq_true h2)
theorem c153_67 : qx_code 153 67 = some (67, .iadd, 68, 0, 0, 0) := by decide +kernel
theorem s153_67 {L : Nat} {xs : Nat → Int32} {d x : Nat} {M : qxM} {st : List Value} {ls : qxL} {z y : Int32} : Rs L xs (d) 153 67 ls (.int y :: .int z :: st) M x = Rs L xs (d) 153 68 ls (.int (z + y) :: st) M x := Rs_next c153_67 rfl
theorem c153_68 : qx_code 153 68 = some (68, .putfield 145, 71, 4, 5, 366) := by decide +kernel
theorem s153_68 {L : Nat} {xs : Nat → Int32} {d x : Nat} {M : qxM} {st : List Value} {ls : qxL} {t : Nat} {z : Int32} (hk : qx_kd t = 14) : Rs L xs (d) 153 68 ls (.int z :: .ref t :: st) M x = Rs L xs (d) 153 71 ls st (qx_up M t 5 z) x := Rs_when (cnd := qx_sh t = some (.inl 4) ∧ qx_fo 4 5 = none ∧ (qx_bf 4 5 = true → z = 0 ∨ z = 1)) ⟨qx_kd_obj (k := 4) (by decide) hk, rfl, fun h => nomatch h⟩ c153_68 rfl
theorem c153_71 : qx_code 153 71 = some (71, .iload_n 3, 72, 0, 0, 0) := by decide +kernel
theorem s153_71 {L : Nat} {xs : Nat → Int32} {d x : Nat} {M : qxM} {st : List Value} {a0 a1 a2 : Option Value} {z : Int32} : Rs L xs (d) 153 71 [a0, a1, a2, some (.int z)] st M x = Rs L xs (d) 153 72 [a0, a1, a2, some (.int z)] (.int z :: st) M x := Rs_next c153_71 rfl
theorem c153_72 : qx_code 153 72 = some (72, .ireturn, 73, 0, 0, 0) := by decide +kernel
theorem s153_72 {L : Nat} {xs : Nat → Int32} {d x : Nat} {M : qxM} {ls : qxL} {z : Int32} : Rs L xs (d) 153 72 ls [.int z] M x = some (.inl (some (.int z)), M, x) := Rs_ret c153_72 rfl
theorem c154_0 : qx_code 154 0 = some (0, .aload_n 0, 1, 0, 0, 0) := by decide +kernel
theorem s154_0 {L : Nat} {xs : Nat → Int32} {d x : Nat} {M : qxM} {st : List Value} {a1 a2 : Option Value} {z : Nat} : Rs L xs (d) 154 0 [some (.ref z), a1, a2] st M x = Rs L xs (d) 154 1 [some (.ref z), a1, a2] (.ref z :: st) M x := Rs_next c154_0 rfl
theorem c154_1 : qx_code 154 1 = some (1, .invokevirtual 107, 4, 159, 1, 728) := by decide +kernel
theorem s154_1 {L : Nat} {xs : Nat → Int32} {d x : Nat} {M : qxM} {st : List Value} {ls : qxL} {t : Nat} (hk : qx_kd t = 17) (hs : st.length ≤ 4) : Rs L xs (d + 1) 154 1 ls (.ref t :: st) M x = (Rs L xs d 159 0 [some (.ref t)] [] M 0).bind (qx_kn L xs (d + 1) 154 1 4 159 ls st x) := by
  have h1 : qx_act L xs (qx_rt 154) (1, .invokevirtual 107, 4, 159, 1, 728) ls (.ref t :: st) M = if 1 ≤ (.ref t :: st).length ∧ st.length ≤ 4 then some (.inr (.inr (.inr (159, [.ref t], st)))) else none := rfl
  rw [if_pos ⟨by simp [List.length_cons]; try omega, hs⟩] at h1
  have h2 := qx_kd_obj (k := 7) (by decide) hk
  exact Rs_call c154_1 h1 (by rw [show qx_args 159 [.ref t] = decide (qx_sh t = some (.inl 7)) from rfl]; exact decide_eq_true h2)
theorem c154_4 : qx_code 154 4 = some (4, .aload_n 0, 5, 0, 0, 0) := by decide +kernel
theorem s154_4 {L : Nat} {xs : Nat → Int32} {d x : Nat} {M : qxM} {st : List Value} {a1 a2 : Option Value} {z : Nat} : Rs L xs (d) 154 4 [some (.ref z), a1, a2] st M x = Rs L xs (d) 154 5 [some (.ref z), a1, a2] (.ref z :: st) M x := Rs_next c154_4 rfl
theorem c154_5 : qx_code 154 5 = some (5, .iload_n 1, 6, 0, 0, 0) := by decide +kernel
theorem s154_5 {L : Nat} {xs : Nat → Int32} {d x : Nat} {M : qxM} {st : List Value} {a0 a2 : Option Value} {z : Int32} : Rs L xs (d) 154 5 [a0, some (.int z), a2] st M x = Rs L xs (d) 154 6 [a0, some (.int z), a2] (.int z :: st) M x := Rs_next c154_5 rfl
theorem c154_6 : qx_code 154 6 = some (6, .iconst 2, 7, 0, 0, 0) := by decide +kernel
theorem s154_6 {L : Nat} {xs : Nat → Int32} {d x : Nat} {M : qxM} {st : List Value} {ls : qxL} : Rs L xs (d) 154 6 ls st M x = Rs L xs (d) 154 7 ls (.int (nI 2) :: st) M x := Rs_next c154_6 rfl
theorem c154_7 : qx_code 154 7 = some (7, .invokevirtual 110, 10, 162, 3, 748) := by decide +kernel
theorem s154_7 {L : Nat} {xs : Nat → Int32} {d x : Nat} {M : qxM} {st : List Value} {ls : qxL} {t : Nat} {z0 : Int32} {z1 : Int32} (hk : qx_kd t = 17) (hs : st.length ≤ 4) : Rs L xs (d + 1) 154 7 ls (.int z1 :: .int z0 :: .ref t :: st) M x = (Rs L xs d 162 0 [some (.ref t), some (.int z0), some (.int z1)] [] M 0).bind (qx_kn L xs (d + 1) 154 7 10 162 ls st x) := by
  have h1 : qx_act L xs (qx_rt 154) (7, .invokevirtual 110, 10, 162, 3, 748) ls (.int z1 :: .int z0 :: .ref t :: st) M = if 3 ≤ (.int z1 :: .int z0 :: .ref t :: st).length ∧ st.length ≤ 4 then some (.inr (.inr (.inr (162, [.ref t, .int z0, .int z1], st)))) else none := rfl
  rw [if_pos ⟨by simp [List.length_cons]; try omega, hs⟩] at h1
  have h2 := qx_kd_obj (k := 7) (by decide) hk
  exact Rs_call c154_7 h1 (by rw [show qx_args 162 [.ref t, .int z0, .int z1] = decide (qx_sh t = some (.inl 7)) from rfl]; exact decide_eq_true h2)
theorem c154_10 : qx_code 154 10 = some (10, .aload_n 0, 11, 0, 0, 0) := by decide +kernel
theorem s154_10 {L : Nat} {xs : Nat → Int32} {d x : Nat} {M : qxM} {st : List Value} {a1 a2 : Option Value} {z : Nat} : Rs L xs (d) 154 10 [some (.ref z), a1, a2] st M x = Rs L xs (d) 154 11 [some (.ref z), a1, a2] (.ref z :: st) M x := Rs_next c154_10 rfl
theorem c154_11 : qx_code 154 11 = some (11, .invokevirtual 355, 14, 166, 1, 1405) := by decide +kernel
theorem s154_11 {L : Nat} {xs : Nat → Int32} {d x : Nat} {M : qxM} {st : List Value} {ls : qxL} {t : Nat} (hk : qx_kd t = 17) (hs : st.length ≤ 4) : Rs L xs (d + 1) 154 11 ls (.ref t :: st) M x = (Rs L xs d 166 0 [some (.ref t)] [] M 0).bind (qx_kn L xs (d + 1) 154 11 14 166 ls st x) := by
  have h1 : qx_act L xs (qx_rt 154) (11, .invokevirtual 355, 14, 166, 1, 1405) ls (.ref t :: st) M = if 1 ≤ (.ref t :: st).length ∧ st.length ≤ 4 then some (.inr (.inr (.inr (166, [.ref t], st)))) else none := rfl
  rw [if_pos ⟨by simp [List.length_cons]; try omega, hs⟩] at h1
  have h2 := qx_kd_obj (k := 7) (by decide) hk
  exact Rs_call c154_11 h1 (by rw [show qx_args 166 [.ref t] = decide (qx_sh t = some (.inl 7)) from rfl]; exact decide_eq_true h2)
theorem c154_14 : qx_code 154 14 = some (14, .aload_n 0, 15, 0, 0, 0) := by decide +kernel
theorem s154_14 {L : Nat} {xs : Nat → Int32} {d x : Nat} {M : qxM} {st : List Value} {a1 a2 : Option Value} {z : Nat} : Rs L xs (d) 154 14 [some (.ref z), a1, a2] st M x = Rs L xs (d) 154 15 [some (.ref z), a1, a2] (.ref z :: st) M x := Rs_next c154_14 rfl
theorem c154_15 : qx_code 154 15 = some (15, .getfield 33, 18, 7, 3, 384) := by decide +kernel
theorem s154_15 {L : Nat} {xs : Nat → Int32} {d x : Nat} {M : qxM} {st : List Value} {ls : qxL} {t : Nat} (hk : qx_kd t = 17) : Rs L xs (d) 154 15 ls (.ref t :: st) M x = Rs L xs (d) 154 18 ls (.ref (t + 90) :: st) M x := Rs_when (qx_kd_obj (k := 7) (by decide) hk) c154_15 rfl
theorem c154_18 : qx_code 154 18 = some (18, .getfield 180, 21, 4, 1, 358) := by decide +kernel
theorem s154_18 {L : Nat} {xs : Nat → Int32} {d x : Nat} {M : qxM} {st : List Value} {ls : qxL} {t : Nat} (hk : qx_kd t = 14) : Rs L xs (d) 154 18 ls (.ref t :: st) M x = Rs L xs (d) 154 21 ls (.ref (t + 4) :: st) M x := Rs_when (qx_kd_obj (k := 4) (by decide) hk) c154_18 rfl
theorem c154_21 : qx_code 154 21 = some (21, .invokevirtual 367, 24, 54, 1, 1458) := by decide +kernel
theorem s154_21 {L : Nat} {xs : Nat → Int32} {d x : Nat} {M : qxM} {st : List Value} {ls : qxL} {t : Nat} (hk : qx_kd t = 13) (hs : st.length ≤ 4) : Rs L xs (d + 1) 154 21 ls (.ref t :: st) M x = (Rs L xs d 54 0 [some (.ref t)] [] M 0).bind (qx_kn L xs (d + 1) 154 21 24 54 ls st x) := by
  have h1 : qx_act L xs (qx_rt 154) (21, .invokevirtual 367, 24, 54, 1, 1458) ls (.ref t :: st) M = if 1 ≤ (.ref t :: st).length ∧ st.length ≤ 4 then some (.inr (.inr (.inr (54, [.ref t], st)))) else none := rfl
  rw [if_pos ⟨by simp [List.length_cons]; try omega, hs⟩] at h1
  have h2 := qx_kd_obj (k := 3) (by decide) hk
  exact Rs_call c154_21 h1 (by rw [show qx_args 54 [.ref t] = decide (qx_sh t = some (.inl 3)) from rfl]; exact decide_eq_true h2)
theorem c154_24 : qx_code 154 24 = some (24, .aload_n 0, 25, 0, 0, 0) := by decide +kernel
theorem s154_24 {L : Nat} {xs : Nat → Int32} {d x : Nat} {M : qxM} {st : List Value} {a1 a2 : Option Value} {z : Nat} : Rs L xs (d) 154 24 [some (.ref z), a1, a2] st M x = Rs L xs (d) 154 25 [some (.ref z), a1, a2] (.ref z :: st) M x := Rs_next c154_24 rfl
theorem c154_25 : qx_code 154 25 = some (25, .getfield 33, 28, 7, 3, 384) := by decide +kernel
theorem s154_25 {L : Nat} {xs : Nat → Int32} {d x : Nat} {M : qxM} {st : List Value} {ls : qxL} {t : Nat} (hk : qx_kd t = 17) : Rs L xs (d) 154 25 ls (.ref t :: st) M x = Rs L xs (d) 154 28 ls (.ref (t + 90) :: st) M x := Rs_when (qx_kd_obj (k := 7) (by decide) hk) c154_25 rfl
theorem c154_28 : qx_code 154 28 = some (28, .getfield 93, 31, 4, 0, 356) := by decide +kernel
theorem s154_28 {L : Nat} {xs : Nat → Int32} {d x : Nat} {M : qxM} {st : List Value} {ls : qxL} {t : Nat} (hk : qx_kd t = 14) : Rs L xs (d) 154 28 ls (.ref t :: st) M x = Rs L xs (d) 154 31 ls (.ref (t + 1) :: st) M x := Rs_when (qx_kd_obj (k := 4) (by decide) hk) c154_28 rfl
theorem c154_31 : qx_code 154 31 = some (31, .getfield 124, 34, 2, 1, 170) := by decide +kernel
theorem s154_31 {L : Nat} {xs : Nat → Int32} {d x : Nat} {M : qxM} {st : List Value} {ls : qxL} {t : Nat} (hk : qx_kd t = 12) : Rs L xs (d) 154 31 ls (.ref t :: st) M x = Rs L xs (d) 154 34 ls (.int (M.1 t 1) :: st) M x := Rs_when (qx_kd_obj (k := 2) (by decide) hk) c154_31 rfl
theorem c154_34 : qx_code 154 34 = some (34, .istore_n 2, 35, 0, 0, 0) := by decide +kernel
theorem s154_34i {L : Nat} {xs : Nat → Int32} {d x : Nat} {M : qxM} {st : List Value} {a0 a2 : Option Value} {z : Int32} {y : Int32} : Rs L xs (d) 154 34 [a0, some (.int y), a2] (.int z :: st) M x = Rs L xs (d) 154 35 [a0, some (.int y), some (.int z)] st M x := Rs_next c154_34 rfl
theorem s154_34r {L : Nat} {xs : Nat → Int32} {d x : Nat} {M : qxM} {st : List Value} {a0 a2 : Option Value} {z : Int32} {y : Nat} : Rs L xs (d) 154 34 [a0, some (.ref y), a2] (.int z :: st) M x = Rs L xs (d) 154 35 [a0, some (.ref y), some (.int z)] st M x := Rs_next c154_34 rfl
theorem s154_34n {L : Nat} {xs : Nat → Int32} {d x : Nat} {M : qxM} {st : List Value} {a0 a2 : Option Value} {z : Int32} : Rs L xs (d) 154 34 [a0, none, a2] (.int z :: st) M x = Rs L xs (d) 154 35 [a0, none, some (.int z)] st M x := Rs_next c154_34 rfl
theorem c154_35 : qx_code 154 35 = some (35, .aload_n 0, 36, 0, 0, 0) := by decide +kernel
theorem s154_35 {L : Nat} {xs : Nat → Int32} {d x : Nat} {M : qxM} {st : List Value} {a1 a2 : Option Value} {z : Nat} : Rs L xs (d) 154 35 [some (.ref z), a1, a2] st M x = Rs L xs (d) 154 36 [some (.ref z), a1, a2] (.ref z :: st) M x := Rs_next c154_35 rfl
theorem c154_36 : qx_code 154 36 = some (36, .getfield 33, 39, 7, 3, 384) := by decide +kernel
theorem s154_36 {L : Nat} {xs : Nat → Int32} {d x : Nat} {M : qxM} {st : List Value} {ls : qxL} {t : Nat} (hk : qx_kd t = 17) : Rs L xs (d) 154 36 ls (.ref t :: st) M x = Rs L xs (d) 154 39 ls (.ref (t + 90) :: st) M x := Rs_when (qx_kd_obj (k := 7) (by decide) hk) c154_36 rfl
theorem c154_39 : qx_code 154 39 = some (39, .getfield 93, 42, 4, 0, 356) := by decide +kernel
theorem s154_39 {L : Nat} {xs : Nat → Int32} {d x : Nat} {M : qxM} {st : List Value} {ls : qxL} {t : Nat} (hk : qx_kd t = 14) : Rs L xs (d) 154 39 ls (.ref t :: st) M x = Rs L xs (d) 154 42 ls (.ref (t + 1) :: st) M x := Rs_when (qx_kd_obj (k := 4) (by decide) hk) c154_39 rfl
theorem c154_42 : qx_code 154 42 = some (42, .iload_n 1, 43, 0, 0, 0) := by decide +kernel
theorem s154_42 {L : Nat} {xs : Nat → Int32} {d x : Nat} {M : qxM} {st : List Value} {a0 a2 : Option Value} {z : Int32} : Rs L xs (d) 154 42 [a0, some (.int z), a2] st M x = Rs L xs (d) 154 43 [a0, some (.int z), a2] (.int z :: st) M x := Rs_next c154_42 rfl
theorem c154_43 : qx_code 154 43 = some (43, .putfield 124, 46, 2, 1, 170) := by decide +kernel
theorem s154_43 {L : Nat} {xs : Nat → Int32} {d x : Nat} {M : qxM} {st : List Value} {ls : qxL} {t : Nat} {z : Int32} (hk : qx_kd t = 12) : Rs L xs (d) 154 43 ls (.int z :: .ref t :: st) M x = Rs L xs (d) 154 46 ls st (qx_up M t 1 z) x := Rs_when (cnd := qx_sh t = some (.inl 2) ∧ qx_fo 2 1 = none ∧ (qx_bf 2 1 = true → z = 0 ∨ z = 1)) ⟨qx_kd_obj (k := 2) (by decide) hk, rfl, fun h => nomatch h⟩ c154_43 rfl
theorem c154_46 : qx_code 154 46 = some (46, .aload_n 0, 47, 0, 0, 0) := by decide +kernel
theorem s154_46 {L : Nat} {xs : Nat → Int32} {d x : Nat} {M : qxM} {st : List Value} {a1 a2 : Option Value} {z : Nat} : Rs L xs (d) 154 46 [some (.ref z), a1, a2] st M x = Rs L xs (d) 154 47 [some (.ref z), a1, a2] (.ref z :: st) M x := Rs_next c154_46 rfl
theorem c154_47 : qx_code 154 47 = some (47, .getfield 33, 50, 7, 3, 384) := by decide +kernel
theorem s154_47 {L : Nat} {xs : Nat → Int32} {d x : Nat} {M : qxM} {st : List Value} {ls : qxL} {t : Nat} (hk : qx_kd t = 17) : Rs L xs (d) 154 47 ls (.ref t :: st) M x = Rs L xs (d) 154 50 ls (.ref (t + 90) :: st) M x := Rs_when (qx_kd_obj (k := 7) (by decide) hk) c154_47 rfl
theorem c154_50 : qx_code 154 50 = some (50, .dup, 51, 0, 0, 0) := by decide +kernel
theorem s154_50r {L : Nat} {xs : Nat → Int32} {d x : Nat} {M : qxM} {st : List Value} {ls : qxL} {z : Nat} : Rs L xs (d) 154 50 ls (.ref z :: st) M x = Rs L xs (d) 154 51 ls (.ref z :: .ref z :: st) M x := Rs_next c154_50 rfl
theorem s154_50i {L : Nat} {xs : Nat → Int32} {d x : Nat} {M : qxM} {st : List Value} {ls : qxL} {z : Int32} : Rs L xs (d) 154 50 ls (.int z :: st) M x = Rs L xs (d) 154 51 ls (.int z :: .int z :: st) M x := Rs_next c154_50 rfl
theorem c154_51 : qx_code 154 51 = some (51, .getfield 145, 54, 4, 5, 366) := by decide +kernel
theorem s154_51 {L : Nat} {xs : Nat → Int32} {d x : Nat} {M : qxM} {st : List Value} {ls : qxL} {t : Nat} (hk : qx_kd t = 14) : Rs L xs (d) 154 51 ls (.ref t :: st) M x = Rs L xs (d) 154 54 ls (.int (M.1 t 5) :: st) M x := Rs_when (qx_kd_obj (k := 4) (by decide) hk) c154_51 rfl
theorem c154_54 : qx_code 154 54 = some (54, .aload_n 0, 55, 0, 0, 0) := by decide +kernel
theorem s154_54 {L : Nat} {xs : Nat → Int32} {d x : Nat} {M : qxM} {st : List Value} {a1 a2 : Option Value} {z : Nat} : Rs L xs (d) 154 54 [some (.ref z), a1, a2] st M x = Rs L xs (d) 154 55 [some (.ref z), a1, a2] (.ref z :: st) M x := Rs_next c154_54 rfl
theorem c154_55 : qx_code 154 55 = some (55, .getfield 33, 58, 7, 3, 384) := by decide +kernel
theorem s154_55 {L : Nat} {xs : Nat → Int32} {d x : Nat} {M : qxM} {st : List Value} {ls : qxL} {t : Nat} (hk : qx_kd t = 17) : Rs L xs (d) 154 55 ls (.ref t :: st) M x = Rs L xs (d) 154 58 ls (.ref (t + 90) :: st) M x := Rs_when (qx_kd_obj (k := 7) (by decide) hk) c154_55 rfl
theorem c154_58 : qx_code 154 58 = some (58, .getfield 93, 61, 4, 0, 356) := by decide +kernel
theorem s154_58 {L : Nat} {xs : Nat → Int32} {d x : Nat} {M : qxM} {st : List Value} {ls : qxL} {t : Nat} (hk : qx_kd t = 14) : Rs L xs (d) 154 58 ls (.ref t :: st) M x = Rs L xs (d) 154 61 ls (.ref (t + 1) :: st) M x := Rs_when (qx_kd_obj (k := 4) (by decide) hk) c154_58 rfl
theorem c154_61 : qx_code 154 61 = some (61, .invokevirtual 392, 64, 51, 1, 1495) := by decide +kernel
theorem s154_61 {L : Nat} {xs : Nat → Int32} {d x : Nat} {M : qxM} {st : List Value} {ls : qxL} {t : Nat} (hk : qx_kd t = 12) (hs : st.length ≤ 4) : Rs L xs (d + 1) 154 61 ls (.ref t :: st) M x = (Rs L xs d 51 0 [some (.ref t), none, none, none] [] M 0).bind (qx_kn L xs (d + 1) 154 61 64 51 ls st x) := by
  have h1 : qx_act L xs (qx_rt 154) (61, .invokevirtual 392, 64, 51, 1, 1495) ls (.ref t :: st) M = if 1 ≤ (.ref t :: st).length ∧ st.length ≤ 4 then some (.inr (.inr (.inr (51, [.ref t], st)))) else none := rfl
  rw [if_pos ⟨by simp [List.length_cons]; try omega, hs⟩] at h1
  have h2 := qx_kd_obj (k := 2) (by decide) hk
  exact Rs_call c154_61 h1 (by rw [show qx_args 51 [.ref t] = decide (qx_sh t = some (.inl 2)) from rfl]; exact decide_eq_true h2)
theorem c154_64 : qx_code 154 64 = some (64, .iadd, 65, 0, 0, 0) := by decide +kernel
theorem s154_64 {L : Nat} {xs : Nat → Int32} {d x : Nat} {M : qxM} {st : List Value} {ls : qxL} {z y : Int32} : Rs L xs (d) 154 64 ls (.int y :: .int z :: st) M x = Rs L xs (d) 154 65 ls (.int (z + y) :: st) M x := Rs_next c154_64 rfl
theorem c154_65 : qx_code 154 65 = some (65, .putfield 145, 68, 4, 5, 366) := by decide +kernel
theorem s154_65 {L : Nat} {xs : Nat → Int32} {d x : Nat} {M : qxM} {st : List Value} {ls : qxL} {t : Nat} {z : Int32} (hk : qx_kd t = 14) : Rs L xs (d) 154 65 ls (.int z :: .ref t :: st) M x = Rs L xs (d) 154 68 ls st (qx_up M t 5 z) x := Rs_when (cnd := qx_sh t = some (.inl 4) ∧ qx_fo 4 5 = none ∧ (qx_bf 4 5 = true → z = 0 ∨ z = 1)) ⟨qx_kd_obj (k := 4) (by decide) hk, rfl, fun h => nomatch h⟩ c154_65 rfl
theorem c154_68 : qx_code 154 68 = some (68, .iload_n 2, 69, 0, 0, 0) := by decide +kernel
theorem s154_68 {L : Nat} {xs : Nat → Int32} {d x : Nat} {M : qxM} {st : List Value} {a0 a1 : Option Value} {z : Int32} : Rs L xs (d) 154 68 [a0, a1, some (.int z)] st M x = Rs L xs (d) 154 69 [a0, a1, some (.int z)] (.int z :: st) M x := Rs_next c154_68 rfl
theorem c154_69 : qx_code 154 69 = some (69, .ireturn, 70, 0, 0, 0) := by decide +kernel
theorem s154_69 {L : Nat} {xs : Nat → Int32} {d x : Nat} {M : qxM} {ls : qxL} {z : Int32} : Rs L xs (d) 154 69 ls [.int z] M x = some (.inl (some (.int z)), M, x) := Rs_ret c154_69 rfl
theorem c155_0 : qx_code 155 0 = some (0, .aload_n 0, 1, 0, 0, 0) := by decide +kernel
theorem s155_0 {L : Nat} {xs : Nat → Int32} {d x : Nat} {M : qxM} {st : List Value} {z : Nat} : Rs L xs (d) 155 0 [some (.ref z)] st M x = Rs L xs (d) 155 1 [some (.ref z)] (.ref z :: st) M x := Rs_next c155_0 rfl
theorem c155_1 : qx_code 155 1 = some (1, .getfield 87, 4, 7, 8, 389) := by decide +kernel
theorem s155_1 {L : Nat} {xs : Nat → Int32} {d x : Nat} {M : qxM} {st : List Value} {ls : qxL} {t : Nat} (hk : qx_kd t = 17) : Rs L xs (d) 155 1 ls (.ref t :: st) M x = Rs L xs (d) 155 4 ls (.int (M.1 t 8) :: st) M x := Rs_when (qx_kd_obj (k := 7) (by decide) hk) c155_1 rfl
theorem c155_4 : qx_code 155 4 = some (4, .ifCond .ne 14, 7, 18, 0, 0) := by decide +kernel
theorem s155_4 {L : Nat} {xs : Nat → Int32} {d x : Nat} {M : qxM} {st : List Value} {ls : qxL} {z : Int32} : Rs L xs (d) 155 4 ls (.int z :: st) M x = if z = 0 then Rs L xs (d) 155 7 ls st M x else Rs L xs (d) 155 18 ls st M x := Rs_ite c155_4 rfl
theorem c155_7 : qx_code 155 7 = some (7, .new 398, 10, 0, 18, 7420732) := by decide +kernel
theorem s155_7 {L : Nat} {xs : Nat → Int32} {d x : Nat} {M : qxM} {ls : qxL} : Rs L xs (d) 155 7 ls [] M x = some (.inr (qx_ex 0), M, x + 1) := Rs_thr rfl c155_7 rfl
theorem c155_10 : qx_code 155 10 = some (10, .dup, 11, 0, 0, 0) := by decide +kernel
theorem s155_10r {L : Nat} {xs : Nat → Int32} {d x : Nat} {M : qxM} {st : List Value} {ls : qxL} {z : Nat} : Rs L xs (d) 155 10 ls (.ref z :: st) M x = Rs L xs (d) 155 11 ls (.ref z :: .ref z :: st) M x := Rs_next c155_10 rfl
theorem s155_10i {L : Nat} {xs : Nat → Int32} {d x : Nat} {M : qxM} {st : List Value} {ls : qxL} {z : Int32} : Rs L xs (d) 155 10 ls (.int z :: st) M x = Rs L xs (d) 155 11 ls (.int z :: .int z :: st) M x := Rs_next c155_10 rfl
theorem c155_11 : qx_code 155 11 = some (11, .ldc_w 400, 14, 18, 1, 0) := by decide +kernel
theorem c155_14 : qx_code 155 14 = some (14, .invokespecial 402, 17, 9999, 2, 742) := by decide +kernel
theorem c155_17 : qx_code 155 17 = some (17, .athrow, 18, 0, 0, 0) := by decide +kernel
theorem c155_18 : qx_code 155 18 = some (18, .aload_n 0, 19, 0, 0, 0) := by decide +kernel
theorem s155_18 {L : Nat} {xs : Nat → Int32} {d x : Nat} {M : qxM} {st : List Value} {z : Nat} : Rs L xs (d) 155 18 [some (.ref z)] st M x = Rs L xs (d) 155 19 [some (.ref z)] (.ref z :: st) M x := Rs_next c155_18 rfl
theorem c155_19 : qx_code 155 19 = some (19, .aload_n 0, 20, 0, 0, 0) := by decide +kernel
theorem s155_19 {L : Nat} {xs : Nat → Int32} {d x : Nat} {M : qxM} {st : List Value} {z : Nat} : Rs L xs (d) 155 19 [some (.ref z)] st M x = Rs L xs (d) 155 20 [some (.ref z)] (.ref z :: st) M x := Rs_next c155_19 rfl
theorem c155_20 : qx_code 155 20 = some (20, .getfield 403, 23, 7, 7, 388) := by decide +kernel
theorem s155_20 {L : Nat} {xs : Nat → Int32} {d x : Nat} {M : qxM} {st : List Value} {ls : qxL} {t : Nat} (hk : qx_kd t = 17) : Rs L xs (d) 155 20 ls (.ref t :: st) M x = Rs L xs (d) 155 23 ls (.int (M.1 t 7) :: st) M x := Rs_when (qx_kd_obj (k := 7) (by decide) hk) c155_20 rfl
theorem c155_23 : qx_code 155 23 = some (23, .ifCond .le 12, 26, 35, 0, 0) := by decide +kernel
theorem s155_23 {L : Nat} {xs : Nat → Int32} {d x : Nat} {M : qxM} {st : List Value} {ls : qxL} {z : Int32} : Rs L xs (d) 155 23 ls (.int z :: st) M x = if z ≤ 0 then Rs L xs (d) 155 35 ls st M x else Rs L xs (d) 155 26 ls st M x := Rs_ite c155_23 rfl
theorem c155_26 : qx_code 155 26 = some (26, .aload_n 0, 27, 0, 0, 0) := by decide +kernel
theorem s155_26 {L : Nat} {xs : Nat → Int32} {d x : Nat} {M : qxM} {st : List Value} {z : Nat} : Rs L xs (d) 155 26 [some (.ref z)] st M x = Rs L xs (d) 155 27 [some (.ref z)] (.ref z :: st) M x := Rs_next c155_26 rfl
theorem c155_27 : qx_code 155 27 = some (27, .getfield 403, 30, 7, 7, 388) := by decide +kernel
theorem s155_27 {L : Nat} {xs : Nat → Int32} {d x : Nat} {M : qxM} {st : List Value} {ls : qxL} {t : Nat} (hk : qx_kd t = 17) : Rs L xs (d) 155 27 ls (.ref t :: st) M x = Rs L xs (d) 155 30 ls (.int (M.1 t 7) :: st) M x := Rs_when (qx_kd_obj (k := 7) (by decide) hk) c155_27 rfl
theorem c155_30 : qx_code 155 30 = some (30, .iconst 1, 31, 0, 0, 0) := by decide +kernel
theorem s155_30 {L : Nat} {xs : Nat → Int32} {d x : Nat} {M : qxM} {st : List Value} {ls : qxL} : Rs L xs (d) 155 30 ls st M x = Rs L xs (d) 155 31 ls (.int (nI 1) :: st) M x := Rs_next c155_30 rfl
theorem c155_31 : qx_code 155 31 = some (31, .isub, 32, 0, 0, 0) := by decide +kernel
theorem s155_31 {L : Nat} {xs : Nat → Int32} {d x : Nat} {M : qxM} {st : List Value} {ls : qxL} {z y : Int32} : Rs L xs (d) 155 31 ls (.int y :: .int z :: st) M x = Rs L xs (d) 155 32 ls (.int (z - y) :: st) M x := Rs_next c155_31 rfl
theorem c155_32 : qx_code 155 32 = some (32, .goto 5, 35, 37, 0, 0) := by decide +kernel
theorem s155_32 {L : Nat} {xs : Nat → Int32} {d x : Nat} {M : qxM} {st : List Value} {ls : qxL} : Rs L xs (d) 155 32 ls st M x = Rs L xs (d) 155 37 ls st M x := Rs_next c155_32 rfl
theorem c155_35 : qx_code 155 35 = some (35, .bipush 7, 37, 0, 0, 0) := by decide +kernel
theorem s155_35 {L : Nat} {xs : Nat → Int32} {d x : Nat} {M : qxM} {st : List Value} {ls : qxL} : Rs L xs (d) 155 35 ls st M x = Rs L xs (d) 155 37 ls (.int (nI 7) :: st) M x := Rs_next c155_35 rfl
theorem c155_37 : qx_code 155 37 = some (37, .putfield 403, 40, 7, 7, 388) := by decide +kernel
theorem s155_37 {L : Nat} {xs : Nat → Int32} {d x : Nat} {M : qxM} {st : List Value} {ls : qxL} {t : Nat} {z : Int32} (hk : qx_kd t = 17) : Rs L xs (d) 155 37 ls (.int z :: .ref t :: st) M x = Rs L xs (d) 155 40 ls st (qx_up M t 7 z) x := Rs_when (cnd := qx_sh t = some (.inl 7) ∧ qx_fo 7 7 = none ∧ (qx_bf 7 7 = true → z = 0 ∨ z = 1)) ⟨qx_kd_obj (k := 7) (by decide) hk, rfl, fun h => nomatch h⟩ c155_37 rfl
theorem c155_40 : qx_code 155 40 = some (40, .aload_n 0, 41, 0, 0, 0) := by decide +kernel
theorem s155_40 {L : Nat} {xs : Nat → Int32} {d x : Nat} {M : qxM} {st : List Value} {z : Nat} : Rs L xs (d) 155 40 [some (.ref z)] st M x = Rs L xs (d) 155 41 [some (.ref z)] (.ref z :: st) M x := Rs_next c155_40 rfl
theorem c155_41 : qx_code 155 41 = some (41, .dup, 42, 0, 0, 0) := by decide +kernel
theorem s155_41r {L : Nat} {xs : Nat → Int32} {d x : Nat} {M : qxM} {st : List Value} {ls : qxL} {z : Nat} : Rs L xs (d) 155 41 ls (.ref z :: st) M x = Rs L xs (d) 155 42 ls (.ref z :: .ref z :: st) M x := Rs_next c155_41 rfl
theorem s155_41i {L : Nat} {xs : Nat → Int32} {d x : Nat} {M : qxM} {st : List Value} {ls : qxL} {z : Int32} : Rs L xs (d) 155 41 ls (.int z :: st) M x = Rs L xs (d) 155 42 ls (.int z :: .int z :: st) M x := Rs_next c155_41 rfl
theorem c155_42 : qx_code 155 42 = some (42, .getfield 87, 45, 7, 8, 389) := by decide +kernel
theorem s155_42 {L : Nat} {xs : Nat → Int32} {d x : Nat} {M : qxM} {st : List Value} {ls : qxL} {t : Nat} (hk : qx_kd t = 17) : Rs L xs (d) 155 42 ls (.ref t :: st) M x = Rs L xs (d) 155 45 ls (.int (M.1 t 8) :: st) M x := Rs_when (qx_kd_obj (k := 7) (by decide) hk) c155_42 rfl
theorem c155_45 : qx_code 155 45 = some (45, .iconst 1, 46, 0, 0, 0) := by decide +kernel
theorem s155_45 {L : Nat} {xs : Nat → Int32} {d x : Nat} {M : qxM} {st : List Value} {ls : qxL} : Rs L xs (d) 155 45 ls st M x = Rs L xs (d) 155 46 ls (.int (nI 1) :: st) M x := Rs_next c155_45 rfl
theorem c155_46 : qx_code 155 46 = some (46, .isub, 47, 0, 0, 0) := by decide +kernel
theorem s155_46 {L : Nat} {xs : Nat → Int32} {d x : Nat} {M : qxM} {st : List Value} {ls : qxL} {z y : Int32} : Rs L xs (d) 155 46 ls (.int y :: .int z :: st) M x = Rs L xs (d) 155 47 ls (.int (z - y) :: st) M x := Rs_next c155_46 rfl
theorem c155_47 : qx_code 155 47 = some (47, .putfield 87, 50, 7, 8, 389) := by decide +kernel
theorem s155_47 {L : Nat} {xs : Nat → Int32} {d x : Nat} {M : qxM} {st : List Value} {ls : qxL} {t : Nat} {z : Int32} (hk : qx_kd t = 17) : Rs L xs (d) 155 47 ls (.int z :: .ref t :: st) M x = Rs L xs (d) 155 50 ls st (qx_up M t 8 z) x := Rs_when (cnd := qx_sh t = some (.inl 7) ∧ qx_fo 7 8 = none ∧ (qx_bf 7 8 = true → z = 0 ∨ z = 1)) ⟨qx_kd_obj (k := 7) (by decide) hk, rfl, fun h => nomatch h⟩ c155_47 rfl
theorem c155_50 : qx_code 155 50 = some (50, .aload_n 0, 51, 0, 0, 0) := by decide +kernel
theorem s155_50 {L : Nat} {xs : Nat → Int32} {d x : Nat} {M : qxM} {st : List Value} {z : Nat} : Rs L xs (d) 155 50 [some (.ref z)] st M x = Rs L xs (d) 155 51 [some (.ref z)] (.ref z :: st) M x := Rs_next c155_50 rfl
theorem c155_51 : qx_code 155 51 = some (51, .getfield 33, 54, 7, 3, 384) := by decide +kernel
theorem s155_51 {L : Nat} {xs : Nat → Int32} {d x : Nat} {M : qxM} {st : List Value} {ls : qxL} {t : Nat} (hk : qx_kd t = 17) : Rs L xs (d) 155 51 ls (.ref t :: st) M x = Rs L xs (d) 155 54 ls (.ref (t + 90) :: st) M x := Rs_when (qx_kd_obj (k := 7) (by decide) hk) c155_51 rfl
theorem c155_54 : qx_code 155 54 = some (54, .aload_n 0, 55, 0, 0, 0) := by decide +kernel
theorem s155_54 {L : Nat} {xs : Nat → Int32} {d x : Nat} {M : qxM} {st : List Value} {z : Nat} : Rs L xs (d) 155 54 [some (.ref z)] st M x = Rs L xs (d) 155 55 [some (.ref z)] (.ref z :: st) M x := Rs_next c155_54 rfl
theorem c155_55 : qx_code 155 55 = some (55, .aload_n 0, 56, 0, 0, 0) := by decide +kernel
theorem s155_55 {L : Nat} {xs : Nat → Int32} {d x : Nat} {M : qxM} {st : List Value} {z : Nat} : Rs L xs (d) 155 55 [some (.ref z)] st M x = Rs L xs (d) 155 56 [some (.ref z)] (.ref z :: st) M x := Rs_next c155_55 rfl
theorem c155_56 : qx_code 155 56 = some (56, .getfield 40, 59, 7, 5, 386) := by decide +kernel
theorem s155_56 {L : Nat} {xs : Nat → Int32} {d x : Nat} {M : qxM} {st : List Value} {ls : qxL} {t : Nat} (hk : qx_kd t = 17) : Rs L xs (d) 155 56 ls (.ref t :: st) M x = Rs L xs (d) 155 59 ls (.ref (t + 40) :: st) M x := Rs_when (qx_kd_obj (k := 7) (by decide) hk) c155_56 rfl
theorem c155_59 : qx_code 155 59 = some (59, .aload_n 0, 60, 0, 0, 0) := by decide +kernel
theorem s155_59 {L : Nat} {xs : Nat → Int32} {d x : Nat} {M : qxM} {st : List Value} {z : Nat} : Rs L xs (d) 155 59 [some (.ref z)] st M x = Rs L xs (d) 155 60 [some (.ref z)] (.ref z :: st) M x := Rs_next c155_59 rfl
theorem c155_60 : qx_code 155 60 = some (60, .getfield 403, 63, 7, 7, 388) := by decide +kernel
theorem s155_60 {L : Nat} {xs : Nat → Int32} {d x : Nat} {M : qxM} {st : List Value} {ls : qxL} {t : Nat} (hk : qx_kd t = 17) : Rs L xs (d) 155 60 ls (.ref t :: st) M x = Rs L xs (d) 155 63 ls (.int (M.1 t 7) :: st) M x := Rs_when (qx_kd_obj (k := 7) (by decide) hk) c155_60 rfl
theorem c155_63 : qx_code 155 63 = some (63, .invokevirtual 406, 66, 167, 3, 1409) := by decide +kernel
theorem s155_63 {L : Nat} {xs : Nat → Int32} {d x : Nat} {M : qxM} {st : List Value} {ls : qxL} {t : Nat} {z0 : Nat} {z1 : Int32} (hk : qx_kd t = 17) (hs : st.length ≤ 4) : Rs L xs (d + 1) 155 63 ls (.int z1 :: .ref z0 :: .ref t :: st) M x = (Rs L xs d 167 0 [some (.ref t), some (.ref z0), some (.int z1), none] [] M 0).bind (qx_kn L xs (d + 1) 155 63 66 167 ls st x) := by
  have h1 : qx_act L xs (qx_rt 155) (63, .invokevirtual 406, 66, 167, 3, 1409) ls (.int z1 :: .ref z0 :: .ref t :: st) M = if 3 ≤ (.int z1 :: .ref z0 :: .ref t :: st).length ∧ st.length ≤ 4 then some (.inr (.inr (.inr (167, [.ref t, .ref z0, .int z1], st)))) else none := rfl
  rw [if_pos ⟨by simp [List.length_cons]; try omega, hs⟩] at h1
  have h2 := qx_kd_obj (k := 7) (by decide) hk
  exact Rs_call c155_63 h1 (by rw [show qx_args 167 [.ref t, .ref z0, .int z1] = decide (qx_sh t = some (.inl 7)) from rfl]; exact decide_eq_true h2)
theorem c155_66 : qx_code 155 66 = some (66, .invokevirtual 410, 69, 74, 2, 1413) := by decide +kernel
theorem s155_66 {L : Nat} {xs : Nat → Int32} {d x : Nat} {M : qxM} {st : List Value} {ls : qxL} {t : Nat} {z0 : Nat} (hk : qx_kd t = 14) (hs : st.length ≤ 4) : Rs L xs (d + 1) 155 66 ls (.ref z0 :: .ref t :: st) M x = (Rs L xs d 74 0 [some (.ref t), some (.ref z0)] [] M 0).bind (qx_kn L xs (d + 1) 155 66 69 74 ls st x) := by
  have h1 : qx_act L xs (qx_rt 155) (66, .invokevirtual 410, 69, 74, 2, 1413) ls (.ref z0 :: .ref t :: st) M = if 2 ≤ (.ref z0 :: .ref t :: st).length ∧ st.length ≤ 4 then some (.inr (.inr (.inr (74, [.ref t, .ref z0], st)))) else none := rfl
  rw [if_pos ⟨by simp [List.length_cons]; try omega, hs⟩] at h1
  have h2 := qx_kd_obj (k := 4) (by decide) hk
  exact Rs_call c155_66 h1 (by rw [show qx_args 74 [.ref t, .ref z0] = decide (qx_sh t = some (.inl 4)) from rfl]; exact decide_eq_true h2)
theorem c155_69 : qx_code 155 69 = some (69, .aload_n 0, 70, 0, 0, 0) := by decide +kernel
theorem s155_69 {L : Nat} {xs : Nat → Int32} {d x : Nat} {M : qxM} {st : List Value} {z : Nat} : Rs L xs (d) 155 69 [some (.ref z)] st M x = Rs L xs (d) 155 70 [some (.ref z)] (.ref z :: st) M x := Rs_next c155_69 rfl
theorem c155_70 : qx_code 155 70 = some (70, .getfield 87, 73, 7, 8, 389) := by decide +kernel
theorem s155_70 {L : Nat} {xs : Nat → Int32} {d x : Nat} {M : qxM} {st : List Value} {ls : qxL} {t : Nat} (hk : qx_kd t = 17) : Rs L xs (d) 155 70 ls (.ref t :: st) M x = Rs L xs (d) 155 73 ls (.int (M.1 t 8) :: st) M x := Rs_when (qx_kd_obj (k := 7) (by decide) hk) c155_70 rfl
theorem c155_73 : qx_code 155 73 = some (73, .ireturn, 74, 0, 0, 0) := by decide +kernel
theorem s155_73 {L : Nat} {xs : Nat → Int32} {d x : Nat} {M : qxM} {ls : qxL} {z : Int32} : Rs L xs (d) 155 73 ls [.int z] M x = some (.inl (some (.int z)), M, x) := Rs_ret c155_73 rfl
theorem c156_0 : qx_code 156 0 = some (0, .aload_n 0, 1, 0, 0, 0) := by decide +kernel
theorem s156_0 {L : Nat} {xs : Nat → Int32} {d x : Nat} {M : qxM} {st : List Value} {z : Nat} : Rs L xs (d) 156 0 [some (.ref z)] st M x = Rs L xs (d) 156 1 [some (.ref z)] (.ref z :: st) M x := Rs_next c156_0 rfl
theorem c156_1 : qx_code 156 1 = some (1, .getfield 87, 4, 7, 8, 389) := by decide +kernel
theorem s156_1 {L : Nat} {xs : Nat → Int32} {d x : Nat} {M : qxM} {st : List Value} {ls : qxL} {t : Nat} (hk : qx_kd t = 17) : Rs L xs (d) 156 1 ls (.ref t :: st) M x = Rs L xs (d) 156 4 ls (.int (M.1 t 8) :: st) M x := Rs_when (qx_kd_obj (k := 7) (by decide) hk) c156_1 rfl
theorem c156_4 : qx_code 156 4 = some (4, .ireturn, 5, 0, 0, 0) := by decide +kernel
theorem s156_4 {L : Nat} {xs : Nat → Int32} {d x : Nat} {M : qxM} {ls : qxL} {z : Int32} : Rs L xs (d) 156 4 ls [.int z] M x = some (.inl (some (.int z)), M, x) := Rs_ret c156_4 rfl
theorem c157_0 : qx_code 157 0 = some (0, .aload_n 0, 1, 0, 0, 0) := by decide +kernel
theorem s157_0 {L : Nat} {xs : Nat → Int32} {d x : Nat} {M : qxM} {st : List Value} {a1 : Option Value} {z : Nat} : Rs L xs (d) 157 0 [some (.ref z), a1] st M x = Rs L xs (d) 157 1 [some (.ref z), a1] (.ref z :: st) M x := Rs_next c157_0 rfl
theorem c157_1 : qx_code 157 1 = some (1, .invokevirtual 107, 4, 159, 1, 728) := by decide +kernel
theorem s157_1 {L : Nat} {xs : Nat → Int32} {d x : Nat} {M : qxM} {st : List Value} {ls : qxL} {t : Nat} (hk : qx_kd t = 17) (hs : st.length ≤ 4) : Rs L xs (d + 1) 157 1 ls (.ref t :: st) M x = (Rs L xs d 159 0 [some (.ref t)] [] M 0).bind (qx_kn L xs (d + 1) 157 1 4 159 ls st x) := by
  have h1 : qx_act L xs (qx_rt 157) (1, .invokevirtual 107, 4, 159, 1, 728) ls (.ref t :: st) M = if 1 ≤ (.ref t :: st).length ∧ st.length ≤ 4 then some (.inr (.inr (.inr (159, [.ref t], st)))) else none := rfl
  rw [if_pos ⟨by simp [List.length_cons]; try omega, hs⟩] at h1
  have h2 := qx_kd_obj (k := 7) (by decide) hk
  exact Rs_call c157_1 h1 (by rw [show qx_args 159 [.ref t] = decide (qx_sh t = some (.inl 7)) from rfl]; exact decide_eq_true h2)
theorem c157_4 : qx_code 157 4 = some (4, .aload_n 0, 5, 0, 0, 0) := by decide +kernel
theorem s157_4 {L : Nat} {xs : Nat → Int32} {d x : Nat} {M : qxM} {st : List Value} {a1 : Option Value} {z : Nat} : Rs L xs (d) 157 4 [some (.ref z), a1] st M x = Rs L xs (d) 157 5 [some (.ref z), a1] (.ref z :: st) M x := Rs_next c157_4 rfl
theorem c157_5 : qx_code 157 5 = some (5, .iload_n 1, 6, 0, 0, 0) := by decide +kernel
theorem s157_5 {L : Nat} {xs : Nat → Int32} {d x : Nat} {M : qxM} {st : List Value} {a0 : Option Value} {z : Int32} : Rs L xs (d) 157 5 [a0, some (.int z)] st M x = Rs L xs (d) 157 6 [a0, some (.int z)] (.int z :: st) M x := Rs_next c157_5 rfl
theorem c157_6 : qx_code 157 6 = some (6, .invokevirtual 414, 9, 164, 2, 1526) := by decide +kernel
theorem s157_6 {L : Nat} {xs : Nat → Int32} {d x : Nat} {M : qxM} {st : List Value} {ls : qxL} {t : Nat} {z0 : Int32} (hk : qx_kd t = 17) (hs : st.length ≤ 4) : Rs L xs (d + 1) 157 6 ls (.int z0 :: .ref t :: st) M x = (Rs L xs d 164 0 [some (.ref t), some (.int z0)] [] M 0).bind (qx_kn L xs (d + 1) 157 6 9 164 ls st x) := by
  have h1 : qx_act L xs (qx_rt 157) (6, .invokevirtual 414, 9, 164, 2, 1526) ls (.int z0 :: .ref t :: st) M = if 2 ≤ (.int z0 :: .ref t :: st).length ∧ st.length ≤ 4 then some (.inr (.inr (.inr (164, [.ref t, .int z0], st)))) else none := rfl
  rw [if_pos ⟨by simp [List.length_cons]; try omega, hs⟩] at h1
  have h2 := qx_kd_obj (k := 7) (by decide) hk
  exact Rs_call c157_6 h1 (by rw [show qx_args 164 [.ref t, .int z0] = decide (qx_sh t = some (.inl 7)) from rfl]; exact decide_eq_true h2)
theorem c157_9 : qx_code 157 9 = some (9, .aload_n 0, 10, 0, 0, 0) := by decide +kernel
theorem s157_9 {L : Nat} {xs : Nat → Int32} {d x : Nat} {M : qxM} {st : List Value} {a1 : Option Value} {z : Nat} : Rs L xs (d) 157 9 [some (.ref z), a1] st M x = Rs L xs (d) 157 10 [some (.ref z), a1] (.ref z :: st) M x := Rs_next c157_9 rfl
theorem c157_10 : qx_code 157 10 = some (10, .aload_n 0, 11, 0, 0, 0) := by decide +kernel
theorem s157_10 {L : Nat} {xs : Nat → Int32} {d x : Nat} {M : qxM} {st : List Value} {a1 : Option Value} {z : Nat} : Rs L xs (d) 157 10 [some (.ref z), a1] st M x = Rs L xs (d) 157 11 [some (.ref z), a1] (.ref z :: st) M x := Rs_next c157_10 rfl
theorem c157_11 : qx_code 157 11 = some (11, .getfield 44, 14, 7, 6, 387) := by decide +kernel
theorem s157_11 {L : Nat} {xs : Nat → Int32} {d x : Nat} {M : qxM} {st : List Value} {ls : qxL} {t : Nat} (hk : qx_kd t = 17) : Rs L xs (d) 157 11 ls (.ref t :: st) M x = Rs L xs (d) 157 14 ls (.ref (t + 41) :: st) M x := Rs_when (qx_kd_obj (k := 7) (by decide) hk) c157_11 rfl
theorem c157_14 : qx_code 157 14 = some (14, .iload_n 1, 15, 0, 0, 0) := by decide +kernel
theorem s157_14 {L : Nat} {xs : Nat → Int32} {d x : Nat} {M : qxM} {st : List Value} {a0 : Option Value} {z : Int32} : Rs L xs (d) 157 14 [a0, some (.int z)] st M x = Rs L xs (d) 157 15 [a0, some (.int z)] (.int z :: st) M x := Rs_next c157_14 rfl
theorem c157_15 : qx_code 157 15 = some (15, .invokevirtual 406, 18, 167, 3, 1409) := by decide +kernel
theorem s157_15 {L : Nat} {xs : Nat → Int32} {d x : Nat} {M : qxM} {st : List Value} {ls : qxL} {t : Nat} {z0 : Nat} {z1 : Int32} (hk : qx_kd t = 17) (hs : st.length ≤ 4) : Rs L xs (d + 1) 157 15 ls (.int z1 :: .ref z0 :: .ref t :: st) M x = (Rs L xs d 167 0 [some (.ref t), some (.ref z0), some (.int z1), none] [] M 0).bind (qx_kn L xs (d + 1) 157 15 18 167 ls st x) := by
  have h1 : qx_act L xs (qx_rt 157) (15, .invokevirtual 406, 18, 167, 3, 1409) ls (.int z1 :: .ref z0 :: .ref t :: st) M = if 3 ≤ (.int z1 :: .ref z0 :: .ref t :: st).length ∧ st.length ≤ 4 then some (.inr (.inr (.inr (167, [.ref t, .ref z0, .int z1], st)))) else none := rfl
  rw [if_pos ⟨by simp [List.length_cons]; try omega, hs⟩] at h1
  have h2 := qx_kd_obj (k := 7) (by decide) hk
  exact Rs_call c157_15 h1 (by rw [show qx_args 167 [.ref t, .ref z0, .int z1] = decide (qx_sh t = some (.inl 7)) from rfl]; exact decide_eq_true h2)
theorem c157_18 : qx_code 157 18 = some (18, .aload_n 0, 19, 0, 0, 0) := by decide +kernel
theorem s157_18 {L : Nat} {xs : Nat → Int32} {d x : Nat} {M : qxM} {st : List Value} {a1 : Option Value} {z : Nat} : Rs L xs (d) 157 18 [some (.ref z), a1] st M x = Rs L xs (d) 157 19 [some (.ref z), a1] (.ref z :: st) M x := Rs_next c157_18 rfl
theorem c157_19 : qx_code 157 19 = some (19, .getfield 33, 22, 7, 3, 384) := by decide +kernel
theorem s157_19 {L : Nat} {xs : Nat → Int32} {d x : Nat} {M : qxM} {st : List Value} {ls : qxL} {t : Nat} (hk : qx_kd t = 17) : Rs L xs (d) 157 19 ls (.ref t :: st) M x = Rs L xs (d) 157 22 ls (.ref (t + 90) :: st) M x := Rs_when (qx_kd_obj (k := 7) (by decide) hk) c157_19 rfl
theorem c157_22 : qx_code 157 22 = some (22, .invokevirtual 410, 25, 74, 2, 1413) := by decide +kernel
theorem s157_22 {L : Nat} {xs : Nat → Int32} {d x : Nat} {M : qxM} {st : List Value} {ls : qxL} {t : Nat} {z0 : Nat} (hk : qx_kd t = 14) (hs : st.length ≤ 4) : Rs L xs (d + 1) 157 22 ls (.ref z0 :: .ref t :: st) M x = (Rs L xs d 74 0 [some (.ref t), some (.ref z0)] [] M 0).bind (qx_kn L xs (d + 1) 157 22 25 74 ls st x) := by
  have h1 : qx_act L xs (qx_rt 157) (22, .invokevirtual 410, 25, 74, 2, 1413) ls (.ref z0 :: .ref t :: st) M = if 2 ≤ (.ref z0 :: .ref t :: st).length ∧ st.length ≤ 4 then some (.inr (.inr (.inr (74, [.ref t, .ref z0], st)))) else none := rfl
  rw [if_pos ⟨by simp [List.length_cons]; try omega, hs⟩] at h1
  have h2 := qx_kd_obj (k := 4) (by decide) hk
  exact Rs_call c157_22 h1 (by rw [show qx_args 74 [.ref t, .ref z0] = decide (qx_sh t = some (.inl 4)) from rfl]; exact decide_eq_true h2)
theorem c157_25 : qx_code 157 25 = some (25, .aload_n 0, 26, 0, 0, 0) := by decide +kernel
theorem s157_25 {L : Nat} {xs : Nat → Int32} {d x : Nat} {M : qxM} {st : List Value} {a1 : Option Value} {z : Nat} : Rs L xs (d) 157 25 [some (.ref z), a1] st M x = Rs L xs (d) 157 26 [some (.ref z), a1] (.ref z :: st) M x := Rs_next c157_25 rfl
theorem c157_26 : qx_code 157 26 = some (26, .dup, 27, 0, 0, 0) := by decide +kernel
theorem s157_26r {L : Nat} {xs : Nat → Int32} {d x : Nat} {M : qxM} {st : List Value} {ls : qxL} {z : Nat} : Rs L xs (d) 157 26 ls (.ref z :: st) M x = Rs L xs (d) 157 27 ls (.ref z :: .ref z :: st) M x := Rs_next c157_26 rfl
theorem s157_26i {L : Nat} {xs : Nat → Int32} {d x : Nat} {M : qxM} {st : List Value} {ls : qxL} {z : Int32} : Rs L xs (d) 157 26 ls (.int z :: st) M x = Rs L xs (d) 157 27 ls (.int z :: .int z :: st) M x := Rs_next c157_26 rfl
theorem c157_27 : qx_code 157 27 = some (27, .getfield 90, 30, 7, 9, 390) := by decide +kernel
theorem s157_27 {L : Nat} {xs : Nat → Int32} {d x : Nat} {M : qxM} {st : List Value} {ls : qxL} {t : Nat} (hk : qx_kd t = 17) : Rs L xs (d) 157 27 ls (.ref t :: st) M x = Rs L xs (d) 157 30 ls (.int (M.1 t 9) :: st) M x := Rs_when (qx_kd_obj (k := 7) (by decide) hk) c157_27 rfl
theorem c157_30 : qx_code 157 30 = some (30, .iload_n 1, 31, 0, 0, 0) := by decide +kernel
theorem s157_30 {L : Nat} {xs : Nat → Int32} {d x : Nat} {M : qxM} {st : List Value} {a0 : Option Value} {z : Int32} : Rs L xs (d) 157 30 [a0, some (.int z)] st M x = Rs L xs (d) 157 31 [a0, some (.int z)] (.int z :: st) M x := Rs_next c157_30 rfl
theorem c157_31 : qx_code 157 31 = some (31, .invokestatic 306, 34, 169, 1, 864) := by decide +kernel
theorem s157_31 {L : Nat} {xs : Nat → Int32} {d x : Nat} {M : qxM} {st : List Value} {ls : qxL} {z0 : Int32} (hs : st.length ≤ 4) : Rs L xs (d + 1) 157 31 ls (.int z0 :: st) M x = (Rs L xs d 169 0 [some (.int z0)] [] M 0).bind (qx_kn L xs (d + 1) 157 31 34 169 ls st x) := by
  have h1 : qx_act L xs (qx_rt 157) (31, .invokestatic 306, 34, 169, 1, 864) ls (.int z0 :: st) M = if 1 ≤ (.int z0 :: st).length ∧ st.length ≤ 4 then some (.inr (.inr (.inr (169, [.int z0], st)))) else none := rfl
  rw [if_pos ⟨by simp [List.length_cons]; try omega, hs⟩] at h1
  exact Rs_call c157_31 h1 rfl
theorem c157_34 : qx_code 157 34 = some (34, .ior, 35, 0, 0, 0) := by decide +kernel
theorem s157_34 {L : Nat} {xs : Nat → Int32} {d x : Nat} {M : qxM} {st : List Value} {ls : qxL} {z y : Int32} : Rs L xs (d) 157 34 ls (.int y :: .int z :: st) M x = Rs L xs (d) 157 35 ls (.int (z ||| y) :: st) M x := Rs_next c157_34 rfl
theorem c157_35 : qx_code 157 35 = some (35, .putfield 90, 38, 7, 9, 390) := by decide +kernel
theorem s157_35 {L : Nat} {xs : Nat → Int32} {d x : Nat} {M : qxM} {st : List Value} {ls : qxL} {t : Nat} {z : Int32} (hk : qx_kd t = 17) : Rs L xs (d) 157 35 ls (.int z :: .ref t :: st) M x = Rs L xs (d) 157 38 ls st (qx_up M t 9 z) x := Rs_when (cnd := qx_sh t = some (.inl 7) ∧ qx_fo 7 9 = none ∧ (qx_bf 7 9 = true → z = 0 ∨ z = 1)) ⟨qx_kd_obj (k := 7) (by decide) hk, rfl, fun h => nomatch h⟩ c157_35 rfl
theorem c157_38 : qx_code 157 38 = some (38, .aload_n 0, 39, 0, 0, 0) := by decide +kernel
theorem s157_38 {L : Nat} {xs : Nat → Int32} {d x : Nat} {M : qxM} {st : List Value} {a1 : Option Value} {z : Nat} : Rs L xs (d) 157 38 [some (.ref z), a1] st M x = Rs L xs (d) 157 39 [some (.ref z), a1] (.ref z :: st) M x := Rs_next c157_38 rfl
theorem c157_39 : qx_code 157 39 = some (39, .getfield 33, 42, 7, 3, 384) := by decide +kernel
theorem s157_39 {L : Nat} {xs : Nat → Int32} {d x : Nat} {M : qxM} {st : List Value} {ls : qxL} {t : Nat} (hk : qx_kd t = 17) : Rs L xs (d) 157 39 ls (.ref t :: st) M x = Rs L xs (d) 157 42 ls (.ref (t + 90) :: st) M x := Rs_when (qx_kd_obj (k := 7) (by decide) hk) c157_39 rfl
theorem c157_42 : qx_code 157 42 = some (42, .getfield 93, 45, 4, 0, 356) := by decide +kernel
theorem s157_42 {L : Nat} {xs : Nat → Int32} {d x : Nat} {M : qxM} {st : List Value} {ls : qxL} {t : Nat} (hk : qx_kd t = 14) : Rs L xs (d) 157 42 ls (.ref t :: st) M x = Rs L xs (d) 157 45 ls (.ref (t + 1) :: st) M x := Rs_when (qx_kd_obj (k := 4) (by decide) hk) c157_42 rfl
theorem c157_45 : qx_code 157 45 = some (45, .invokevirtual 121, 48, 48, 1, 767) := by decide +kernel
theorem s157_45 {L : Nat} {xs : Nat → Int32} {d x : Nat} {M : qxM} {st : List Value} {ls : qxL} {t : Nat} (hk : qx_kd t = 12) (hs : st.length ≤ 4) : Rs L xs (d + 1) 157 45 ls (.ref t :: st) M x = (Rs L xs d 48 0 [some (.ref t), none, none] [] M 0).bind (qx_kn L xs (d + 1) 157 45 48 48 ls st x) := by
  have h1 : qx_act L xs (qx_rt 157) (45, .invokevirtual 121, 48, 48, 1, 767) ls (.ref t :: st) M = if 1 ≤ (.ref t :: st).length ∧ st.length ≤ 4 then some (.inr (.inr (.inr (48, [.ref t], st)))) else none := rfl
  rw [if_pos ⟨by simp [List.length_cons]; try omega, hs⟩] at h1
  have h2 := qx_kd_obj (k := 2) (by decide) hk
  exact Rs_call c157_45 h1 (by rw [show qx_args 48 [.ref t] = decide (qx_sh t = some (.inl 2)) from rfl]; exact decide_eq_true h2)
theorem c157_48 : qx_code 157 48 = some (48, .ireturn, 49, 0, 0, 0) := by decide +kernel
theorem s157_48 {L : Nat} {xs : Nat → Int32} {d x : Nat} {M : qxM} {ls : qxL} {z : Int32} : Rs L xs (d) 157 48 ls [.int z] M x = some (.inl (some (.int z)), M, x) := Rs_ret c157_48 rfl
theorem c158_0 : qx_code 158 0 = some (0, .aload_n 0, 1, 0, 0, 0) := by decide +kernel
theorem s158_0 {L : Nat} {xs : Nat → Int32} {d x : Nat} {M : qxM} {st : List Value} {a1 : Option Value} {z : Nat} : Rs L xs (d) 158 0 [some (.ref z), a1] st M x = Rs L xs (d) 158 1 [some (.ref z), a1] (.ref z :: st) M x := Rs_next c158_0 rfl
theorem c158_1 : qx_code 158 1 = some (1, .iload_n 1, 2, 0, 0, 0) := by decide +kernel
theorem s158_1 {L : Nat} {xs : Nat → Int32} {d x : Nat} {M : qxM} {st : List Value} {a0 : Option Value} {z : Int32} : Rs L xs (d) 158 1 [a0, some (.int z)] st M x = Rs L xs (d) 158 2 [a0, some (.int z)] (.int z :: st) M x := Rs_next c158_1 rfl
theorem c158_2 : qx_code 158 2 = some (2, .invokevirtual 414, 5, 164, 2, 1526) := by decide +kernel
theorem s158_2 {L : Nat} {xs : Nat → Int32} {d x : Nat} {M : qxM} {st : List Value} {ls : qxL} {t : Nat} {z0 : Int32} (hk : qx_kd t = 17) (hs : st.length ≤ 4) : Rs L xs (d + 1) 158 2 ls (.int z0 :: .ref t :: st) M x = (Rs L xs d 164 0 [some (.ref t), some (.int z0)] [] M 0).bind (qx_kn L xs (d + 1) 158 2 5 164 ls st x) := by
  have h1 : qx_act L xs (qx_rt 158) (2, .invokevirtual 414, 5, 164, 2, 1526) ls (.int z0 :: .ref t :: st) M = if 2 ≤ (.int z0 :: .ref t :: st).length ∧ st.length ≤ 4 then some (.inr (.inr (.inr (164, [.ref t, .int z0], st)))) else none := rfl
  rw [if_pos ⟨by simp [List.length_cons]; try omega, hs⟩] at h1
  have h2 := qx_kd_obj (k := 7) (by decide) hk
  exact Rs_call c158_2 h1 (by rw [show qx_args 164 [.ref t, .int z0] = decide (qx_sh t = some (.inl 7)) from rfl]; exact decide_eq_true h2)
theorem c158_5 : qx_code 158 5 = some (5, .aload_n 0, 6, 0, 0, 0) := by decide +kernel
theorem s158_5 {L : Nat} {xs : Nat → Int32} {d x : Nat} {M : qxM} {st : List Value} {a1 : Option Value} {z : Nat} : Rs L xs (d) 158 5 [some (.ref z), a1] st M x = Rs L xs (d) 158 6 [some (.ref z), a1] (.ref z :: st) M x := Rs_next c158_5 rfl
theorem c158_6 : qx_code 158 6 = some (6, .getfield 90, 9, 7, 9, 390) := by decide +kernel
theorem s158_6 {L : Nat} {xs : Nat → Int32} {d x : Nat} {M : qxM} {st : List Value} {ls : qxL} {t : Nat} (hk : qx_kd t = 17) : Rs L xs (d) 158 6 ls (.ref t :: st) M x = Rs L xs (d) 158 9 ls (.int (M.1 t 9) :: st) M x := Rs_when (qx_kd_obj (k := 7) (by decide) hk) c158_6 rfl
theorem c158_9 : qx_code 158 9 = some (9, .iload_n 1, 10, 0, 0, 0) := by decide +kernel
theorem s158_9 {L : Nat} {xs : Nat → Int32} {d x : Nat} {M : qxM} {st : List Value} {a0 : Option Value} {z : Int32} : Rs L xs (d) 158 9 [a0, some (.int z)] st M x = Rs L xs (d) 158 10 [a0, some (.int z)] (.int z :: st) M x := Rs_next c158_9 rfl
theorem c158_10 : qx_code 158 10 = some (10, .invokestatic 166, 13, 170, 2, 803) := by decide +kernel
theorem s158_10 {L : Nat} {xs : Nat → Int32} {d x : Nat} {M : qxM} {st : List Value} {ls : qxL} {z0 : Int32} {z1 : Int32} (hs : st.length ≤ 4) : Rs L xs (d + 1) 158 10 ls (.int z1 :: .int z0 :: st) M x = (Rs L xs d 170 0 [some (.int z0), some (.int z1)] [] M 0).bind (qx_kn L xs (d + 1) 158 10 13 170 ls st x) := by
  have h1 : qx_act L xs (qx_rt 158) (10, .invokestatic 166, 13, 170, 2, 803) ls (.int z1 :: .int z0 :: st) M = if 2 ≤ (.int z1 :: .int z0 :: st).length ∧ st.length ≤ 4 then some (.inr (.inr (.inr (170, [.int z0, .int z1], st)))) else none := rfl
  rw [if_pos ⟨by simp [List.length_cons]; try omega, hs⟩] at h1
  exact Rs_call c158_10 h1 rfl
theorem c158_13 : qx_code 158 13 = some (13, .ifCond .ne 14, 16, 27, 0, 0) := by decide +kernel
theorem s158_13 {L : Nat} {xs : Nat → Int32} {d x : Nat} {M : qxM} {st : List Value} {ls : qxL} {z : Int32} : Rs L xs (d) 158 13 ls (.int z :: st) M x = if z = 0 then Rs L xs (d) 158 16 ls st M x else Rs L xs (d) 158 27 ls st M x := Rs_ite c158_13 rfl
theorem c158_16 : qx_code 158 16 = some (16, .new 398, 19, 0, 20, 7420732) := by decide +kernel
theorem s158_16 {L : Nat} {xs : Nat → Int32} {d x : Nat} {M : qxM} {ls : qxL} : Rs L xs (d) 158 16 ls [] M x = some (.inr (qx_ex 0), M, x + 1) := Rs_thr rfl c158_16 rfl
theorem c158_19 : qx_code 158 19 = some (19, .dup, 20, 0, 0, 0) := by decide +kernel
theorem s158_19r {L : Nat} {xs : Nat → Int32} {d x : Nat} {M : qxM} {st : List Value} {ls : qxL} {z : Nat} : Rs L xs (d) 158 19 ls (.ref z :: st) M x = Rs L xs (d) 158 20 ls (.ref z :: .ref z :: st) M x := Rs_next c158_19 rfl
theorem s158_19i {L : Nat} {xs : Nat → Int32} {d x : Nat} {M : qxM} {st : List Value} {ls : qxL} {z : Int32} : Rs L xs (d) 158 19 ls (.int z :: st) M x = Rs L xs (d) 158 20 ls (.int z :: .int z :: st) M x := Rs_next c158_19 rfl
theorem c158_20 : qx_code 158 20 = some (20, .ldc_w 417, 23, 20, 1, 0) := by decide +kernel
theorem c158_23 : qx_code 158 23 = some (23, .invokespecial 402, 26, 9999, 2, 742) := by decide +kernel
theorem c158_26 : qx_code 158 26 = some (26, .athrow, 27, 0, 0, 0) := by decide +kernel
theorem c158_27 : qx_code 158 27 = some (27, .aload_n 0, 28, 0, 0, 0) := by decide +kernel
theorem s158_27 {L : Nat} {xs : Nat → Int32} {d x : Nat} {M : qxM} {st : List Value} {a1 : Option Value} {z : Nat} : Rs L xs (d) 158 27 [some (.ref z), a1] st M x = Rs L xs (d) 158 28 [some (.ref z), a1] (.ref z :: st) M x := Rs_next c158_27 rfl
theorem c158_28 : qx_code 158 28 = some (28, .getfield 33, 31, 7, 3, 384) := by decide +kernel
theorem s158_28 {L : Nat} {xs : Nat → Int32} {d x : Nat} {M : qxM} {st : List Value} {ls : qxL} {t : Nat} (hk : qx_kd t = 17) : Rs L xs (d) 158 28 ls (.ref t :: st) M x = Rs L xs (d) 158 31 ls (.ref (t + 90) :: st) M x := Rs_when (qx_kd_obj (k := 7) (by decide) hk) c158_28 rfl
theorem c158_31 : qx_code 158 31 = some (31, .aload_n 0, 32, 0, 0, 0) := by decide +kernel
theorem s158_31 {L : Nat} {xs : Nat → Int32} {d x : Nat} {M : qxM} {st : List Value} {a1 : Option Value} {z : Nat} : Rs L xs (d) 158 31 [some (.ref z), a1] st M x = Rs L xs (d) 158 32 [some (.ref z), a1] (.ref z :: st) M x := Rs_next c158_31 rfl
theorem c158_32 : qx_code 158 32 = some (32, .aload_n 0, 33, 0, 0, 0) := by decide +kernel
theorem s158_32 {L : Nat} {xs : Nat → Int32} {d x : Nat} {M : qxM} {st : List Value} {a1 : Option Value} {z : Nat} : Rs L xs (d) 158 32 [some (.ref z), a1] st M x = Rs L xs (d) 158 33 [some (.ref z), a1] (.ref z :: st) M x := Rs_next c158_32 rfl
theorem c158_33 : qx_code 158 33 = some (33, .getfield 44, 36, 7, 6, 387) := by decide +kernel
theorem s158_33 {L : Nat} {xs : Nat → Int32} {d x : Nat} {M : qxM} {st : List Value} {ls : qxL} {t : Nat} (hk : qx_kd t = 17) : Rs L xs (d) 158 33 ls (.ref t :: st) M x = Rs L xs (d) 158 36 ls (.ref (t + 41) :: st) M x := Rs_when (qx_kd_obj (k := 7) (by decide) hk) c158_33 rfl
theorem c158_36 : qx_code 158 36 = some (36, .iload_n 1, 37, 0, 0, 0) := by decide +kernel
theorem s158_36 {L : Nat} {xs : Nat → Int32} {d x : Nat} {M : qxM} {st : List Value} {a0 : Option Value} {z : Int32} : Rs L xs (d) 158 36 [a0, some (.int z)] st M x = Rs L xs (d) 158 37 [a0, some (.int z)] (.int z :: st) M x := Rs_next c158_36 rfl
theorem c158_37 : qx_code 158 37 = some (37, .invokevirtual 406, 40, 167, 3, 1409) := by decide +kernel
theorem s158_37 {L : Nat} {xs : Nat → Int32} {d x : Nat} {M : qxM} {st : List Value} {ls : qxL} {t : Nat} {z0 : Nat} {z1 : Int32} (hk : qx_kd t = 17) (hs : st.length ≤ 4) : Rs L xs (d + 1) 158 37 ls (.int z1 :: .ref z0 :: .ref t :: st) M x = (Rs L xs d 167 0 [some (.ref t), some (.ref z0), some (.int z1), none] [] M 0).bind (qx_kn L xs (d + 1) 158 37 40 167 ls st x) := by
  have h1 : qx_act L xs (qx_rt 158) (37, .invokevirtual 406, 40, 167, 3, 1409) ls (.int z1 :: .ref z0 :: .ref t :: st) M = if 3 ≤ (.int z1 :: .ref z0 :: .ref t :: st).length ∧ st.length ≤ 4 then some (.inr (.inr (.inr (167, [.ref t, .ref z0, .int z1], st)))) else none := rfl
  rw [if_pos ⟨by simp [List.length_cons]; try omega, hs⟩] at h1
  have h2 := qx_kd_obj (k := 7) (by decide) hk
  exact Rs_call c158_37 h1 (by rw [show qx_args 167 [.ref t, .ref z0, .int z1] = decide (qx_sh t = some (.inl 7)) from rfl]; exact decide_eq_true h2)
theorem c158_40 : qx_code 158 40 = some (40, .invokevirtual 410, 43, 74, 2, 1413) := by decide +kernel
theorem s158_40 {L : Nat} {xs : Nat → Int32} {d x : Nat} {M : qxM} {st : List Value} {ls : qxL} {t : Nat} {z0 : Nat} (hk : qx_kd t = 14) (hs : st.length ≤ 4) : Rs L xs (d + 1) 158 40 ls (.ref z0 :: .ref t :: st) M x = (Rs L xs d 74 0 [some (.ref t), some (.ref z0)] [] M 0).bind (qx_kn L xs (d + 1) 158 40 43 74 ls st x) := by
  have h1 : qx_act L xs (qx_rt 158) (40, .invokevirtual 410, 43, 74, 2, 1413) ls (.ref z0 :: .ref t :: st) M = if 2 ≤ (.ref z0 :: .ref t :: st).length ∧ st.length ≤ 4 then some (.inr (.inr (.inr (74, [.ref t, .ref z0], st)))) else none := rfl
  rw [if_pos ⟨by simp [List.length_cons]; try omega, hs⟩] at h1
  have h2 := qx_kd_obj (k := 4) (by decide) hk
  exact Rs_call c158_40 h1 (by rw [show qx_args 74 [.ref t, .ref z0] = decide (qx_sh t = some (.inl 4)) from rfl]; exact decide_eq_true h2)
theorem c158_43 : qx_code 158 43 = some (43, .aload_n 0, 44, 0, 0, 0) := by decide +kernel
theorem s158_43 {L : Nat} {xs : Nat → Int32} {d x : Nat} {M : qxM} {st : List Value} {a1 : Option Value} {z : Nat} : Rs L xs (d) 158 43 [some (.ref z), a1] st M x = Rs L xs (d) 158 44 [some (.ref z), a1] (.ref z :: st) M x := Rs_next c158_43 rfl
theorem c158_44 : qx_code 158 44 = some (44, .iconst 0, 45, 0, 0, 0) := by decide +kernel
theorem s158_44 {L : Nat} {xs : Nat → Int32} {d x : Nat} {M : qxM} {st : List Value} {ls : qxL} : Rs L xs (d) 158 44 ls st M x = Rs L xs (d) 158 45 ls (.int (nI 0) :: st) M x := Rs_next c158_44 rfl
theorem c158_45 : qx_code 158 45 = some (45, .putfield 87, 48, 7, 8, 389) := by decide +kernel
theorem s158_45 {L : Nat} {xs : Nat → Int32} {d x : Nat} {M : qxM} {st : List Value} {ls : qxL} {t : Nat} {z : Int32} (hk : qx_kd t = 17) : Rs L xs (d) 158 45 ls (.int z :: .ref t :: st) M x = Rs L xs (d) 158 48 ls st (qx_up M t 8 z) x := Rs_when (cnd := qx_sh t = some (.inl 7) ∧ qx_fo 7 8 = none ∧ (qx_bf 7 8 = true → z = 0 ∨ z = 1)) ⟨qx_kd_obj (k := 7) (by decide) hk, rfl, fun h => nomatch h⟩ c158_45 rfl
theorem c158_48 : qx_code 158 48 = some (48, .aload_n 0, 49, 0, 0, 0) := by decide +kernel
theorem s158_48 {L : Nat} {xs : Nat → Int32} {d x : Nat} {M : qxM} {st : List Value} {a1 : Option Value} {z : Nat} : Rs L xs (d) 158 48 [some (.ref z), a1] st M x = Rs L xs (d) 158 49 [some (.ref z), a1] (.ref z :: st) M x := Rs_next c158_48 rfl
theorem c158_49 : qx_code 158 49 = some (49, .getfield 33, 52, 7, 3, 384) := by decide +kernel
theorem s158_49 {L : Nat} {xs : Nat → Int32} {d x : Nat} {M : qxM} {st : List Value} {ls : qxL} {t : Nat} (hk : qx_kd t = 17) : Rs L xs (d) 158 49 ls (.ref t :: st) M x = Rs L xs (d) 158 52 ls (.ref (t + 90) :: st) M x := Rs_when (qx_kd_obj (k := 7) (by decide) hk) c158_49 rfl
theorem c158_52 : qx_code 158 52 = some (52, .getfield 93, 55, 4, 0, 356) := by decide +kernel
theorem s158_52 {L : Nat} {xs : Nat → Int32} {d x : Nat} {M : qxM} {st : List Value} {ls : qxL} {t : Nat} (hk : qx_kd t = 14) : Rs L xs (d) 158 52 ls (.ref t :: st) M x = Rs L xs (d) 158 55 ls (.ref (t + 1) :: st) M x := Rs_when (qx_kd_obj (k := 4) (by decide) hk) c158_52 rfl
theorem c158_55 : qx_code 158 55 = some (55, .invokevirtual 121, 58, 48, 1, 767) := by decide +kernel
theorem s158_55 {L : Nat} {xs : Nat → Int32} {d x : Nat} {M : qxM} {st : List Value} {ls : qxL} {t : Nat} (hk : qx_kd t = 12) (hs : st.length ≤ 4) : Rs L xs (d + 1) 158 55 ls (.ref t :: st) M x = (Rs L xs d 48 0 [some (.ref t), none, none] [] M 0).bind (qx_kn L xs (d + 1) 158 55 58 48 ls st x) := by
  have h1 : qx_act L xs (qx_rt 158) (55, .invokevirtual 121, 58, 48, 1, 767) ls (.ref t :: st) M = if 1 ≤ (.ref t :: st).length ∧ st.length ≤ 4 then some (.inr (.inr (.inr (48, [.ref t], st)))) else none := rfl
  rw [if_pos ⟨by simp [List.length_cons]; try omega, hs⟩] at h1
  have h2 := qx_kd_obj (k := 2) (by decide) hk
  exact Rs_call c158_55 h1 (by rw [show qx_args 48 [.ref t] = decide (qx_sh t = some (.inl 2)) from rfl]; exact decide_eq_true h2)
theorem c158_58 : qx_code 158 58 = some (58, .ireturn, 59, 0, 0, 0) := by decide +kernel
theorem s158_58 {L : Nat} {xs : Nat → Int32} {d x : Nat} {M : qxM} {ls : qxL} {z : Int32} : Rs L xs (d) 158 58 ls [.int z] M x = some (.inl (some (.int z)), M, x) := Rs_ret c158_58 rfl
theorem c159_0 : qx_code 159 0 = some (0, .aload_n 0, 1, 0, 0, 0) := by decide +kernel
theorem s159_0 {L : Nat} {xs : Nat → Int32} {d x : Nat} {M : qxM} {st : List Value} {z : Nat} : Rs L xs (d) 159 0 [some (.ref z)] st M x = Rs L xs (d) 159 1 [some (.ref z)] (.ref z :: st) M x := Rs_next c159_0 rfl
theorem c159_1 : qx_code 159 1 = some (1, .getfield 83, 4, 7, 10, 391) := by decide +kernel
theorem s159_1 {L : Nat} {xs : Nat → Int32} {d x : Nat} {M : qxM} {st : List Value} {ls : qxL} {t : Nat} (hk : qx_kd t = 17) : Rs L xs (d) 159 1 ls (.ref t :: st) M x = Rs L xs (d) 159 4 ls (.int (M.1 t 10) :: st) M x := Rs_when (qx_kd_obj (k := 7) (by decide) hk) c159_1 rfl
theorem c159_4 : qx_code 159 4 = some (4, .ifCond .ne 14, 7, 18, 0, 0) := by decide +kernel
theorem s159_4 {L : Nat} {xs : Nat → Int32} {d x : Nat} {M : qxM} {st : List Value} {ls : qxL} {z : Int32} : Rs L xs (d) 159 4 ls (.int z :: st) M x = if z = 0 then Rs L xs (d) 159 7 ls st M x else Rs L xs (d) 159 18 ls st M x := Rs_ite c159_4 rfl
theorem c159_7 : qx_code 159 7 = some (7, .new 398, 10, 0, 7, 7420732) := by decide +kernel
theorem s159_7 {L : Nat} {xs : Nat → Int32} {d x : Nat} {M : qxM} {ls : qxL} : Rs L xs (d) 159 7 ls [] M x = some (.inr (qx_ex 0), M, x + 1) := Rs_thr rfl c159_7 rfl
theorem c159_10 : qx_code 159 10 = some (10, .dup, 11, 0, 0, 0) := by decide +kernel
theorem s159_10r {L : Nat} {xs : Nat → Int32} {d x : Nat} {M : qxM} {st : List Value} {ls : qxL} {z : Nat} : Rs L xs (d) 159 10 ls (.ref z :: st) M x = Rs L xs (d) 159 11 ls (.ref z :: .ref z :: st) M x := Rs_next c159_10 rfl
theorem s159_10i {L : Nat} {xs : Nat → Int32} {d x : Nat} {M : qxM} {st : List Value} {ls : qxL} {z : Int32} : Rs L xs (d) 159 10 ls (.int z :: st) M x = Rs L xs (d) 159 11 ls (.int z :: .int z :: st) M x := Rs_next c159_10 rfl
theorem c159_11 : qx_code 159 11 = some (11, .ldc_w 419, 14, 7, 1, 0) := by decide +kernel
theorem c159_14 : qx_code 159 14 = some (14, .invokespecial 402, 17, 9999, 2, 742) := by decide +kernel
theorem c159_17 : qx_code 159 17 = some (17, .athrow, 18, 0, 0, 0) := by decide +kernel
theorem c159_18 : qx_code 159 18 = some (18, .return_, 19, 0, 0, 0) := by decide +kernel
theorem s159_18 {L : Nat} {xs : Nat → Int32} {d x : Nat} {M : qxM} {ls : qxL} : Rs L xs (d) 159 18 ls [] M x = some (.inl none, M, x) := Rs_ret c159_18 rfl
theorem c160_0 : qx_code 160 0 = some (0, .aload_n 0, 1, 0, 0, 0) := by decide +kernel
theorem s160_0 {L : Nat} {xs : Nat → Int32} {d x : Nat} {M : qxM} {st : List Value} {a1 : Option Value} {z : Nat} : Rs L xs (d) 160 0 [some (.ref z), a1] st M x = Rs L xs (d) 160 1 [some (.ref z), a1] (.ref z :: st) M x := Rs_next c160_0 rfl
theorem c160_1 : qx_code 160 1 = some (1, .invokevirtual 107, 4, 159, 1, 728) := by decide +kernel
theorem s160_1 {L : Nat} {xs : Nat → Int32} {d x : Nat} {M : qxM} {st : List Value} {ls : qxL} {t : Nat} (hk : qx_kd t = 17) (hs : st.length ≤ 4) : Rs L xs (d + 1) 160 1 ls (.ref t :: st) M x = (Rs L xs d 159 0 [some (.ref t)] [] M 0).bind (qx_kn L xs (d + 1) 160 1 4 159 ls st x) := by
  have h1 : qx_act L xs (qx_rt 160) (1, .invokevirtual 107, 4, 159, 1, 728) ls (.ref t :: st) M = if 1 ≤ (.ref t :: st).length ∧ st.length ≤ 4 then some (.inr (.inr (.inr (159, [.ref t], st)))) else none := rfl
  rw [if_pos ⟨by simp [List.length_cons]; try omega, hs⟩] at h1
  have h2 := qx_kd_obj (k := 7) (by decide) hk
  exact Rs_call c160_1 h1 (by rw [show qx_args 159 [.ref t] = decide (qx_sh t = some (.inl 7)) from rfl]; exact decide_eq_true h2)
theorem c160_4 : qx_code 160 4 = some (4, .iload_n 1, 5, 0, 0, 0) := by decide +kernel
theorem s160_4 {L : Nat} {xs : Nat → Int32} {d x : Nat} {M : qxM} {st : List Value} {a0 : Option Value} {z : Int32} : Rs L xs (d) 160 4 [a0, some (.int z)] st M x = Rs L xs (d) 160 5 [a0, some (.int z)] (.int z :: st) M x := Rs_next c160_4 rfl
theorem c160_5 : qx_code 160 5 = some (5, .ifCond .lt 17, 8, 22, 0, 0) := by decide +kernel
theorem s160_5 {L : Nat} {xs : Nat → Int32} {d x : Nat} {M : qxM} {st : List Value} {ls : qxL} {z : Int32} : Rs L xs (d) 160 5 ls (.int z :: st) M x = if z < 0 then Rs L xs (d) 160 22 ls st M x else Rs L xs (d) 160 8 ls st M x := Rs_ite c160_5 rfl
theorem c160_8 : qx_code 160 8 = some (8, .iload_n 1, 9, 0, 0, 0) := by decide +kernel
theorem s160_8 {L : Nat} {xs : Nat → Int32} {d x : Nat} {M : qxM} {st : List Value} {a0 : Option Value} {z : Int32} : Rs L xs (d) 160 8 [a0, some (.int z)] st M x = Rs L xs (d) 160 9 [a0, some (.int z)] (.int z :: st) M x := Rs_next c160_8 rfl
theorem c160_9 : qx_code 160 9 = some (9, .aload_n 0, 10, 0, 0, 0) := by decide +kernel
theorem s160_9 {L : Nat} {xs : Nat → Int32} {d x : Nat} {M : qxM} {st : List Value} {a1 : Option Value} {z : Nat} : Rs L xs (d) 160 9 [some (.ref z), a1] st M x = Rs L xs (d) 160 10 [some (.ref z), a1] (.ref z :: st) M x := Rs_next c160_9 rfl
theorem c160_10 : qx_code 160 10 = some (10, .getfield 33, 13, 7, 3, 384) := by decide +kernel
theorem s160_10 {L : Nat} {xs : Nat → Int32} {d x : Nat} {M : qxM} {st : List Value} {ls : qxL} {t : Nat} (hk : qx_kd t = 17) : Rs L xs (d) 160 10 ls (.ref t :: st) M x = Rs L xs (d) 160 13 ls (.ref (t + 90) :: st) M x := Rs_when (qx_kd_obj (k := 7) (by decide) hk) c160_10 rfl
theorem c160_13 : qx_code 160 13 = some (13, .getfield 93, 16, 4, 0, 356) := by decide +kernel
theorem s160_13 {L : Nat} {xs : Nat → Int32} {d x : Nat} {M : qxM} {st : List Value} {ls : qxL} {t : Nat} (hk : qx_kd t = 14) : Rs L xs (d) 160 13 ls (.ref t :: st) M x = Rs L xs (d) 160 16 ls (.ref (t + 1) :: st) M x := Rs_when (qx_kd_obj (k := 4) (by decide) hk) c160_13 rfl
theorem c160_16 : qx_code 160 16 = some (16, .getfield 96, 19, 2, 0, 166) := by decide +kernel
theorem s160_16 {L : Nat} {xs : Nat → Int32} {d x : Nat} {M : qxM} {st : List Value} {ls : qxL} {t : Nat} (hk : qx_kd t = 12) : Rs L xs (d) 160 16 ls (.ref t :: st) M x = Rs L xs (d) 160 19 ls (.int (M.1 t 0) :: st) M x := Rs_when (qx_kd_obj (k := 2) (by decide) hk) c160_16 rfl
theorem c160_19 : qx_code 160 19 = some (19, .if_icmp .lt 14, 22, 33, 0, 0) := by decide +kernel
theorem s160_19 {L : Nat} {xs : Nat → Int32} {d x : Nat} {M : qxM} {st : List Value} {ls : qxL} {z y : Int32} : Rs L xs (d) 160 19 ls (.int y :: .int z :: st) M x = if z < y then Rs L xs (d) 160 33 ls st M x else Rs L xs (d) 160 22 ls st M x := Rs_ite c160_19 rfl
theorem c160_22 : qx_code 160 22 = some (22, .new 59, 25, 2, 9, 4940452) := by decide +kernel
theorem s160_22 {L : Nat} {xs : Nat → Int32} {d x : Nat} {M : qxM} {ls : qxL} : Rs L xs (d) 160 22 ls [] M x = some (.inr (qx_ex 2), M, x + 1) := Rs_thr rfl c160_22 rfl
theorem c160_25 : qx_code 160 25 = some (25, .dup, 26, 0, 0, 0) := by decide +kernel
theorem s160_25r {L : Nat} {xs : Nat → Int32} {d x : Nat} {M : qxM} {st : List Value} {ls : qxL} {z : Nat} : Rs L xs (d) 160 25 ls (.ref z :: st) M x = Rs L xs (d) 160 26 ls (.ref z :: .ref z :: st) M x := Rs_next c160_25 rfl
theorem s160_25i {L : Nat} {xs : Nat → Int32} {d x : Nat} {M : qxM} {st : List Value} {ls : qxL} {z : Int32} : Rs L xs (d) 160 25 ls (.int z :: st) M x = Rs L xs (d) 160 26 ls (.int z :: .int z :: st) M x := Rs_next c160_25 rfl
theorem c160_26 : qx_code 160 26 = some (26, .ldc_w 421, 29, 9, 1, 0) := by decide +kernel
theorem c160_29 : qx_code 160 29 = some (29, .invokespecial 63, 32, 9999, 2, 494) := by decide +kernel
theorem c160_32 : qx_code 160 32 = some (32, .athrow, 33, 0, 0, 0) := by decide +kernel
theorem c160_33 : qx_code 160 33 = some (33, .return_, 34, 0, 0, 0) := by decide +kernel
theorem s160_33 {L : Nat} {xs : Nat → Int32} {d x : Nat} {M : qxM} {ls : qxL} : Rs L xs (d) 160 33 ls [] M x = some (.inl none, M, x) := Rs_ret c160_33 rfl
theorem c161_0 : qx_code 161 0 = some (0, .aload_n 0, 1, 0, 0, 0) := by decide +kernel
theorem s161_0 {L : Nat} {xs : Nat → Int32} {d x : Nat} {M : qxM} {st : List Value} {a1 a2 : Option Value} {z : Nat} : Rs L xs (d) 161 0 [some (.ref z), a1, a2] st M x = Rs L xs (d) 161 1 [some (.ref z), a1, a2] (.ref z :: st) M x := Rs_next c161_0 rfl
theorem c161_1 : qx_code 161 1 = some (1, .iload_n 1, 2, 0, 0, 0) := by decide +kernel
theorem s161_1 {L : Nat} {xs : Nat → Int32} {d x : Nat} {M : qxM} {st : List Value} {a0 a2 : Option Value} {z : Int32} : Rs L xs (d) 161 1 [a0, some (.int z), a2] st M x = Rs L xs (d) 161 2 [a0, some (.int z), a2] (.int z :: st) M x := Rs_next c161_1 rfl
theorem c161_2 : qx_code 161 2 = some (2, .invokevirtual 148, 5, 160, 2, 780) := by decide +kernel
theorem s161_2 {L : Nat} {xs : Nat → Int32} {d x : Nat} {M : qxM} {st : List Value} {ls : qxL} {t : Nat} {z0 : Int32} (hk : qx_kd t = 17) (hs : st.length ≤ 4) : Rs L xs (d + 1) 161 2 ls (.int z0 :: .ref t :: st) M x = (Rs L xs d 160 0 [some (.ref t), some (.int z0)] [] M 0).bind (qx_kn L xs (d + 1) 161 2 5 160 ls st x) := by
  have h1 : qx_act L xs (qx_rt 161) (2, .invokevirtual 148, 5, 160, 2, 780) ls (.int z0 :: .ref t :: st) M = if 2 ≤ (.int z0 :: .ref t :: st).length ∧ st.length ≤ 4 then some (.inr (.inr (.inr (160, [.ref t, .int z0], st)))) else none := rfl
  rw [if_pos ⟨by simp [List.length_cons]; try omega, hs⟩] at h1
  have h2 := qx_kd_obj (k := 7) (by decide) hk
  exact Rs_call c161_2 h1 (by rw [show qx_args 160 [.ref t, .int z0] = decide (qx_sh t = some (.inl 7)) from rfl]; exact decide_eq_true h2)
theorem c161_5 : qx_code 161 5 = some (5, .aload_n 0, 6, 0, 0, 0) := by decide +kernel
theorem s161_5 {L : Nat} {xs : Nat → Int32} {d x : Nat} {M : qxM} {st : List Value} {a1 a2 : Option Value} {z : Nat} : Rs L xs (d) 161 5 [some (.ref z), a1, a2] st M x = Rs L xs (d) 161 6 [some (.ref z), a1, a2] (.ref z :: st) M x := Rs_next c161_5 rfl
theorem c161_6 : qx_code 161 6 = some (6, .iload_n 2, 7, 0, 0, 0) := by decide +kernel
theorem s161_6 {L : Nat} {xs : Nat → Int32} {d x : Nat} {M : qxM} {st : List Value} {a0 a1 : Option Value} {z : Int32} : Rs L xs (d) 161 6 [a0, a1, some (.int z)] st M x = Rs L xs (d) 161 7 [a0, a1, some (.int z)] (.int z :: st) M x := Rs_next c161_6 rfl
theorem c161_7 : qx_code 161 7 = some (7, .invokevirtual 148, 10, 160, 2, 780) := by decide +kernel
theorem s161_7 {L : Nat} {xs : Nat → Int32} {d x : Nat} {M : qxM} {st : List Value} {ls : qxL} {t : Nat} {z0 : Int32} (hk : qx_kd t = 17) (hs : st.length ≤ 4) : Rs L xs (d + 1) 161 7 ls (.int z0 :: .ref t :: st) M x = (Rs L xs d 160 0 [some (.ref t), some (.int z0)] [] M 0).bind (qx_kn L xs (d + 1) 161 7 10 160 ls st x) := by
  have h1 : qx_act L xs (qx_rt 161) (7, .invokevirtual 148, 10, 160, 2, 780) ls (.int z0 :: .ref t :: st) M = if 2 ≤ (.int z0 :: .ref t :: st).length ∧ st.length ≤ 4 then some (.inr (.inr (.inr (160, [.ref t, .int z0], st)))) else none := rfl
  rw [if_pos ⟨by simp [List.length_cons]; try omega, hs⟩] at h1
  have h2 := qx_kd_obj (k := 7) (by decide) hk
  exact Rs_call c161_7 h1 (by rw [show qx_args 160 [.ref t, .int z0] = decide (qx_sh t = some (.inl 7)) from rfl]; exact decide_eq_true h2)
theorem c161_10 : qx_code 161 10 = some (10, .return_, 11, 0, 0, 0) := by decide +kernel
theorem s161_10 {L : Nat} {xs : Nat → Int32} {d x : Nat} {M : qxM} {ls : qxL} : Rs L xs (d) 161 10 ls [] M x = some (.inl none, M, x) := Rs_ret c161_10 rfl
theorem c162_0 : qx_code 162 0 = some (0, .iload_n 1, 1, 0, 0, 0) := by decide +kernel
theorem s162_0 {L : Nat} {xs : Nat → Int32} {d x : Nat} {M : qxM} {st : List Value} {a0 a2 : Option Value} {z : Int32} : Rs L xs (d) 162 0 [a0, some (.int z), a2] st M x = Rs L xs (d) 162 1 [a0, some (.int z), a2] (.int z :: st) M x := Rs_next c162_0 rfl
theorem c162_1 : qx_code 162 1 = some (1, .ifCond .lt 8, 4, 9, 0, 0) := by decide +kernel
theorem s162_1 {L : Nat} {xs : Nat → Int32} {d x : Nat} {M : qxM} {st : List Value} {ls : qxL} {z : Int32} : Rs L xs (d) 162 1 ls (.int z :: st) M x = if z < 0 then Rs L xs (d) 162 9 ls st M x else Rs L xs (d) 162 4 ls st M x := Rs_ite c162_1 rfl
theorem c162_4 : qx_code 162 4 = some (4, .iload_n 1, 5, 0, 0, 0) := by decide +kernel
theorem s162_4 {L : Nat} {xs : Nat → Int32} {d x : Nat} {M : qxM} {st : List Value} {a0 a2 : Option Value} {z : Int32} : Rs L xs (d) 162 4 [a0, some (.int z), a2] st M x = Rs L xs (d) 162 5 [a0, some (.int z), a2] (.int z :: st) M x := Rs_next c162_4 rfl
theorem c162_5 : qx_code 162 5 = some (5, .iload_n 2, 6, 0, 0, 0) := by decide +kernel
theorem s162_5 {L : Nat} {xs : Nat → Int32} {d x : Nat} {M : qxM} {st : List Value} {a0 a1 : Option Value} {z : Int32} : Rs L xs (d) 162 5 [a0, a1, some (.int z)] st M x = Rs L xs (d) 162 6 [a0, a1, some (.int z)] (.int z :: st) M x := Rs_next c162_5 rfl
theorem c162_6 : qx_code 162 6 = some (6, .if_icmp .le 14, 9, 20, 0, 0) := by decide +kernel
theorem s162_6 {L : Nat} {xs : Nat → Int32} {d x : Nat} {M : qxM} {st : List Value} {ls : qxL} {z y : Int32} : Rs L xs (d) 162 6 ls (.int y :: .int z :: st) M x = if z ≤ y then Rs L xs (d) 162 20 ls st M x else Rs L xs (d) 162 9 ls st M x := Rs_ite c162_6 rfl
theorem c162_9 : qx_code 162 9 = some (9, .new 70, 12, 1, 8, 6930683) := by decide +kernel
theorem s162_9 {L : Nat} {xs : Nat → Int32} {d x : Nat} {M : qxM} {ls : qxL} : Rs L xs (d) 162 9 ls [] M x = some (.inr (qx_ex 1), M, x + 1) := Rs_thr rfl c162_9 rfl
theorem c162_12 : qx_code 162 12 = some (12, .dup, 13, 0, 0, 0) := by decide +kernel
theorem s162_12r {L : Nat} {xs : Nat → Int32} {d x : Nat} {M : qxM} {st : List Value} {ls : qxL} {z : Nat} : Rs L xs (d) 162 12 ls (.ref z :: st) M x = Rs L xs (d) 162 13 ls (.ref z :: .ref z :: st) M x := Rs_next c162_12 rfl
theorem s162_12i {L : Nat} {xs : Nat → Int32} {d x : Nat} {M : qxM} {st : List Value} {ls : qxL} {z : Int32} : Rs L xs (d) 162 12 ls (.int z :: st) M x = Rs L xs (d) 162 13 ls (.int z :: .int z :: st) M x := Rs_next c162_12 rfl
theorem c162_13 : qx_code 162 13 = some (13, .ldc_w 423, 16, 8, 1, 0) := by decide +kernel
theorem c162_16 : qx_code 162 16 = some (16, .invokespecial 74, 19, 9999, 2, 693) := by decide +kernel
theorem c162_19 : qx_code 162 19 = some (19, .athrow, 20, 0, 0, 0) := by decide +kernel
theorem c162_20 : qx_code 162 20 = some (20, .return_, 21, 0, 0, 0) := by decide +kernel
theorem s162_20 {L : Nat} {xs : Nat → Int32} {d x : Nat} {M : qxM} {ls : qxL} : Rs L xs (d) 162 20 ls [] M x = some (.inl none, M, x) := Rs_ret c162_20 rfl
theorem c163_0 : qx_code 163 0 = some (0, .iload_n 1, 1, 0, 0, 0) := by decide +kernel
theorem s163_0 {L : Nat} {xs : Nat → Int32} {d x : Nat} {M : qxM} {st : List Value} {a0 : Option Value} {z : Int32} : Rs L xs (d) 163 0 [a0, some (.int z)] st M x = Rs L xs (d) 163 1 [a0, some (.int z)] (.int z :: st) M x := Rs_next c163_0 rfl
theorem c163_1 : qx_code 163 1 = some (1, .aload_n 0, 2, 0, 0, 0) := by decide +kernel
theorem s163_1 {L : Nat} {xs : Nat → Int32} {d x : Nat} {M : qxM} {st : List Value} {a1 : Option Value} {z : Nat} : Rs L xs (d) 163 1 [some (.ref z), a1] st M x = Rs L xs (d) 163 2 [some (.ref z), a1] (.ref z :: st) M x := Rs_next c163_1 rfl
theorem c163_2 : qx_code 163 2 = some (2, .getfield 33, 5, 7, 3, 384) := by decide +kernel
theorem s163_2 {L : Nat} {xs : Nat → Int32} {d x : Nat} {M : qxM} {st : List Value} {ls : qxL} {t : Nat} (hk : qx_kd t = 17) : Rs L xs (d) 163 2 ls (.ref t :: st) M x = Rs L xs (d) 163 5 ls (.ref (t + 90) :: st) M x := Rs_when (qx_kd_obj (k := 7) (by decide) hk) c163_2 rfl
theorem c163_5 : qx_code 163 5 = some (5, .getfield 93, 8, 4, 0, 356) := by decide +kernel
theorem s163_5 {L : Nat} {xs : Nat → Int32} {d x : Nat} {M : qxM} {st : List Value} {ls : qxL} {t : Nat} (hk : qx_kd t = 14) : Rs L xs (d) 163 5 ls (.ref t :: st) M x = Rs L xs (d) 163 8 ls (.ref (t + 1) :: st) M x := Rs_when (qx_kd_obj (k := 4) (by decide) hk) c163_5 rfl
theorem c163_8 : qx_code 163 8 = some (8, .invokevirtual 275, 11, 36, 1, 1072) := by decide +kernel
theorem s163_8 {L : Nat} {xs : Nat → Int32} {d x : Nat} {M : qxM} {st : List Value} {ls : qxL} {t : Nat} (hk : qx_kd t = 12) (hs : st.length ≤ 4) : Rs L xs (d + 1) 163 8 ls (.ref t :: st) M x = (Rs L xs d 36 0 [some (.ref t)] [] M 0).bind (qx_kn L xs (d + 1) 163 8 11 36 ls st x) := by
  have h1 : qx_act L xs (qx_rt 163) (8, .invokevirtual 275, 11, 36, 1, 1072) ls (.ref t :: st) M = if 1 ≤ (.ref t :: st).length ∧ st.length ≤ 4 then some (.inr (.inr (.inr (36, [.ref t], st)))) else none := rfl
  rw [if_pos ⟨by simp [List.length_cons]; try omega, hs⟩] at h1
  have h2 := qx_kd_obj (k := 2) (by decide) hk
  exact Rs_call c163_8 h1 (by rw [show qx_args 36 [.ref t] = decide (qx_sh t = some (.inl 2)) from rfl]; exact decide_eq_true h2)
theorem c163_11 : qx_code 163 11 = some (11, .iconst (-1), 12, 0, 0, 0) := by decide +kernel
theorem s163_11 {L : Nat} {xs : Nat → Int32} {d x : Nat} {M : qxM} {st : List Value} {ls : qxL} : Rs L xs (d) 163 11 ls st M x = Rs L xs (d) 163 12 ls (.int (-1) :: st) M x := Rs_next c163_11 rfl
theorem c163_12 : qx_code 163 12 = some (12, .ixor, 13, 0, 0, 0) := by decide +kernel
theorem s163_12 {L : Nat} {xs : Nat → Int32} {d x : Nat} {M : qxM} {st : List Value} {ls : qxL} {z y : Int32} : Rs L xs (d) 163 12 ls (.int y :: .int z :: st) M x = Rs L xs (d) 163 13 ls (.int (z ^^^ y) :: st) M x := Rs_next c163_12 rfl
theorem c163_13 : qx_code 163 13 = some (13, .iand, 14, 0, 0, 0) := by decide +kernel
theorem s163_13 {L : Nat} {xs : Nat → Int32} {d x : Nat} {M : qxM} {st : List Value} {ls : qxL} {z y : Int32} : Rs L xs (d) 163 13 ls (.int y :: .int z :: st) M x = Rs L xs (d) 163 14 ls (.int (z &&& y) :: st) M x := Rs_next c163_13 rfl
theorem c163_14 : qx_code 163 14 = some (14, .ifCond .eq 14, 17, 28, 0, 0) := by decide +kernel
theorem s163_14 {L : Nat} {xs : Nat → Int32} {d x : Nat} {M : qxM} {st : List Value} {ls : qxL} {z : Int32} : Rs L xs (d) 163 14 ls (.int z :: st) M x = if z = 0 then Rs L xs (d) 163 28 ls st M x else Rs L xs (d) 163 17 ls st M x := Rs_ite c163_14 rfl
theorem c163_17 : qx_code 163 17 = some (17, .new 70, 20, 1, 10, 6930683) := by decide +kernel
theorem s163_17 {L : Nat} {xs : Nat → Int32} {d x : Nat} {M : qxM} {ls : qxL} : Rs L xs (d) 163 17 ls [] M x = some (.inr (qx_ex 1), M, x + 1) := Rs_thr rfl c163_17 rfl
theorem c163_20 : qx_code 163 20 = some (20, .dup, 21, 0, 0, 0) := by decide +kernel
theorem s163_20r {L : Nat} {xs : Nat → Int32} {d x : Nat} {M : qxM} {st : List Value} {ls : qxL} {z : Nat} : Rs L xs (d) 163 20 ls (.ref z :: st) M x = Rs L xs (d) 163 21 ls (.ref z :: .ref z :: st) M x := Rs_next c163_20 rfl
theorem s163_20i {L : Nat} {xs : Nat → Int32} {d x : Nat} {M : qxM} {st : List Value} {ls : qxL} {z : Int32} : Rs L xs (d) 163 20 ls (.int z :: st) M x = Rs L xs (d) 163 21 ls (.int z :: .int z :: st) M x := Rs_next c163_20 rfl
theorem c163_21 : qx_code 163 21 = some (21, .ldc_w 425, 24, 10, 1, 0) := by decide +kernel
theorem c163_24 : qx_code 163 24 = some (24, .invokespecial 74, 27, 9999, 2, 693) := by decide +kernel
theorem c163_27 : qx_code 163 27 = some (27, .athrow, 28, 0, 0, 0) := by decide +kernel
theorem c163_28 : qx_code 163 28 = some (28, .return_, 29, 0, 0, 0) := by decide +kernel
theorem s163_28 {L : Nat} {xs : Nat → Int32} {d x : Nat} {M : qxM} {ls : qxL} : Rs L xs (d) 163 28 ls [] M x = some (.inl none, M, x) := Rs_ret c163_28 rfl
theorem c164_0 : qx_code 164 0 = some (0, .iload_n 1, 1, 0, 0, 0) := by decide +kernel
theorem s164_0 {L : Nat} {xs : Nat → Int32} {d x : Nat} {M : qxM} {st : List Value} {a0 : Option Value} {z : Int32} : Rs L xs (d) 164 0 [a0, some (.int z)] st M x = Rs L xs (d) 164 1 [a0, some (.int z)] (.int z :: st) M x := Rs_next c164_0 rfl
theorem c164_1 : qx_code 164 1 = some (1, .ifCond .lt 8, 4, 9, 0, 0) := by decide +kernel
theorem s164_1 {L : Nat} {xs : Nat → Int32} {d x : Nat} {M : qxM} {st : List Value} {ls : qxL} {z : Int32} : Rs L xs (d) 164 1 ls (.int z :: st) M x = if z < 0 then Rs L xs (d) 164 9 ls st M x else Rs L xs (d) 164 4 ls st M x := Rs_ite c164_1 rfl
theorem c164_4 : qx_code 164 4 = some (4, .iload_n 1, 5, 0, 0, 0) := by decide +kernel
theorem s164_4 {L : Nat} {xs : Nat → Int32} {d x : Nat} {M : qxM} {st : List Value} {a0 : Option Value} {z : Int32} : Rs L xs (d) 164 4 [a0, some (.int z)] st M x = Rs L xs (d) 164 5 [a0, some (.int z)] (.int z :: st) M x := Rs_next c164_4 rfl
theorem c164_5 : qx_code 164 5 = some (5, .iconst 2, 6, 0, 0, 0) := by decide +kernel
theorem s164_5 {L : Nat} {xs : Nat → Int32} {d x : Nat} {M : qxM} {st : List Value} {ls : qxL} : Rs L xs (d) 164 5 ls st M x = Rs L xs (d) 164 6 ls (.int (nI 2) :: st) M x := Rs_next c164_5 rfl
theorem c164_6 : qx_code 164 6 = some (6, .if_icmp .lt 14, 9, 20, 0, 0) := by decide +kernel
theorem s164_6 {L : Nat} {xs : Nat → Int32} {d x : Nat} {M : qxM} {st : List Value} {ls : qxL} {z y : Int32} : Rs L xs (d) 164 6 ls (.int y :: .int z :: st) M x = if z < y then Rs L xs (d) 164 20 ls st M x else Rs L xs (d) 164 9 ls st M x := Rs_ite c164_6 rfl
theorem c164_9 : qx_code 164 9 = some (9, .new 59, 12, 2, 19, 4940452) := by decide +kernel
theorem s164_9 {L : Nat} {xs : Nat → Int32} {d x : Nat} {M : qxM} {ls : qxL} : Rs L xs (d) 164 9 ls [] M x = some (.inr (qx_ex 2), M, x + 1) := Rs_thr rfl c164_9 rfl
theorem c164_12 : qx_code 164 12 = some (12, .dup, 13, 0, 0, 0) := by decide +kernel
theorem s164_12r {L : Nat} {xs : Nat → Int32} {d x : Nat} {M : qxM} {st : List Value} {ls : qxL} {z : Nat} : Rs L xs (d) 164 12 ls (.ref z :: st) M x = Rs L xs (d) 164 13 ls (.ref z :: .ref z :: st) M x := Rs_next c164_12 rfl
theorem s164_12i {L : Nat} {xs : Nat → Int32} {d x : Nat} {M : qxM} {st : List Value} {ls : qxL} {z : Int32} : Rs L xs (d) 164 12 ls (.int z :: st) M x = Rs L xs (d) 164 13 ls (.int z :: .int z :: st) M x := Rs_next c164_12 rfl
theorem c164_13 : qx_code 164 13 = some (13, .ldc_w 427, 16, 19, 1, 0) := by decide +kernel
theorem c164_16 : qx_code 164 16 = some (16, .invokespecial 63, 19, 9999, 2, 494) := by decide +kernel
theorem c164_19 : qx_code 164 19 = some (19, .athrow, 20, 0, 0, 0) := by decide +kernel
theorem c164_20 : qx_code 164 20 = some (20, .return_, 21, 0, 0, 0) := by decide +kernel
theorem s164_20 {L : Nat} {xs : Nat → Int32} {d x : Nat} {M : qxM} {ls : qxL} : Rs L xs (d) 164 20 ls [] M x = some (.inl none, M, x) := Rs_ret c164_20 rfl
theorem c165_0 : qx_code 165 0 = some (0, .aload_n 0, 1, 0, 0, 0) := by decide +kernel
theorem s165_0 {L : Nat} {xs : Nat → Int32} {d x : Nat} {M : qxM} {st : List Value} {z : Nat} : Rs L xs (d) 165 0 [some (.ref z)] st M x = Rs L xs (d) 165 1 [some (.ref z)] (.ref z :: st) M x := Rs_next c165_0 rfl
theorem c165_1 : qx_code 165 1 = some (1, .invokevirtual 107, 4, 159, 1, 728) := by decide +kernel
theorem s165_1 {L : Nat} {xs : Nat → Int32} {d x : Nat} {M : qxM} {st : List Value} {ls : qxL} {t : Nat} (hk : qx_kd t = 17) (hs : st.length ≤ 4) : Rs L xs (d + 1) 165 1 ls (.ref t :: st) M x = (Rs L xs d 159 0 [some (.ref t)] [] M 0).bind (qx_kn L xs (d + 1) 165 1 4 159 ls st x) := by
  have h1 : qx_act L xs (qx_rt 165) (1, .invokevirtual 107, 4, 159, 1, 728) ls (.ref t :: st) M = if 1 ≤ (.ref t :: st).length ∧ st.length ≤ 4 then some (.inr (.inr (.inr (159, [.ref t], st)))) else none := rfl
  rw [if_pos ⟨by simp [List.length_cons]; try omega, hs⟩] at h1
  have h2 := qx_kd_obj (k := 7) (by decide) hk
  exact Rs_call c165_1 h1 (by rw [show qx_args 159 [.ref t] = decide (qx_sh t = some (.inl 7)) from rfl]; exact decide_eq_true h2)
theorem c165_4 : qx_code 165 4 = some (4, .aload_n 0, 5, 0, 0, 0) := by decide +kernel
theorem s165_4 {L : Nat} {xs : Nat → Int32} {d x : Nat} {M : qxM} {st : List Value} {z : Nat} : Rs L xs (d) 165 4 [some (.ref z)] st M x = Rs L xs (d) 165 5 [some (.ref z)] (.ref z :: st) M x := Rs_next c165_4 rfl
theorem c165_5 : qx_code 165 5 = some (5, .getfield 33, 8, 7, 3, 384) := by decide +kernel
theorem s165_5 {L : Nat} {xs : Nat → Int32} {d x : Nat} {M : qxM} {st : List Value} {ls : qxL} {t : Nat} (hk : qx_kd t = 17) : Rs L xs (d) 165 5 ls (.ref t :: st) M x = Rs L xs (d) 165 8 ls (.ref (t + 90) :: st) M x := Rs_when (qx_kd_obj (k := 7) (by decide) hk) c165_5 rfl
theorem c165_8 : qx_code 165 8 = some (8, .getfield 180, 11, 4, 1, 358) := by decide +kernel
theorem s165_8 {L : Nat} {xs : Nat → Int32} {d x : Nat} {M : qxM} {st : List Value} {ls : qxL} {t : Nat} (hk : qx_kd t = 14) : Rs L xs (d) 165 8 ls (.ref t :: st) M x = Rs L xs (d) 165 11 ls (.ref (t + 4) :: st) M x := Rs_when (qx_kd_obj (k := 4) (by decide) hk) c165_8 rfl
theorem c165_11 : qx_code 165 11 = some (11, .getfield 184, 14, 3, 0, 298) := by decide +kernel
theorem s165_11 {L : Nat} {xs : Nat → Int32} {d x : Nat} {M : qxM} {st : List Value} {ls : qxL} {t : Nat} (hk : qx_kd t = 13) : Rs L xs (d) 165 11 ls (.ref t :: st) M x = Rs L xs (d) 165 14 ls (.int (M.1 t 0) :: st) M x := Rs_when (qx_kd_obj (k := 3) (by decide) hk) c165_11 rfl
theorem c165_14 : qx_code 165 14 = some (14, .iconst 1, 15, 0, 0, 0) := by decide +kernel
theorem s165_14 {L : Nat} {xs : Nat → Int32} {d x : Nat} {M : qxM} {st : List Value} {ls : qxL} : Rs L xs (d) 165 14 ls st M x = Rs L xs (d) 165 15 ls (.int (nI 1) :: st) M x := Rs_next c165_14 rfl
theorem c165_15 : qx_code 165 15 = some (15, .if_icmp .eq 14, 18, 29, 0, 0) := by decide +kernel
theorem s165_15 {L : Nat} {xs : Nat → Int32} {d x : Nat} {M : qxM} {st : List Value} {ls : qxL} {z y : Int32} : Rs L xs (d) 165 15 ls (.int y :: .int z :: st) M x = if z = y then Rs L xs (d) 165 29 ls st M x else Rs L xs (d) 165 18 ls st M x := Rs_ite c165_15 rfl
theorem c165_18 : qx_code 165 18 = some (18, .new 70, 21, 1, 13, 6930683) := by decide +kernel
theorem s165_18 {L : Nat} {xs : Nat → Int32} {d x : Nat} {M : qxM} {ls : qxL} : Rs L xs (d) 165 18 ls [] M x = some (.inr (qx_ex 1), M, x + 1) := Rs_thr rfl c165_18 rfl
theorem c165_21 : qx_code 165 21 = some (21, .dup, 22, 0, 0, 0) := by decide +kernel
theorem s165_21r {L : Nat} {xs : Nat → Int32} {d x : Nat} {M : qxM} {st : List Value} {ls : qxL} {z : Nat} : Rs L xs (d) 165 21 ls (.ref z :: st) M x = Rs L xs (d) 165 22 ls (.ref z :: .ref z :: st) M x := Rs_next c165_21 rfl
theorem s165_21i {L : Nat} {xs : Nat → Int32} {d x : Nat} {M : qxM} {st : List Value} {ls : qxL} {z : Int32} : Rs L xs (d) 165 21 ls (.int z :: st) M x = Rs L xs (d) 165 22 ls (.int z :: .int z :: st) M x := Rs_next c165_21 rfl
theorem c165_22 : qx_code 165 22 = some (22, .ldc_w 429, 25, 13, 1, 0) := by decide +kernel
theorem c165_25 : qx_code 165 25 = some (25, .invokespecial 74, 28, 9999, 2, 693) := by decide +kernel
theorem c165_28 : qx_code 165 28 = some (28, .athrow, 29, 0, 0, 0) := by decide +kernel
theorem c165_29 : qx_code 165 29 = some (29, .return_, 30, 0, 0, 0) := by decide +kernel
theorem s165_29 {L : Nat} {xs : Nat → Int32} {d x : Nat} {M : qxM} {ls : qxL} : Rs L xs (d) 165 29 ls [] M x = some (.inl none, M, x) := Rs_ret c165_29 rfl
theorem c166_0 : qx_code 166 0 = some (0, .aload_n 0, 1, 0, 0, 0) := by decide +kernel
theorem s166_0 {L : Nat} {xs : Nat → Int32} {d x : Nat} {M : qxM} {st : List Value} {z : Nat} : Rs L xs (d) 166 0 [some (.ref z)] st M x = Rs L xs (d) 166 1 [some (.ref z)] (.ref z :: st) M x := Rs_next c166_0 rfl
theorem c166_1 : qx_code 166 1 = some (1, .aload_n 0, 2, 0, 0, 0) := by decide +kernel
theorem s166_1 {L : Nat} {xs : Nat → Int32} {d x : Nat} {M : qxM} {st : List Value} {z : Nat} : Rs L xs (d) 166 1 [some (.ref z)] st M x = Rs L xs (d) 166 2 [some (.ref z)] (.ref z :: st) M x := Rs_next c166_1 rfl
theorem c166_2 : qx_code 166 2 = some (2, .getfield 40, 5, 7, 5, 386) := by decide +kernel
theorem s166_2 {L : Nat} {xs : Nat → Int32} {d x : Nat} {M : qxM} {st : List Value} {ls : qxL} {t : Nat} (hk : qx_kd t = 17) : Rs L xs (d) 166 2 ls (.ref t :: st) M x = Rs L xs (d) 166 5 ls (.ref (t + 40) :: st) M x := Rs_when (qx_kd_obj (k := 7) (by decide) hk) c166_2 rfl
theorem c166_5 : qx_code 166 5 = some (5, .aload_n 0, 6, 0, 0, 0) := by decide +kernel
theorem s166_5 {L : Nat} {xs : Nat → Int32} {d x : Nat} {M : qxM} {st : List Value} {z : Nat} : Rs L xs (d) 166 5 [some (.ref z)] st M x = Rs L xs (d) 166 6 [some (.ref z)] (.ref z :: st) M x := Rs_next c166_5 rfl
theorem c166_6 : qx_code 166 6 = some (6, .getfield 403, 9, 7, 7, 388) := by decide +kernel
theorem s166_6 {L : Nat} {xs : Nat → Int32} {d x : Nat} {M : qxM} {st : List Value} {ls : qxL} {t : Nat} (hk : qx_kd t = 17) : Rs L xs (d) 166 6 ls (.ref t :: st) M x = Rs L xs (d) 166 9 ls (.int (M.1 t 7) :: st) M x := Rs_when (qx_kd_obj (k := 7) (by decide) hk) c166_6 rfl
theorem c166_9 : qx_code 166 9 = some (9, .invokevirtual 406, 12, 167, 3, 1409) := by decide +kernel
theorem s166_9 {L : Nat} {xs : Nat → Int32} {d x : Nat} {M : qxM} {st : List Value} {ls : qxL} {t : Nat} {z0 : Nat} {z1 : Int32} (hk : qx_kd t = 17) (hs : st.length ≤ 4) : Rs L xs (d + 1) 166 9 ls (.int z1 :: .ref z0 :: .ref t :: st) M x = (Rs L xs d 167 0 [some (.ref t), some (.ref z0), some (.int z1), none] [] M 0).bind (qx_kn L xs (d + 1) 166 9 12 167 ls st x) := by
  have h1 : qx_act L xs (qx_rt 166) (9, .invokevirtual 406, 12, 167, 3, 1409) ls (.int z1 :: .ref z0 :: .ref t :: st) M = if 3 ≤ (.int z1 :: .ref z0 :: .ref t :: st).length ∧ st.length ≤ 4 then some (.inr (.inr (.inr (167, [.ref t, .ref z0, .int z1], st)))) else none := rfl
  rw [if_pos ⟨by simp [List.length_cons]; try omega, hs⟩] at h1
  have h2 := qx_kd_obj (k := 7) (by decide) hk
  exact Rs_call c166_9 h1 (by rw [show qx_args 167 [.ref t, .ref z0, .int z1] = decide (qx_sh t = some (.inl 7)) from rfl]; exact decide_eq_true h2)
theorem c166_12 : qx_code 166 12 = some (12, .aload_n 0, 13, 0, 0, 0) := by decide +kernel
theorem s166_12 {L : Nat} {xs : Nat → Int32} {d x : Nat} {M : qxM} {st : List Value} {z : Nat} : Rs L xs (d) 166 12 [some (.ref z)] st M x = Rs L xs (d) 166 13 [some (.ref z)] (.ref z :: st) M x := Rs_next c166_12 rfl
theorem c166_13 : qx_code 166 13 = some (13, .getfield 33, 16, 7, 3, 384) := by decide +kernel
theorem s166_13 {L : Nat} {xs : Nat → Int32} {d x : Nat} {M : qxM} {st : List Value} {ls : qxL} {t : Nat} (hk : qx_kd t = 17) : Rs L xs (d) 166 13 ls (.ref t :: st) M x = Rs L xs (d) 166 16 ls (.ref (t + 90) :: st) M x := Rs_when (qx_kd_obj (k := 7) (by decide) hk) c166_13 rfl
theorem c166_16 : qx_code 166 16 = some (16, .invokevirtual 410, 19, 74, 2, 1413) := by decide +kernel
theorem s166_16 {L : Nat} {xs : Nat → Int32} {d x : Nat} {M : qxM} {st : List Value} {ls : qxL} {t : Nat} {z0 : Nat} (hk : qx_kd t = 14) (hs : st.length ≤ 4) : Rs L xs (d + 1) 166 16 ls (.ref z0 :: .ref t :: st) M x = (Rs L xs d 74 0 [some (.ref t), some (.ref z0)] [] M 0).bind (qx_kn L xs (d + 1) 166 16 19 74 ls st x) := by
  have h1 : qx_act L xs (qx_rt 166) (16, .invokevirtual 410, 19, 74, 2, 1413) ls (.ref z0 :: .ref t :: st) M = if 2 ≤ (.ref z0 :: .ref t :: st).length ∧ st.length ≤ 4 then some (.inr (.inr (.inr (74, [.ref t, .ref z0], st)))) else none := rfl
  rw [if_pos ⟨by simp [List.length_cons]; try omega, hs⟩] at h1
  have h2 := qx_kd_obj (k := 4) (by decide) hk
  exact Rs_call c166_16 h1 (by rw [show qx_args 74 [.ref t, .ref z0] = decide (qx_sh t = some (.inl 4)) from rfl]; exact decide_eq_true h2)
theorem c166_19 : qx_code 166 19 = some (19, .aload_n 0, 20, 0, 0, 0) := by decide +kernel
theorem s166_19 {L : Nat} {xs : Nat → Int32} {d x : Nat} {M : qxM} {st : List Value} {z : Nat} : Rs L xs (d) 166 19 [some (.ref z)] st M x = Rs L xs (d) 166 20 [some (.ref z)] (.ref z :: st) M x := Rs_next c166_19 rfl
theorem c166_20 : qx_code 166 20 = some (20, .aload_n 0, 21, 0, 0, 0) := by decide +kernel
theorem s166_20 {L : Nat} {xs : Nat → Int32} {d x : Nat} {M : qxM} {st : List Value} {z : Nat} : Rs L xs (d) 166 20 [some (.ref z)] st M x = Rs L xs (d) 166 21 [some (.ref z)] (.ref z :: st) M x := Rs_next c166_20 rfl
theorem c166_21 : qx_code 166 21 = some (21, .getfield 403, 24, 7, 7, 388) := by decide +kernel
theorem s166_21 {L : Nat} {xs : Nat → Int32} {d x : Nat} {M : qxM} {st : List Value} {ls : qxL} {t : Nat} (hk : qx_kd t = 17) : Rs L xs (d) 166 21 ls (.ref t :: st) M x = Rs L xs (d) 166 24 ls (.int (M.1 t 7) :: st) M x := Rs_when (qx_kd_obj (k := 7) (by decide) hk) c166_21 rfl
theorem c166_24 : qx_code 166 24 = some (24, .iconst 1, 25, 0, 0, 0) := by decide +kernel
theorem s166_24 {L : Nat} {xs : Nat → Int32} {d x : Nat} {M : qxM} {st : List Value} {ls : qxL} : Rs L xs (d) 166 24 ls st M x = Rs L xs (d) 166 25 ls (.int (nI 1) :: st) M x := Rs_next c166_24 rfl
theorem c166_25 : qx_code 166 25 = some (25, .iadd, 26, 0, 0, 0) := by decide +kernel
theorem s166_25 {L : Nat} {xs : Nat → Int32} {d x : Nat} {M : qxM} {st : List Value} {ls : qxL} {z y : Int32} : Rs L xs (d) 166 25 ls (.int y :: .int z :: st) M x = Rs L xs (d) 166 26 ls (.int (z + y) :: st) M x := Rs_next c166_25 rfl
theorem c166_26 : qx_code 166 26 = some (26, .bipush 8, 28, 0, 0, 0) := by decide +kernel
theorem s166_26 {L : Nat} {xs : Nat → Int32} {d x : Nat} {M : qxM} {st : List Value} {ls : qxL} : Rs L xs (d) 166 26 ls st M x = Rs L xs (d) 166 28 ls (.int (nI 8) :: st) M x := Rs_next c166_26 rfl
theorem c166_28 : qx_code 166 28 = some (28, .if_icmp .ge 12, 31, 40, 0, 0) := by decide +kernel
theorem s166_28 {L : Nat} {xs : Nat → Int32} {d x : Nat} {M : qxM} {st : List Value} {ls : qxL} {z y : Int32} : Rs L xs (d) 166 28 ls (.int y :: .int z :: st) M x = if y ≤ z then Rs L xs (d) 166 40 ls st M x else Rs L xs (d) 166 31 ls st M x := Rs_ite c166_28 rfl
theorem c166_31 : qx_code 166 31 = some (31, .aload_n 0, 32, 0, 0, 0) := by decide +kernel
theorem s166_31 {L : Nat} {xs : Nat → Int32} {d x : Nat} {M : qxM} {st : List Value} {z : Nat} : Rs L xs (d) 166 31 [some (.ref z)] st M x = Rs L xs (d) 166 32 [some (.ref z)] (.ref z :: st) M x := Rs_next c166_31 rfl
theorem c166_32 : qx_code 166 32 = some (32, .getfield 403, 35, 7, 7, 388) := by decide +kernel
theorem s166_32 {L : Nat} {xs : Nat → Int32} {d x : Nat} {M : qxM} {st : List Value} {ls : qxL} {t : Nat} (hk : qx_kd t = 17) : Rs L xs (d) 166 32 ls (.ref t :: st) M x = Rs L xs (d) 166 35 ls (.int (M.1 t 7) :: st) M x := Rs_when (qx_kd_obj (k := 7) (by decide) hk) c166_32 rfl
theorem c166_35 : qx_code 166 35 = some (35, .iconst 1, 36, 0, 0, 0) := by decide +kernel
theorem s166_35 {L : Nat} {xs : Nat → Int32} {d x : Nat} {M : qxM} {st : List Value} {ls : qxL} : Rs L xs (d) 166 35 ls st M x = Rs L xs (d) 166 36 ls (.int (nI 1) :: st) M x := Rs_next c166_35 rfl
theorem c166_36 : qx_code 166 36 = some (36, .iadd, 37, 0, 0, 0) := by decide +kernel
theorem s166_36 {L : Nat} {xs : Nat → Int32} {d x : Nat} {M : qxM} {st : List Value} {ls : qxL} {z y : Int32} : Rs L xs (d) 166 36 ls (.int y :: .int z :: st) M x = Rs L xs (d) 166 37 ls (.int (z + y) :: st) M x := Rs_next c166_36 rfl
theorem c166_37 : qx_code 166 37 = some (37, .goto 4, 40, 41, 0, 0) := by decide +kernel
theorem s166_37 {L : Nat} {xs : Nat → Int32} {d x : Nat} {M : qxM} {st : List Value} {ls : qxL} : Rs L xs (d) 166 37 ls st M x = Rs L xs (d) 166 41 ls st M x := Rs_next c166_37 rfl
theorem c166_40 : qx_code 166 40 = some (40, .iconst 0, 41, 0, 0, 0) := by decide +kernel
theorem s166_40 {L : Nat} {xs : Nat → Int32} {d x : Nat} {M : qxM} {st : List Value} {ls : qxL} : Rs L xs (d) 166 40 ls st M x = Rs L xs (d) 166 41 ls (.int (nI 0) :: st) M x := Rs_next c166_40 rfl
theorem c166_41 : qx_code 166 41 = some (41, .putfield 403, 44, 7, 7, 388) := by decide +kernel
theorem s166_41 {L : Nat} {xs : Nat → Int32} {d x : Nat} {M : qxM} {st : List Value} {ls : qxL} {t : Nat} {z : Int32} (hk : qx_kd t = 17) : Rs L xs (d) 166 41 ls (.int z :: .ref t :: st) M x = Rs L xs (d) 166 44 ls st (qx_up M t 7 z) x := Rs_when (cnd := qx_sh t = some (.inl 7) ∧ qx_fo 7 7 = none ∧ (qx_bf 7 7 = true → z = 0 ∨ z = 1)) ⟨qx_kd_obj (k := 7) (by decide) hk, rfl, fun h => nomatch h⟩ c166_41 rfl
theorem c166_44 : qx_code 166 44 = some (44, .aload_n 0, 45, 0, 0, 0) := by decide +kernel
theorem s166_44 {L : Nat} {xs : Nat → Int32} {d x : Nat} {M : qxM} {st : List Value} {z : Nat} : Rs L xs (d) 166 44 [some (.ref z)] st M x = Rs L xs (d) 166 45 [some (.ref z)] (.ref z :: st) M x := Rs_next c166_44 rfl
theorem c166_45 : qx_code 166 45 = some (45, .aload_n 0, 46, 0, 0, 0) := by decide +kernel
theorem s166_45 {L : Nat} {xs : Nat → Int32} {d x : Nat} {M : qxM} {st : List Value} {z : Nat} : Rs L xs (d) 166 45 [some (.ref z)] st M x = Rs L xs (d) 166 46 [some (.ref z)] (.ref z :: st) M x := Rs_next c166_45 rfl
theorem c166_46 : qx_code 166 46 = some (46, .getfield 87, 49, 7, 8, 389) := by decide +kernel
theorem s166_46 {L : Nat} {xs : Nat → Int32} {d x : Nat} {M : qxM} {st : List Value} {ls : qxL} {t : Nat} (hk : qx_kd t = 17) : Rs L xs (d) 166 46 ls (.ref t :: st) M x = Rs L xs (d) 166 49 ls (.int (M.1 t 8) :: st) M x := Rs_when (qx_kd_obj (k := 7) (by decide) hk) c166_46 rfl
theorem c166_49 : qx_code 166 49 = some (49, .iconst 1, 50, 0, 0, 0) := by decide +kernel
theorem s166_49 {L : Nat} {xs : Nat → Int32} {d x : Nat} {M : qxM} {st : List Value} {ls : qxL} : Rs L xs (d) 166 49 ls st M x = Rs L xs (d) 166 50 ls (.int (nI 1) :: st) M x := Rs_next c166_49 rfl
theorem c166_50 : qx_code 166 50 = some (50, .iadd, 51, 0, 0, 0) := by decide +kernel
theorem s166_50 {L : Nat} {xs : Nat → Int32} {d x : Nat} {M : qxM} {st : List Value} {ls : qxL} {z y : Int32} : Rs L xs (d) 166 50 ls (.int y :: .int z :: st) M x = Rs L xs (d) 166 51 ls (.int (z + y) :: st) M x := Rs_next c166_50 rfl
theorem c166_51 : qx_code 166 51 = some (51, .bipush 8, 53, 0, 0, 0) := by decide +kernel
theorem s166_51 {L : Nat} {xs : Nat → Int32} {d x : Nat} {M : qxM} {st : List Value} {ls : qxL} : Rs L xs (d) 166 51 ls st M x = Rs L xs (d) 166 53 ls (.int (nI 8) :: st) M x := Rs_next c166_51 rfl
theorem c166_53 : qx_code 166 53 = some (53, .invokestatic 431, 56, 1003, 2, 710) := by decide +kernel
theorem s166_53 {L : Nat} {xs : Nat → Int32} {d x : Nat} {M : qxM} {st : List Value} {ls : qxL} {z y : Int32} (hs : st.length ≤ 4) : Rs L xs (d) 166 53 ls (.int y :: .int z :: st) M x = Rs L xs (d) 166 56 ls (.int (if y < z then y else z) :: st) M x := Rs_when hs c166_53 rfl
theorem c166_56 : qx_code 166 56 = some (56, .putfield 87, 59, 7, 8, 389) := by decide +kernel
theorem s166_56 {L : Nat} {xs : Nat → Int32} {d x : Nat} {M : qxM} {st : List Value} {ls : qxL} {t : Nat} {z : Int32} (hk : qx_kd t = 17) : Rs L xs (d) 166 56 ls (.int z :: .ref t :: st) M x = Rs L xs (d) 166 59 ls st (qx_up M t 8 z) x := Rs_when (cnd := qx_sh t = some (.inl 7) ∧ qx_fo 7 8 = none ∧ (qx_bf 7 8 = true → z = 0 ∨ z = 1)) ⟨qx_kd_obj (k := 7) (by decide) hk, rfl, fun h => nomatch h⟩ c166_56 rfl
theorem c166_59 : qx_code 166 59 = some (59, .return_, 60, 0, 0, 0) := by decide +kernel
theorem s166_59 {L : Nat} {xs : Nat → Int32} {d x : Nat} {M : qxM} {ls : qxL} : Rs L xs (d) 166 59 ls [] M x = some (.inl none, M, x) := Rs_ret c166_59 rfl
theorem c167_0 : qx_code 167 0 = some (0, .iload_n 2, 1, 0, 0, 0) := by decide +kernel
theorem s167_0 {L : Nat} {xs : Nat → Int32} {d x : Nat} {M : qxM} {st : List Value} {a0 a1 a3 : Option Value} {z : Int32} : Rs L xs (d) 167 0 [a0, a1, some (.int z), a3] st M x = Rs L xs (d) 167 1 [a0, a1, some (.int z), a3] (.int z :: st) M x := Rs_next c167_0 rfl
theorem c167_1 : qx_code 167 1 = some (1, .ifCond .lt 15, 4, 16, 0, 0) := by decide +kernel
theorem s167_1 {L : Nat} {xs : Nat → Int32} {d x : Nat} {M : qxM} {st : List Value} {ls : qxL} {z : Int32} : Rs L xs (d) 167 1 ls (.int z :: st) M x = if z < 0 then Rs L xs (d) 167 16 ls st M x else Rs L xs (d) 167 4 ls st M x := Rs_ite c167_1 rfl
theorem c167_4 : qx_code 167 4 = some (4, .iload_n 2, 5, 0, 0, 0) := by decide +kernel
theorem s167_4 {L : Nat} {xs : Nat → Int32} {d x : Nat} {M : qxM} {st : List Value} {a0 a1 a3 : Option Value} {z : Int32} : Rs L xs (d) 167 4 [a0, a1, some (.int z), a3] st M x = Rs L xs (d) 167 5 [a0, a1, some (.int z), a3] (.int z :: st) M x := Rs_next c167_4 rfl
theorem c167_5 : qx_code 167 5 = some (5, .aload_n 1, 6, 0, 0, 0) := by decide +kernel
theorem s167_5 {L : Nat} {xs : Nat → Int32} {d x : Nat} {M : qxM} {st : List Value} {a0 a2 a3 : Option Value} {z : Nat} : Rs L xs (d) 167 5 [a0, some (.ref z), a2, a3] st M x = Rs L xs (d) 167 6 [a0, some (.ref z), a2, a3] (.ref z :: st) M x := Rs_next c167_5 rfl
theorem s167_5n {L : Nat} {xs : Nat → Int32} {d x : Nat} {M : qxM} {st : List Value} {a0 a2 a3 : Option Value} : Rs L xs (d) 167 5 [a0, some .null, a2, a3] st M x = Rs L xs (d) 167 6 [a0, some .null, a2, a3] (.null :: st) M x := Rs_next c167_5 rfl
theorem c167_6 : qx_code 167 6 = some (6, .arraylength, 7, 0, 0, 0) := by decide +kernel
theorem s167_6 {L : Nat} {xs : Nat → Int32} {d x : Nat} {M : qxM} {st : List Value} {ls : qxL} {t : Nat} (hk : qx_kd t < 6) : Rs L xs (d) 167 6 ls (.ref t :: st) M x = Rs L xs (d) 167 7 ls (.int (nI (qx_ln t)) :: st) M x := by
  have h1 := qx_kd_row hk rfl
  exact Rs_next c167_6 (by unfold qx_act; dsimp only; rw [h1]; rfl)
theorem c167_7 : qx_code 167 7 = some (7, .if_icmp .ge 9, 10, 16, 0, 0) := by decide +kernel
theorem s167_7 {L : Nat} {xs : Nat → Int32} {d x : Nat} {M : qxM} {st : List Value} {ls : qxL} {z y : Int32} : Rs L xs (d) 167 7 ls (.int y :: .int z :: st) M x = if y ≤ z then Rs L xs (d) 167 16 ls st M x else Rs L xs (d) 167 10 ls st M x := Rs_ite c167_7 rfl
theorem c167_10 : qx_code 167 10 = some (10, .aload_n 1, 11, 0, 0, 0) := by decide +kernel
theorem s167_10 {L : Nat} {xs : Nat → Int32} {d x : Nat} {M : qxM} {st : List Value} {a0 a2 a3 : Option Value} {z : Nat} : Rs L xs (d) 167 10 [a0, some (.ref z), a2, a3] st M x = Rs L xs (d) 167 11 [a0, some (.ref z), a2, a3] (.ref z :: st) M x := Rs_next c167_10 rfl
theorem s167_10n {L : Nat} {xs : Nat → Int32} {d x : Nat} {M : qxM} {st : List Value} {a0 a2 a3 : Option Value} : Rs L xs (d) 167 10 [a0, some .null, a2, a3] st M x = Rs L xs (d) 167 11 [a0, some .null, a2, a3] (.null :: st) M x := Rs_next c167_10 rfl
theorem c167_11 : qx_code 167 11 = some (11, .iload_n 2, 12, 0, 0, 0) := by decide +kernel
theorem s167_11 {L : Nat} {xs : Nat → Int32} {d x : Nat} {M : qxM} {st : List Value} {a0 a1 a3 : Option Value} {z : Int32} : Rs L xs (d) 167 11 [a0, a1, some (.int z), a3] st M x = Rs L xs (d) 167 12 [a0, a1, some (.int z), a3] (.int z :: st) M x := Rs_next c167_11 rfl
theorem c167_12 : qx_code 167 12 = some (12, .aaload, 13, 0, 0, 0) := by decide +kernel
theorem s167_12 {L : Nat} {xs : Nat → Int32} {d x : Nat} {M : qxM} {st : List Value} {ls : qxL} {t : Nat} {j : Int32} (hk : qx_kd t = 3) (hj : qx_ib j (qx_ln t) = true) : Rs L xs (d) 167 12 ls (.int j :: .ref t :: st) M x = Rs L xs (d) 167 13 ls (.ref (qx_ar t j.toNatClampNeg) :: st) M x := by
  have h1 := qx_kd_row (k := 3) (by decide) hk
  exact Rs_unless (qx_ib_not hj) c167_12 (by unfold qx_act; dsimp only; rw [h1]; rfl)
theorem c167_13 : qx_code 167 13 = some (13, .goto 4, 16, 17, 0, 0) := by decide +kernel
theorem s167_13 {L : Nat} {xs : Nat → Int32} {d x : Nat} {M : qxM} {st : List Value} {ls : qxL} : Rs L xs (d) 167 13 ls st M x = Rs L xs (d) 167 17 ls st M x := Rs_next c167_13 rfl
theorem c167_16 : qx_code 167 16 = some (16, .aconst_null, 17, 0, 0, 0) := by decide +kernel
theorem s167_16 {L : Nat} {xs : Nat → Int32} {d x : Nat} {M : qxM} {st : List Value} {ls : qxL} : Rs L xs (d) 167 16 ls st M x = Rs L xs (d) 167 17 ls (.null :: st) M x := Rs_next c167_16 rfl
theorem c167_17 : qx_code 167 17 = some (17, .astore_n 3, 18, 0, 0, 0) := by decide +kernel
theorem s167_17i {L : Nat} {xs : Nat → Int32} {d x : Nat} {M : qxM} {st : List Value} {a0 a1 a3 : Option Value} {z : Nat} {y : Int32} : Rs L xs (d) 167 17 [a0, a1, some (.int y), a3] (.ref z :: st) M x = Rs L xs (d) 167 18 [a0, a1, some (.int y), some (.ref z)] st M x := Rs_next c167_17 rfl
theorem s167_17iN {L : Nat} {xs : Nat → Int32} {d x : Nat} {M : qxM} {st : List Value} {a0 a1 a3 : Option Value} {y : Int32} : Rs L xs (d) 167 17 [a0, a1, some (.int y), a3] (.null :: st) M x = Rs L xs (d) 167 18 [a0, a1, some (.int y), some .null] st M x := Rs_next c167_17 rfl
theorem s167_17r {L : Nat} {xs : Nat → Int32} {d x : Nat} {M : qxM} {st : List Value} {a0 a1 a3 : Option Value} {z : Nat} {y : Nat} : Rs L xs (d) 167 17 [a0, a1, some (.ref y), a3] (.ref z :: st) M x = Rs L xs (d) 167 18 [a0, a1, some (.ref y), some (.ref z)] st M x := Rs_next c167_17 rfl
theorem s167_17rN {L : Nat} {xs : Nat → Int32} {d x : Nat} {M : qxM} {st : List Value} {a0 a1 a3 : Option Value} {y : Nat} : Rs L xs (d) 167 17 [a0, a1, some (.ref y), a3] (.null :: st) M x = Rs L xs (d) 167 18 [a0, a1, some (.ref y), some .null] st M x := Rs_next c167_17 rfl
theorem s167_17n {L : Nat} {xs : Nat → Int32} {d x : Nat} {M : qxM} {st : List Value} {a0 a1 a3 : Option Value} {z : Nat} : Rs L xs (d) 167 17 [a0, a1, none, a3] (.ref z :: st) M x = Rs L xs (d) 167 18 [a0, a1, none, some (.ref z)] st M x := Rs_next c167_17 rfl
theorem s167_17nN {L : Nat} {xs : Nat → Int32} {d x : Nat} {M : qxM} {st : List Value} {a0 a1 a3 : Option Value} : Rs L xs (d) 167 17 [a0, a1, none, a3] (.null :: st) M x = Rs L xs (d) 167 18 [a0, a1, none, some .null] st M x := Rs_next c167_17 rfl
theorem c167_18 : qx_code 167 18 = some (18, .aload_n 3, 19, 0, 0, 0) := by decide +kernel
theorem s167_18 {L : Nat} {xs : Nat → Int32} {d x : Nat} {M : qxM} {st : List Value} {a0 a1 a2 : Option Value} {z : Nat} : Rs L xs (d) 167 18 [a0, a1, a2, some (.ref z)] st M x = Rs L xs (d) 167 19 [a0, a1, a2, some (.ref z)] (.ref z :: st) M x := Rs_next c167_18 rfl
theorem s167_18n {L : Nat} {xs : Nat → Int32} {d x : Nat} {M : qxM} {st : List Value} {a0 a1 a2 : Option Value} : Rs L xs (d) 167 18 [a0, a1, a2, some .null] st M x = Rs L xs (d) 167 19 [a0, a1, a2, some .null] (.null :: st) M x := Rs_next c167_18 rfl
theorem c167_19 : qx_code 167 19 = some (19, .ifnull 7, 22, 26, 0, 0) := by decide +kernel
theorem s167_19 {L : Nat} {xs : Nat → Int32} {d x : Nat} {M : qxM} {st : List Value} {ls : qxL} {z : Nat} : Rs L xs (d) 167 19 ls (.ref z :: st) M x = Rs L xs (d) 167 22 ls st M x := Rs_next c167_19 rfl
theorem s167_19n {L : Nat} {xs : Nat → Int32} {d x : Nat} {M : qxM} {st : List Value} {ls : qxL} : Rs L xs (d) 167 19 ls (.null :: st) M x = Rs L xs (d) 167 26 ls st M x := Rs_next c167_19 rfl
theorem c167_22 : qx_code 167 22 = some (22, .aload_n 3, 23, 0, 0, 0) := by decide +kernel
theorem s167_22 {L : Nat} {xs : Nat → Int32} {d x : Nat} {M : qxM} {st : List Value} {a0 a1 a2 : Option Value} {z : Nat} : Rs L xs (d) 167 22 [a0, a1, a2, some (.ref z)] st M x = Rs L xs (d) 167 23 [a0, a1, a2, some (.ref z)] (.ref z :: st) M x := Rs_next c167_22 rfl
theorem s167_22n {L : Nat} {xs : Nat → Int32} {d x : Nat} {M : qxM} {st : List Value} {a0 a1 a2 : Option Value} : Rs L xs (d) 167 22 [a0, a1, a2, some .null] st M x = Rs L xs (d) 167 23 [a0, a1, a2, some .null] (.null :: st) M x := Rs_next c167_22 rfl
theorem c167_23 : qx_code 167 23 = some (23, .goto 7, 26, 30, 0, 0) := by decide +kernel
theorem s167_23 {L : Nat} {xs : Nat → Int32} {d x : Nat} {M : qxM} {st : List Value} {ls : qxL} : Rs L xs (d) 167 23 ls st M x = Rs L xs (d) 167 30 ls st M x := Rs_next c167_23 rfl
theorem c167_26 : qx_code 167 26 = some (26, .aload_n 0, 27, 0, 0, 0) := by decide +kernel
theorem s167_26 {L : Nat} {xs : Nat → Int32} {d x : Nat} {M : qxM} {st : List Value} {a1 a2 a3 : Option Value} {z : Nat} : Rs L xs (d) 167 26 [some (.ref z), a1, a2, a3] st M x = Rs L xs (d) 167 27 [some (.ref z), a1, a2, a3] (.ref z :: st) M x := Rs_next c167_26 rfl
theorem s167_26n {L : Nat} {xs : Nat → Int32} {d x : Nat} {M : qxM} {st : List Value} {a1 a2 a3 : Option Value} : Rs L xs (d) 167 26 [some .null, a1, a2, a3] st M x = Rs L xs (d) 167 27 [some .null, a1, a2, a3] (.null :: st) M x := Rs_next c167_26 rfl
theorem c167_27 : qx_code 167 27 = some (27, .getfield 37, 30, 7, 4, 385) := by decide +kernel
theorem s167_27 {L : Nat} {xs : Nat → Int32} {d x : Nat} {M : qxM} {st : List Value} {ls : qxL} {t : Nat} (hk : qx_kd t = 17) : Rs L xs (d) 167 27 ls (.ref t :: st) M x = Rs L xs (d) 167 30 ls (.ref (t + 110) :: st) M x := Rs_when (qx_kd_obj (k := 7) (by decide) hk) c167_27 rfl
theorem c167_30 : qx_code 167 30 = some (30, .areturn, 31, 0, 0, 0) := by decide +kernel
theorem s167_30 {L : Nat} {xs : Nat → Int32} {d x : Nat} {M : qxM} {ls : qxL} {z : Nat} : Rs L xs (d) 167 30 ls [.ref z] M x = some (.inl (some (.ref z)), M, x) := Rs_ret c167_30 rfl
theorem c168_0 : qx_code 168 0 = some (0, .aload_n 0, 1, 0, 0, 0) := by decide +kernel
theorem s168_0 {L : Nat} {xs : Nat → Int32} {d x : Nat} {M : qxM} {st : List Value} {z : Nat} : Rs L xs (d) 168 0 [some (.ref z)] st M x = Rs L xs (d) 168 1 [some (.ref z)] (.ref z :: st) M x := Rs_next c168_0 rfl
theorem c168_1 : qx_code 168 1 = some (1, .getfield 26, 4, 7, 2, 383) := by decide +kernel
theorem s168_1 {L : Nat} {xs : Nat → Int32} {d x : Nat} {M : qxM} {st : List Value} {ls : qxL} {t : Nat} (hk : qx_kd t = 17) : Rs L xs (d) 168 1 ls (.ref t :: st) M x = Rs L xs (d) 168 4 ls (.ref (t + 30) :: st) M x := Rs_when (qx_kd_obj (k := 7) (by decide) hk) c168_1 rfl
theorem c168_4 : qx_code 168 4 = some (4, .aload_n 0, 5, 0, 0, 0) := by decide +kernel
theorem s168_4 {L : Nat} {xs : Nat → Int32} {d x : Nat} {M : qxM} {st : List Value} {z : Nat} : Rs L xs (d) 168 4 [some (.ref z)] st M x = Rs L xs (d) 168 5 [some (.ref z)] (.ref z :: st) M x := Rs_next c168_4 rfl
theorem c168_5 : qx_code 168 5 = some (5, .getfield 33, 8, 7, 3, 384) := by decide +kernel
theorem s168_5 {L : Nat} {xs : Nat → Int32} {d x : Nat} {M : qxM} {st : List Value} {ls : qxL} {t : Nat} (hk : qx_kd t = 17) : Rs L xs (d) 168 5 ls (.ref t :: st) M x = Rs L xs (d) 168 8 ls (.ref (t + 90) :: st) M x := Rs_when (qx_kd_obj (k := 7) (by decide) hk) c168_5 rfl
theorem c168_8 : qx_code 168 8 = some (8, .getfield 93, 11, 4, 0, 356) := by decide +kernel
theorem s168_8 {L : Nat} {xs : Nat → Int32} {d x : Nat} {M : qxM} {st : List Value} {ls : qxL} {t : Nat} (hk : qx_kd t = 14) : Rs L xs (d) 168 8 ls (.ref t :: st) M x = Rs L xs (d) 168 11 ls (.ref (t + 1) :: st) M x := Rs_when (qx_kd_obj (k := 4) (by decide) hk) c168_8 rfl
theorem c168_11 : qx_code 168 11 = some (11, .aload_n 0, 12, 0, 0, 0) := by decide +kernel
theorem s168_11 {L : Nat} {xs : Nat → Int32} {d x : Nat} {M : qxM} {st : List Value} {z : Nat} : Rs L xs (d) 168 11 [some (.ref z)] st M x = Rs L xs (d) 168 12 [some (.ref z)] (.ref z :: st) M x := Rs_next c168_11 rfl
theorem c168_12 : qx_code 168 12 = some (12, .getfield 33, 15, 7, 3, 384) := by decide +kernel
theorem s168_12 {L : Nat} {xs : Nat → Int32} {d x : Nat} {M : qxM} {st : List Value} {ls : qxL} {t : Nat} (hk : qx_kd t = 17) : Rs L xs (d) 168 12 ls (.ref t :: st) M x = Rs L xs (d) 168 15 ls (.ref (t + 90) :: st) M x := Rs_when (qx_kd_obj (k := 7) (by decide) hk) c168_12 rfl
theorem c168_15 : qx_code 168 15 = some (15, .getfield 93, 18, 4, 0, 356) := by decide +kernel
theorem s168_15 {L : Nat} {xs : Nat → Int32} {d x : Nat} {M : qxM} {st : List Value} {ls : qxL} {t : Nat} (hk : qx_kd t = 14) : Rs L xs (d) 168 15 ls (.ref t :: st) M x = Rs L xs (d) 168 18 ls (.ref (t + 1) :: st) M x := Rs_when (qx_kd_obj (k := 4) (by decide) hk) c168_15 rfl
theorem c168_18 : qx_code 168 18 = some (18, .getfield 124, 21, 2, 1, 170) := by decide +kernel
theorem s168_18 {L : Nat} {xs : Nat → Int32} {d x : Nat} {M : qxM} {st : List Value} {ls : qxL} {t : Nat} (hk : qx_kd t = 12) : Rs L xs (d) 168 18 ls (.ref t :: st) M x = Rs L xs (d) 168 21 ls (.int (M.1 t 1) :: st) M x := Rs_when (qx_kd_obj (k := 2) (by decide) hk) c168_18 rfl
theorem c168_21 : qx_code 168 21 = some (21, .invokevirtual 317, 24, 0, 3, 980) := by decide +kernel
theorem s168_21 {L : Nat} {xs : Nat → Int32} {d x : Nat} {M : qxM} {st : List Value} {ls : qxL} {t : Nat} {z0 : Nat} {z1 : Int32} (hk : qx_kd t = 10) (hs : st.length ≤ 4) : Rs L xs (d + 1) 168 21 ls (.int z1 :: .ref z0 :: .ref t :: st) M x = (Rs L xs d 0 0 [some (.ref t), some (.ref z0), some (.int z1), none, none, none] [] M 0).bind (qx_kn L xs (d + 1) 168 21 24 0 ls st x) := by
  have h1 : qx_act L xs (qx_rt 168) (21, .invokevirtual 317, 24, 0, 3, 980) ls (.int z1 :: .ref z0 :: .ref t :: st) M = if 3 ≤ (.int z1 :: .ref z0 :: .ref t :: st).length ∧ st.length ≤ 4 then some (.inr (.inr (.inr (0, [.ref t, .ref z0, .int z1], st)))) else none := rfl
  rw [if_pos ⟨by simp [List.length_cons]; try omega, hs⟩] at h1
  have h2 := qx_kd_obj (k := 0) (by decide) hk
  exact Rs_call c168_21 h1 (by rw [show qx_args 0 [.ref t, .ref z0, .int z1] = decide (qx_sh t = some (.inl 0)) from rfl]; exact decide_eq_true h2)
theorem c168_24 : qx_code 168 24 = some (24, .aload_n 0, 25, 0, 0, 0) := by decide +kernel
theorem s168_24 {L : Nat} {xs : Nat → Int32} {d x : Nat} {M : qxM} {st : List Value} {z : Nat} : Rs L xs (d) 168 24 [some (.ref z)] st M x = Rs L xs (d) 168 25 [some (.ref z)] (.ref z :: st) M x := Rs_next c168_24 rfl
theorem c168_25 : qx_code 168 25 = some (25, .getfield 26, 28, 7, 2, 383) := by decide +kernel
theorem s168_25 {L : Nat} {xs : Nat → Int32} {d x : Nat} {M : qxM} {st : List Value} {ls : qxL} {t : Nat} (hk : qx_kd t = 17) : Rs L xs (d) 168 25 ls (.ref t :: st) M x = Rs L xs (d) 168 28 ls (.ref (t + 30) :: st) M x := Rs_when (qx_kd_obj (k := 7) (by decide) hk) c168_25 rfl
theorem c168_28 : qx_code 168 28 = some (28, .areturn, 29, 0, 0, 0) := by decide +kernel
theorem s168_28 {L : Nat} {xs : Nat → Int32} {d x : Nat} {M : qxM} {ls : qxL} {z : Nat} : Rs L xs (d) 168 28 ls [.ref z] M x = some (.inl (some (.ref z)), M, x) := Rs_ret c168_28 rfl
