/-! Steps. -/
theorem c0_0 : qx_code 0 0 = some (0, .iconst 0, 1, 0, 0, 0) := by decide +kernel
theorem s0_0 {L : Nat} {xs : Nat → Int32} {d x : Nat} {M : qxM} {st : List Value} {ls : qxL} : Rs L xs (d) 0 0 ls st M x = Rs L xs (d) 0 1 ls (.int (nI 0) :: st) M x := Rs_next c0_0 rfl
theorem c0_1 : qx_code 0 1 = some (1, .istore_n 3, 2, 0, 0, 0) := by decide +kernel
theorem s0_1i {L : Nat} {xs : Nat → Int32} {d x : Nat} {M : qxM} {st : List Value} {a0 a1 a3 a4 a5 : Option Value} {z : Int32} {y : Int32} : Rs L xs (d) 0 1 [a0, a1, some (.int y), a3, a4, a5] (.int z :: st) M x = Rs L xs (d) 0 2 [a0, a1, some (.int y), some (.int z), a4, a5] st M x := Rs_next c0_1 rfl
theorem s0_1r {L : Nat} {xs : Nat → Int32} {d x : Nat} {M : qxM} {st : List Value} {a0 a1 a3 a4 a5 : Option Value} {z : Int32} {y : Nat} : Rs L xs (d) 0 1 [a0, a1, some (.ref y), a3, a4, a5] (.int z :: st) M x = Rs L xs (d) 0 2 [a0, a1, some (.ref y), some (.int z), a4, a5] st M x := Rs_next c0_1 rfl
theorem s0_1n {L : Nat} {xs : Nat → Int32} {d x : Nat} {M : qxM} {st : List Value} {a0 a1 a3 a4 a5 : Option Value} {z : Int32} : Rs L xs (d) 0 1 [a0, a1, none, a3, a4, a5] (.int z :: st) M x = Rs L xs (d) 0 2 [a0, a1, none, some (.int z), a4, a5] st M x := Rs_next c0_1 rfl
theorem c0_2 : qx_code 0 2 = some (2, .aload_n 0, 3, 0, 0, 0) := by decide +kernel
theorem s0_2 {L : Nat} {xs : Nat → Int32} {d x : Nat} {M : qxM} {st : List Value} {a1 a2 a3 a4 a5 : Option Value} {z : Nat} : Rs L xs (d) 0 2 [some (.ref z), a1, a2, a3, a4, a5] st M x = Rs L xs (d) 0 3 [some (.ref z), a1, a2, a3, a4, a5] (.ref z :: st) M x := Rs_next c0_2 rfl
theorem c0_3 : qx_code 0 3 = some (3, .aload_n 1, 4, 0, 0, 0) := by decide +kernel
theorem s0_3 {L : Nat} {xs : Nat → Int32} {d x : Nat} {M : qxM} {st : List Value} {a0 a2 a3 a4 a5 : Option Value} {z : Nat} : Rs L xs (d) 0 3 [a0, some (.ref z), a2, a3, a4, a5] st M x = Rs L xs (d) 0 4 [a0, some (.ref z), a2, a3, a4, a5] (.ref z :: st) M x := Rs_next c0_3 rfl
theorem c0_4 : qx_code 0 4 = some (4, .invokevirtual 25, 7, 36, 1, 984) := by decide +kernel
theorem s0_4 {L : Nat} {xs : Nat → Int32} {d x : Nat} {M : qxM} {st : List Value} {ls : qxL} {t : Nat} (hk : qx_kd t = 12) (hs : st.length ≤ 4) : Rs L xs (d + 1) 0 4 ls (.ref t :: st) M x = (Rs L xs d 36 0 [some (.ref t)] [] M 0).bind (qx_kn L xs (d + 1) 0 4 7 36 ls st x) := by
  have h1 : qx_act L xs (qx_rt 0) (4, .invokevirtual 25, 7, 36, 1, 984) ls (.ref t :: st) M = if 1 ≤ (.ref t :: st).length ∧ st.length ≤ 4 then some (.inr (.inr (.inr (36, [.ref t], st)))) else none := rfl
  rw [if_pos ⟨by simp [List.length_cons]; try omega, hs⟩] at h1
  have h2 := qx_kd_obj (k := 2) (by decide) hk
  exact Rs_call c0_4 h1 (by rw [show qx_args 36 [.ref t] = decide (qx_sh t = some (.inl 2)) from rfl]; exact decide_eq_true h2)
theorem c0_7 : qx_code 0 7 = some (7, .putfield 31, 10, 0, 0, 253) := by decide +kernel
theorem s0_7 {L : Nat} {xs : Nat → Int32} {d x : Nat} {M : qxM} {st : List Value} {ls : qxL} {t : Nat} {z : Int32} (hk : qx_kd t = 10) : Rs L xs (d) 0 7 ls (.int z :: .ref t :: st) M x = Rs L xs (d) 0 10 ls st (qx_up M t 0 z) x := Rs_when (cnd := qx_sh t = some (.inl 0) ∧ qx_fo 0 0 = none ∧ (qx_bf 0 0 = true → z = 0 ∨ z = 1)) ⟨qx_kd_obj (k := 0) (by decide) hk, rfl, fun h => nomatch h⟩ c0_7 rfl
theorem c0_10 : qx_code 0 10 = some (10, .iconst 0, 11, 0, 0, 0) := by decide +kernel
theorem s0_10 {L : Nat} {xs : Nat → Int32} {d x : Nat} {M : qxM} {st : List Value} {ls : qxL} : Rs L xs (d) 0 10 ls st M x = Rs L xs (d) 0 11 ls (.int (nI 0) :: st) M x := Rs_next c0_10 rfl
theorem c0_11 : qx_code 0 11 = some (11, .istore 4, 13, 0, 0, 0) := by decide +kernel
theorem s0_11i {L : Nat} {xs : Nat → Int32} {d x : Nat} {M : qxM} {st : List Value} {a0 a1 a2 a4 a5 : Option Value} {z : Int32} {y : Int32} : Rs L xs (d) 0 11 [a0, a1, a2, some (.int y), a4, a5] (.int z :: st) M x = Rs L xs (d) 0 13 [a0, a1, a2, some (.int y), some (.int z), a5] st M x := Rs_next c0_11 rfl
theorem s0_11r {L : Nat} {xs : Nat → Int32} {d x : Nat} {M : qxM} {st : List Value} {a0 a1 a2 a4 a5 : Option Value} {z : Int32} {y : Nat} : Rs L xs (d) 0 11 [a0, a1, a2, some (.ref y), a4, a5] (.int z :: st) M x = Rs L xs (d) 0 13 [a0, a1, a2, some (.ref y), some (.int z), a5] st M x := Rs_next c0_11 rfl
theorem s0_11n {L : Nat} {xs : Nat → Int32} {d x : Nat} {M : qxM} {st : List Value} {a0 a1 a2 a4 a5 : Option Value} {z : Int32} : Rs L xs (d) 0 11 [a0, a1, a2, none, a4, a5] (.int z :: st) M x = Rs L xs (d) 0 13 [a0, a1, a2, none, some (.int z), a5] st M x := Rs_next c0_11 rfl
theorem c0_13 : qx_code 0 13 = some (13, .iload 4, 15, 0, 0, 0) := by decide +kernel
theorem s0_13 {L : Nat} {xs : Nat → Int32} {d x : Nat} {M : qxM} {st : List Value} {a0 a1 a2 a3 a5 : Option Value} {z : Int32} : Rs L xs (d) 0 13 [a0, a1, a2, a3, some (.int z), a5] st M x = Rs L xs (d) 0 15 [a0, a1, a2, a3, some (.int z), a5] (.int z :: st) M x := Rs_next c0_13 rfl
theorem c0_15 : qx_code 0 15 = some (15, .bipush 14, 17, 0, 0, 0) := by decide +kernel
theorem s0_15 {L : Nat} {xs : Nat → Int32} {d x : Nat} {M : qxM} {st : List Value} {ls : qxL} : Rs L xs (d) 0 15 ls st M x = Rs L xs (d) 0 17 ls (.int (nI 14) :: st) M x := Rs_next c0_15 rfl
theorem c0_17 : qx_code 0 17 = some (17, .if_icmp .ge 50, 20, 67, 0, 0) := by decide +kernel
theorem s0_17 {L : Nat} {xs : Nat → Int32} {d x : Nat} {M : qxM} {st : List Value} {ls : qxL} {z y : Int32} : Rs L xs (d) 0 17 ls (.int y :: .int z :: st) M x = if y ≤ z then Rs L xs (d) 0 67 ls st M x else Rs L xs (d) 0 20 ls st M x := Rs_ite c0_17 rfl
theorem c0_20 : qx_code 0 20 = some (20, .aload_n 1, 21, 0, 0, 0) := by decide +kernel
theorem s0_20 {L : Nat} {xs : Nat → Int32} {d x : Nat} {M : qxM} {st : List Value} {a0 a2 a3 a4 a5 : Option Value} {z : Nat} : Rs L xs (d) 0 20 [a0, some (.ref z), a2, a3, a4, a5] st M x = Rs L xs (d) 0 21 [a0, some (.ref z), a2, a3, a4, a5] (.ref z :: st) M x := Rs_next c0_20 rfl
theorem c0_21 : qx_code 0 21 = some (21, .iload_n 2, 22, 0, 0, 0) := by decide +kernel
theorem s0_21 {L : Nat} {xs : Nat → Int32} {d x : Nat} {M : qxM} {st : List Value} {a0 a1 a3 a4 a5 : Option Value} {z : Int32} : Rs L xs (d) 0 21 [a0, a1, some (.int z), a3, a4, a5] st M x = Rs L xs (d) 0 22 [a0, a1, some (.int z), a3, a4, a5] (.int z :: st) M x := Rs_next c0_21 rfl
theorem c0_22 : qx_code 0 22 = some (22, .iload 4, 24, 0, 0, 0) := by decide +kernel
theorem s0_22 {L : Nat} {xs : Nat → Int32} {d x : Nat} {M : qxM} {st : List Value} {a0 a1 a2 a3 a5 : Option Value} {z : Int32} : Rs L xs (d) 0 22 [a0, a1, a2, a3, some (.int z), a5] st M x = Rs L xs (d) 0 24 [a0, a1, a2, a3, some (.int z), a5] (.int z :: st) M x := Rs_next c0_22 rfl
theorem c0_24 : qx_code 0 24 = some (24, .invokevirtual 34, 27, 43, 3, 988) := by decide +kernel
theorem s0_24 {L : Nat} {xs : Nat → Int32} {d x : Nat} {M : qxM} {st : List Value} {ls : qxL} {t : Nat} {z0 : Int32} {z1 : Int32} (hk : qx_kd t = 12) (hs : st.length ≤ 4) : Rs L xs (d + 1) 0 24 ls (.int z1 :: .int z0 :: .ref t :: st) M x = (Rs L xs d 43 0 [some (.ref t), some (.int z0), some (.int z1), none] [] M 0).bind (qx_kn L xs (d + 1) 0 24 27 43 ls st x) := by
  have h1 : qx_act L xs (qx_rt 0) (24, .invokevirtual 34, 27, 43, 3, 988) ls (.int z1 :: .int z0 :: .ref t :: st) M = if 3 ≤ (.int z1 :: .int z0 :: .ref t :: st).length ∧ st.length ≤ 4 then some (.inr (.inr (.inr (43, [.ref t, .int z0, .int z1], st)))) else none := rfl
  rw [if_pos ⟨by simp [List.length_cons]; try omega, hs⟩] at h1
  have h2 := qx_kd_obj (k := 2) (by decide) hk
  exact Rs_call c0_24 h1 (by rw [show qx_args 43 [.ref t, .int z0, .int z1] = decide (qx_sh t = some (.inl 2)) from rfl]; exact decide_eq_true h2)
theorem c0_27 : qx_code 0 27 = some (27, .istore 5, 29, 0, 0, 0) := by decide +kernel
theorem s0_27i {L : Nat} {xs : Nat → Int32} {d x : Nat} {M : qxM} {st : List Value} {a0 a1 a2 a3 a5 : Option Value} {z : Int32} {y : Int32} : Rs L xs (d) 0 27 [a0, a1, a2, a3, some (.int y), a5] (.int z :: st) M x = Rs L xs (d) 0 29 [a0, a1, a2, a3, some (.int y), some (.int z)] st M x := Rs_next c0_27 rfl
theorem s0_27r {L : Nat} {xs : Nat → Int32} {d x : Nat} {M : qxM} {st : List Value} {a0 a1 a2 a3 a5 : Option Value} {z : Int32} {y : Nat} : Rs L xs (d) 0 27 [a0, a1, a2, a3, some (.ref y), a5] (.int z :: st) M x = Rs L xs (d) 0 29 [a0, a1, a2, a3, some (.ref y), some (.int z)] st M x := Rs_next c0_27 rfl
theorem s0_27n {L : Nat} {xs : Nat → Int32} {d x : Nat} {M : qxM} {st : List Value} {a0 a1 a2 a3 a5 : Option Value} {z : Int32} : Rs L xs (d) 0 27 [a0, a1, a2, a3, none, a5] (.int z :: st) M x = Rs L xs (d) 0 29 [a0, a1, a2, a3, none, some (.int z)] st M x := Rs_next c0_27 rfl
theorem c0_29 : qx_code 0 29 = some (29, .iload_n 3, 30, 0, 0, 0) := by decide +kernel
theorem s0_29 {L : Nat} {xs : Nat → Int32} {d x : Nat} {M : qxM} {st : List Value} {a0 a1 a2 a4 a5 : Option Value} {z : Int32} : Rs L xs (d) 0 29 [a0, a1, a2, some (.int z), a4, a5] st M x = Rs L xs (d) 0 30 [a0, a1, a2, some (.int z), a4, a5] (.int z :: st) M x := Rs_next c0_29 rfl
theorem c0_30 : qx_code 0 30 = some (30, .ifCond .ne 14, 33, 44, 0, 0) := by decide +kernel
theorem s0_30 {L : Nat} {xs : Nat → Int32} {d x : Nat} {M : qxM} {st : List Value} {ls : qxL} {z : Int32} : Rs L xs (d) 0 30 ls (.int z :: st) M x = if z = 0 then Rs L xs (d) 0 33 ls st M x else Rs L xs (d) 0 44 ls st M x := Rs_ite c0_30 rfl
theorem c0_33 : qx_code 0 33 = some (33, .aload_n 0, 34, 0, 0, 0) := by decide +kernel
theorem s0_33 {L : Nat} {xs : Nat → Int32} {d x : Nat} {M : qxM} {st : List Value} {a1 a2 a3 a4 a5 : Option Value} {z : Nat} : Rs L xs (d) 0 33 [some (.ref z), a1, a2, a3, a4, a5] st M x = Rs L xs (d) 0 34 [some (.ref z), a1, a2, a3, a4, a5] (.ref z :: st) M x := Rs_next c0_33 rfl
theorem c0_34 : qx_code 0 34 = some (34, .iload 4, 36, 0, 0, 0) := by decide +kernel
theorem s0_34 {L : Nat} {xs : Nat → Int32} {d x : Nat} {M : qxM} {st : List Value} {a0 a1 a2 a3 a5 : Option Value} {z : Int32} : Rs L xs (d) 0 34 [a0, a1, a2, a3, some (.int z), a5] st M x = Rs L xs (d) 0 36 [a0, a1, a2, a3, some (.int z), a5] (.int z :: st) M x := Rs_next c0_34 rfl
theorem c0_36 : qx_code 0 36 = some (36, .invokevirtual 38, 39, 9, 2, 989) := by decide +kernel
theorem s0_36 {L : Nat} {xs : Nat → Int32} {d x : Nat} {M : qxM} {st : List Value} {ls : qxL} {t : Nat} {z0 : Int32} (hk : qx_kd t = 10) (hs : st.length ≤ 4) : Rs L xs (d + 1) 0 36 ls (.int z0 :: .ref t :: st) M x = (Rs L xs d 9 0 [some (.ref t), some (.int z0)] [] M 0).bind (qx_kn L xs (d + 1) 0 36 39 9 ls st x) := by
  have h1 : qx_act L xs (qx_rt 0) (36, .invokevirtual 38, 39, 9, 2, 989) ls (.int z0 :: .ref t :: st) M = if 2 ≤ (.int z0 :: .ref t :: st).length ∧ st.length ≤ 4 then some (.inr (.inr (.inr (9, [.ref t, .int z0], st)))) else none := rfl
  rw [if_pos ⟨by simp [List.length_cons]; try omega, hs⟩] at h1
  have h2 := qx_kd_obj (k := 0) (by decide) hk
  exact Rs_call c0_36 h1 (by rw [show qx_args 9 [.ref t, .int z0] = decide (qx_sh t = some (.inl 0)) from rfl]; exact decide_eq_true h2)
theorem c0_39 : qx_code 0 39 = some (39, .iload 5, 41, 0, 0, 0) := by decide +kernel
theorem s0_39 {L : Nat} {xs : Nat → Int32} {d x : Nat} {M : qxM} {st : List Value} {a0 a1 a2 a3 a4 : Option Value} {z : Int32} : Rs L xs (d) 0 39 [a0, a1, a2, a3, a4, some (.int z)] st M x = Rs L xs (d) 0 41 [a0, a1, a2, a3, a4, some (.int z)] (.int z :: st) M x := Rs_next c0_39 rfl
theorem c0_41 : qx_code 0 41 = some (41, .if_icmp .eq 7, 44, 48, 0, 0) := by decide +kernel
theorem s0_41 {L : Nat} {xs : Nat → Int32} {d x : Nat} {M : qxM} {st : List Value} {ls : qxL} {z y : Int32} : Rs L xs (d) 0 41 ls (.int y :: .int z :: st) M x = if z = y then Rs L xs (d) 0 48 ls st M x else Rs L xs (d) 0 44 ls st M x := Rs_ite c0_41 rfl
theorem c0_44 : qx_code 0 44 = some (44, .iconst 1, 45, 0, 0, 0) := by decide +kernel
theorem s0_44 {L : Nat} {xs : Nat → Int32} {d x : Nat} {M : qxM} {st : List Value} {ls : qxL} : Rs L xs (d) 0 44 ls st M x = Rs L xs (d) 0 45 ls (.int (nI 1) :: st) M x := Rs_next c0_44 rfl
theorem c0_45 : qx_code 0 45 = some (45, .goto 4, 48, 49, 0, 0) := by decide +kernel
theorem s0_45 {L : Nat} {xs : Nat → Int32} {d x : Nat} {M : qxM} {st : List Value} {ls : qxL} : Rs L xs (d) 0 45 ls st M x = Rs L xs (d) 0 49 ls st M x := Rs_next c0_45 rfl
theorem c0_48 : qx_code 0 48 = some (48, .iconst 0, 49, 0, 0, 0) := by decide +kernel
theorem s0_48 {L : Nat} {xs : Nat → Int32} {d x : Nat} {M : qxM} {st : List Value} {ls : qxL} : Rs L xs (d) 0 48 ls st M x = Rs L xs (d) 0 49 ls (.int (nI 0) :: st) M x := Rs_next c0_48 rfl
theorem c0_49 : qx_code 0 49 = some (49, .istore_n 3, 50, 0, 0, 0) := by decide +kernel
theorem s0_49i {L : Nat} {xs : Nat → Int32} {d x : Nat} {M : qxM} {st : List Value} {a0 a1 a3 a4 a5 : Option Value} {z : Int32} {y : Int32} : Rs L xs (d) 0 49 [a0, a1, some (.int y), a3, a4, a5] (.int z :: st) M x = Rs L xs (d) 0 50 [a0, a1, some (.int y), some (.int z), a4, a5] st M x := Rs_next c0_49 rfl
theorem s0_49r {L : Nat} {xs : Nat → Int32} {d x : Nat} {M : qxM} {st : List Value} {a0 a1 a3 a4 a5 : Option Value} {z : Int32} {y : Nat} : Rs L xs (d) 0 49 [a0, a1, some (.ref y), a3, a4, a5] (.int z :: st) M x = Rs L xs (d) 0 50 [a0, a1, some (.ref y), some (.int z), a4, a5] st M x := Rs_next c0_49 rfl
theorem s0_49n {L : Nat} {xs : Nat → Int32} {d x : Nat} {M : qxM} {st : List Value} {a0 a1 a3 a4 a5 : Option Value} {z : Int32} : Rs L xs (d) 0 49 [a0, a1, none, a3, a4, a5] (.int z :: st) M x = Rs L xs (d) 0 50 [a0, a1, none, some (.int z), a4, a5] st M x := Rs_next c0_49 rfl
theorem c0_50 : qx_code 0 50 = some (50, .aload_n 0, 51, 0, 0, 0) := by decide +kernel
theorem s0_50 {L : Nat} {xs : Nat → Int32} {d x : Nat} {M : qxM} {st : List Value} {a1 a2 a3 a4 a5 : Option Value} {z : Nat} : Rs L xs (d) 0 50 [some (.ref z), a1, a2, a3, a4, a5] st M x = Rs L xs (d) 0 51 [some (.ref z), a1, a2, a3, a4, a5] (.ref z :: st) M x := Rs_next c0_50 rfl
theorem c0_51 : qx_code 0 51 = some (51, .getfield 9, 54, 0, 1, 254) := by decide +kernel
theorem s0_51 {L : Nat} {xs : Nat → Int32} {d x : Nat} {M : qxM} {st : List Value} {ls : qxL} {t : Nat} (hk : qx_kd t = 10) : Rs L xs (d) 0 51 ls (.ref t :: st) M x = Rs L xs (d) 0 54 ls (.ref (t + 1) :: st) M x := Rs_when (qx_kd_obj (k := 0) (by decide) hk) c0_51 rfl
theorem c0_54 : qx_code 0 54 = some (54, .iload 4, 56, 0, 0, 0) := by decide +kernel
theorem s0_54 {L : Nat} {xs : Nat → Int32} {d x : Nat} {M : qxM} {st : List Value} {a0 a1 a2 a3 a5 : Option Value} {z : Int32} : Rs L xs (d) 0 54 [a0, a1, a2, a3, some (.int z), a5] st M x = Rs L xs (d) 0 56 [a0, a1, a2, a3, some (.int z), a5] (.int z :: st) M x := Rs_next c0_54 rfl
theorem c0_56 : qx_code 0 56 = some (56, .iload 5, 58, 0, 0, 0) := by decide +kernel
theorem s0_56 {L : Nat} {xs : Nat → Int32} {d x : Nat} {M : qxM} {st : List Value} {a0 a1 a2 a3 a4 : Option Value} {z : Int32} : Rs L xs (d) 0 56 [a0, a1, a2, a3, a4, some (.int z)] st M x = Rs L xs (d) 0 58 [a0, a1, a2, a3, a4, some (.int z)] (.int z :: st) M x := Rs_next c0_56 rfl
theorem c0_58 : qx_code 0 58 = some (58, .invokestatic 42, 61, 174, 3, 993) := by decide +kernel
theorem s0_58 {L : Nat} {xs : Nat → Int32} {d x : Nat} {M : qxM} {st : List Value} {ls : qxL} {z0 : Nat} {z1 : Int32} {z2 : Int32} (hs : st.length ≤ 4) : Rs L xs (d + 1) 0 58 ls (.int z2 :: .int z1 :: .ref z0 :: st) M x = (Rs L xs d 174 0 [some (.ref z0), some (.int z1), some (.int z2)] [] M 0).bind (qx_kn L xs (d + 1) 0 58 61 174 ls st x) := by
  have h1 : qx_act L xs (qx_rt 0) (58, .invokestatic 42, 61, 174, 3, 993) ls (.int z2 :: .int z1 :: .ref z0 :: st) M = if 3 ≤ (.int z2 :: .int z1 :: .ref z0 :: st).length ∧ st.length ≤ 4 then some (.inr (.inr (.inr (174, [.ref z0, .int z1, .int z2], st)))) else none := rfl
  rw [if_pos ⟨by simp [List.length_cons]; try omega, hs⟩] at h1
  exact Rs_call c0_58 h1 rfl
theorem c0_61 : qx_code 0 61 = some (61, .iinc 4 1, 64, 0, 0, 0) := by decide +kernel
theorem s0_61i {L : Nat} {xs : Nat → Int32} {d x : Nat} {M : qxM} {st : List Value} {a0 a1 a2 a5 : Option Value} {z : Int32} {y : Int32} : Rs L xs (d) 0 61 [a0, a1, a2, some (.int y), some (.int z), a5] st M x = Rs L xs (d) 0 64 [a0, a1, a2, some (.int y), some (.int (z + (nI 1))), a5] st M x := Rs_next c0_61 rfl
theorem s0_61r {L : Nat} {xs : Nat → Int32} {d x : Nat} {M : qxM} {st : List Value} {a0 a1 a2 a5 : Option Value} {z : Int32} {y : Nat} : Rs L xs (d) 0 61 [a0, a1, a2, some (.ref y), some (.int z), a5] st M x = Rs L xs (d) 0 64 [a0, a1, a2, some (.ref y), some (.int (z + (nI 1))), a5] st M x := Rs_next c0_61 rfl
theorem s0_61n {L : Nat} {xs : Nat → Int32} {d x : Nat} {M : qxM} {st : List Value} {a0 a1 a2 a5 : Option Value} {z : Int32} : Rs L xs (d) 0 61 [a0, a1, a2, none, some (.int z), a5] st M x = Rs L xs (d) 0 64 [a0, a1, a2, none, some (.int (z + (nI 1))), a5] st M x := Rs_next c0_61 rfl
theorem c0_64 : qx_code 0 64 = some (64, .goto (-51), 67, 13, 0, 0) := by decide +kernel
theorem s0_64 {L : Nat} {xs : Nat → Int32} {d x : Nat} {M : qxM} {st : List Value} {ls : qxL} : Rs L xs (d) 0 64 ls st M x = Rs L xs (d) 0 13 ls st M x := Rs_next c0_64 rfl
theorem c0_67 : qx_code 0 67 = some (67, .iload_n 3, 68, 0, 0, 0) := by decide +kernel
theorem s0_67 {L : Nat} {xs : Nat → Int32} {d x : Nat} {M : qxM} {st : List Value} {a0 a1 a2 a4 a5 : Option Value} {z : Int32} : Rs L xs (d) 0 67 [a0, a1, a2, some (.int z), a4, a5] st M x = Rs L xs (d) 0 68 [a0, a1, a2, some (.int z), a4, a5] (.int z :: st) M x := Rs_next c0_67 rfl
theorem c0_68 : qx_code 0 68 = some (68, .ifCond .eq 13, 71, 81, 0, 0) := by decide +kernel
theorem s0_68 {L : Nat} {xs : Nat → Int32} {d x : Nat} {M : qxM} {st : List Value} {ls : qxL} {z : Int32} : Rs L xs (d) 0 68 ls (.int z :: st) M x = if z = 0 then Rs L xs (d) 0 81 ls st M x else Rs L xs (d) 0 71 ls st M x := Rs_ite c0_68 rfl
theorem c0_71 : qx_code 0 71 = some (71, .aload_n 0, 72, 0, 0, 0) := by decide +kernel
theorem s0_71 {L : Nat} {xs : Nat → Int32} {d x : Nat} {M : qxM} {st : List Value} {a1 a2 a3 a4 a5 : Option Value} {z : Nat} : Rs L xs (d) 0 71 [some (.ref z), a1, a2, a3, a4, a5] st M x = Rs L xs (d) 0 72 [some (.ref z), a1, a2, a3, a4, a5] (.ref z :: st) M x := Rs_next c0_71 rfl
theorem c0_72 : qx_code 0 72 = some (72, .dup, 73, 0, 0, 0) := by decide +kernel
theorem s0_72r {L : Nat} {xs : Nat → Int32} {d x : Nat} {M : qxM} {st : List Value} {ls : qxL} {z : Nat} : Rs L xs (d) 0 72 ls (.ref z :: st) M x = Rs L xs (d) 0 73 ls (.ref z :: .ref z :: st) M x := Rs_next c0_72 rfl
theorem s0_72i {L : Nat} {xs : Nat → Int32} {d x : Nat} {M : qxM} {st : List Value} {ls : qxL} {z : Int32} : Rs L xs (d) 0 72 ls (.int z :: st) M x = Rs L xs (d) 0 73 ls (.int z :: .int z :: st) M x := Rs_next c0_72 rfl
theorem c0_73 : qx_code 0 73 = some (73, .getfield 21, 76, 0, 4, 257) := by decide +kernel
theorem s0_73 {L : Nat} {xs : Nat → Int32} {d x : Nat} {M : qxM} {st : List Value} {ls : qxL} {t : Nat} (hk : qx_kd t = 10) : Rs L xs (d) 0 73 ls (.ref t :: st) M x = Rs L xs (d) 0 76 ls (.int (M.1 t 4) :: st) M x := Rs_when (qx_kd_obj (k := 0) (by decide) hk) c0_73 rfl
theorem c0_76 : qx_code 0 76 = some (76, .iconst 1, 77, 0, 0, 0) := by decide +kernel
theorem s0_76 {L : Nat} {xs : Nat → Int32} {d x : Nat} {M : qxM} {st : List Value} {ls : qxL} : Rs L xs (d) 0 76 ls st M x = Rs L xs (d) 0 77 ls (.int (nI 1) :: st) M x := Rs_next c0_76 rfl
theorem c0_77 : qx_code 0 77 = some (77, .iadd, 78, 0, 0, 0) := by decide +kernel
theorem s0_77 {L : Nat} {xs : Nat → Int32} {d x : Nat} {M : qxM} {st : List Value} {ls : qxL} {z y : Int32} : Rs L xs (d) 0 77 ls (.int y :: .int z :: st) M x = Rs L xs (d) 0 78 ls (.int (z + y) :: st) M x := Rs_next c0_77 rfl
theorem c0_78 : qx_code 0 78 = some (78, .putfield 21, 81, 0, 4, 257) := by decide +kernel
theorem s0_78 {L : Nat} {xs : Nat → Int32} {d x : Nat} {M : qxM} {st : List Value} {ls : qxL} {t : Nat} {z : Int32} (hk : qx_kd t = 10) : Rs L xs (d) 0 78 ls (.int z :: .ref t :: st) M x = Rs L xs (d) 0 81 ls st (qx_up M t 4 z) x := Rs_when (cnd := qx_sh t = some (.inl 0) ∧ qx_fo 0 4 = none ∧ (qx_bf 0 4 = true → z = 0 ∨ z = 1)) ⟨qx_kd_obj (k := 0) (by decide) hk, rfl, fun h => nomatch h⟩ c0_78 rfl
theorem c0_81 : qx_code 0 81 = some (81, .return_, 82, 0, 0, 0) := by decide +kernel
theorem s0_81 {L : Nat} {xs : Nat → Int32} {d x : Nat} {M : qxM} {ls : qxL} : Rs L xs (d) 0 81 ls [] M x = some (.inl none, M, x) := Rs_ret c0_81 rfl
theorem c1_0 : qx_code 1 0 = some (0, .aload_n 0, 1, 0, 0, 0) := by decide +kernel
theorem s1_0 {L : Nat} {xs : Nat → Int32} {d x : Nat} {M : qxM} {st : List Value} {z : Nat} : Rs L xs (d) 1 0 [some (.ref z)] st M x = Rs L xs (d) 1 1 [some (.ref z)] (.ref z :: st) M x := Rs_next c1_0 rfl
theorem c1_1 : qx_code 1 1 = some (1, .aload_n 0, 2, 0, 0, 0) := by decide +kernel
theorem s1_1 {L : Nat} {xs : Nat → Int32} {d x : Nat} {M : qxM} {st : List Value} {z : Nat} : Rs L xs (d) 1 1 [some (.ref z)] st M x = Rs L xs (d) 1 2 [some (.ref z)] (.ref z :: st) M x := Rs_next c1_1 rfl
theorem c1_2 : qx_code 1 2 = some (2, .getfield 31, 5, 0, 0, 253) := by decide +kernel
theorem s1_2 {L : Nat} {xs : Nat → Int32} {d x : Nat} {M : qxM} {st : List Value} {ls : qxL} {t : Nat} (hk : qx_kd t = 10) : Rs L xs (d) 1 2 ls (.ref t :: st) M x = Rs L xs (d) 1 5 ls (.int (M.1 t 0) :: st) M x := Rs_when (qx_kd_obj (k := 0) (by decide) hk) c1_2 rfl
theorem c1_5 : qx_code 1 5 = some (5, .invokevirtual 46, 8, 5, 2, 998) := by decide +kernel
theorem s1_5 {L : Nat} {xs : Nat → Int32} {d x : Nat} {M : qxM} {st : List Value} {ls : qxL} {t : Nat} {z0 : Int32} (hk : qx_kd t = 10) (hs : st.length ≤ 4) : Rs L xs (d + 1) 1 5 ls (.int z0 :: .ref t :: st) M x = (Rs L xs d 5 0 [some (.ref t), some (.int z0)] [] M 0).bind (qx_kn L xs (d + 1) 1 5 8 5 ls st x) := by
  have h1 : qx_act L xs (qx_rt 1) (5, .invokevirtual 46, 8, 5, 2, 998) ls (.int z0 :: .ref t :: st) M = if 2 ≤ (.int z0 :: .ref t :: st).length ∧ st.length ≤ 4 then some (.inr (.inr (.inr (5, [.ref t, .int z0], st)))) else none := rfl
  rw [if_pos ⟨by simp [List.length_cons]; try omega, hs⟩] at h1
  have h2 := qx_kd_obj (k := 0) (by decide) hk
  exact Rs_call c1_5 h1 (by rw [show qx_args 5 [.ref t, .int z0] = decide (qx_sh t = some (.inl 0)) from rfl]; exact decide_eq_true h2)
theorem c1_8 : qx_code 1 8 = some (8, .ireturn, 9, 0, 0, 0) := by decide +kernel
theorem s1_8 {L : Nat} {xs : Nat → Int32} {d x : Nat} {M : qxM} {ls : qxL} {z : Int32} : Rs L xs (d) 1 8 ls [.int z] M x = some (.inl (some (.int z)), M, x) := Rs_ret c1_8 rfl
theorem c2_0 : qx_code 2 0 = some (0, .aload_n 0, 1, 0, 0, 0) := by decide +kernel
theorem s2_0 {L : Nat} {xs : Nat → Int32} {d x : Nat} {M : qxM} {st : List Value} {z : Nat} : Rs L xs (d) 2 0 [some (.ref z)] st M x = Rs L xs (d) 2 1 [some (.ref z)] (.ref z :: st) M x := Rs_next c2_0 rfl
theorem c2_1 : qx_code 2 1 = some (1, .getfield 31, 4, 0, 0, 253) := by decide +kernel
theorem s2_1 {L : Nat} {xs : Nat → Int32} {d x : Nat} {M : qxM} {st : List Value} {ls : qxL} {t : Nat} (hk : qx_kd t = 10) : Rs L xs (d) 2 1 ls (.ref t :: st) M x = Rs L xs (d) 2 4 ls (.int (M.1 t 0) :: st) M x := Rs_when (qx_kd_obj (k := 0) (by decide) hk) c2_1 rfl
theorem c2_4 : qx_code 2 4 = some (4, .invokestatic 49, 7, 334, 1, 1033) := by decide +kernel
theorem s2_4 {L : Nat} {xs : Nat → Int32} {d x : Nat} {M : qxM} {st : List Value} {ls : qxL} {z0 : Int32} (hs : st.length ≤ 4) : Rs L xs (d + 1) 2 4 ls (.int z0 :: st) M x = (Rs L xs d 334 0 [some (.int z0)] [] M 0).bind (qx_kn L xs (d + 1) 2 4 7 334 ls st x) := by
  have h1 : qx_act L xs (qx_rt 2) (4, .invokestatic 49, 7, 334, 1, 1033) ls (.int z0 :: st) M = if 1 ≤ (.int z0 :: st).length ∧ st.length ≤ 4 then some (.inr (.inr (.inr (334, [.int z0], st)))) else none := rfl
  rw [if_pos ⟨by simp [List.length_cons]; try omega, hs⟩] at h1
  exact Rs_call c2_4 h1 rfl
theorem c2_7 : qx_code 2 7 = some (7, .iconst 2, 8, 0, 0, 0) := by decide +kernel
theorem s2_7 {L : Nat} {xs : Nat → Int32} {d x : Nat} {M : qxM} {st : List Value} {ls : qxL} : Rs L xs (d) 2 7 ls st M x = Rs L xs (d) 2 8 ls (.int (nI 2) :: st) M x := Rs_next c2_7 rfl
theorem c2_8 : qx_code 2 8 = some (8, .aload_n 0, 9, 0, 0, 0) := by decide +kernel
theorem s2_8 {L : Nat} {xs : Nat → Int32} {d x : Nat} {M : qxM} {st : List Value} {z : Nat} : Rs L xs (d) 2 8 [some (.ref z)] st M x = Rs L xs (d) 2 9 [some (.ref z)] (.ref z :: st) M x := Rs_next c2_8 rfl
theorem c2_9 : qx_code 2 9 = some (9, .invokevirtual 54, 12, 1, 1, 1034) := by decide +kernel
theorem s2_9 {L : Nat} {xs : Nat → Int32} {d x : Nat} {M : qxM} {st : List Value} {ls : qxL} {t : Nat} (hk : qx_kd t = 10) (hs : st.length ≤ 4) : Rs L xs (d + 1) 2 9 ls (.ref t :: st) M x = (Rs L xs d 1 0 [some (.ref t)] [] M 0).bind (qx_kn L xs (d + 1) 2 9 12 1 ls st x) := by
  have h1 : qx_act L xs (qx_rt 2) (9, .invokevirtual 54, 12, 1, 1, 1034) ls (.ref t :: st) M = if 1 ≤ (.ref t :: st).length ∧ st.length ≤ 4 then some (.inr (.inr (.inr (1, [.ref t], st)))) else none := rfl
  rw [if_pos ⟨by simp [List.length_cons]; try omega, hs⟩] at h1
  have h2 := qx_kd_obj (k := 0) (by decide) hk
  exact Rs_call c2_9 h1 (by rw [show qx_args 1 [.ref t] = decide (qx_sh t = some (.inl 0)) from rfl]; exact decide_eq_true h2)
theorem c2_12 : qx_code 2 12 = some (12, .imul, 13, 0, 0, 0) := by decide +kernel
theorem s2_12 {L : Nat} {xs : Nat → Int32} {d x : Nat} {M : qxM} {st : List Value} {ls : qxL} {z y : Int32} : Rs L xs (d) 2 12 ls (.int y :: .int z :: st) M x = Rs L xs (d) 2 13 ls (.int (z * y) :: st) M x := Rs_next c2_12 rfl
theorem c2_13 : qx_code 2 13 = some (13, .isub, 14, 0, 0, 0) := by decide +kernel
theorem s2_13 {L : Nat} {xs : Nat → Int32} {d x : Nat} {M : qxM} {st : List Value} {ls : qxL} {z y : Int32} : Rs L xs (d) 2 13 ls (.int y :: .int z :: st) M x = Rs L xs (d) 2 14 ls (.int (z - y) :: st) M x := Rs_next c2_13 rfl
theorem c2_14 : qx_code 2 14 = some (14, .ireturn, 15, 0, 0, 0) := by decide +kernel
theorem s2_14 {L : Nat} {xs : Nat → Int32} {d x : Nat} {M : qxM} {ls : qxL} {z : Int32} : Rs L xs (d) 2 14 ls [.int z] M x = some (.inl (some (.int z)), M, x) := Rs_ret c2_14 rfl
theorem c3_0 : qx_code 3 0 = some (0, .aload_n 0, 1, 0, 0, 0) := by decide +kernel
theorem s3_0 {L : Nat} {xs : Nat → Int32} {d x : Nat} {M : qxM} {st : List Value} {a1 a2 : Option Value} {z : Nat} : Rs L xs (d) 3 0 [some (.ref z), a1, a2] st M x = Rs L xs (d) 3 1 [some (.ref z), a1, a2] (.ref z :: st) M x := Rs_next c3_0 rfl
theorem c3_1 : qx_code 3 1 = some (1, .aload_n 0, 2, 0, 0, 0) := by decide +kernel
theorem s3_1 {L : Nat} {xs : Nat → Int32} {d x : Nat} {M : qxM} {st : List Value} {a1 a2 : Option Value} {z : Nat} : Rs L xs (d) 3 1 [some (.ref z), a1, a2] st M x = Rs L xs (d) 3 2 [some (.ref z), a1, a2] (.ref z :: st) M x := Rs_next c3_1 rfl
theorem c3_2 : qx_code 3 2 = some (2, .iload_n 1, 3, 0, 0, 0) := by decide +kernel
theorem s3_2 {L : Nat} {xs : Nat → Int32} {d x : Nat} {M : qxM} {st : List Value} {a0 a2 : Option Value} {z : Int32} : Rs L xs (d) 3 2 [a0, some (.int z), a2] st M x = Rs L xs (d) 3 3 [a0, some (.int z), a2] (.int z :: st) M x := Rs_next c3_2 rfl
theorem c3_3 : qx_code 3 3 = some (3, .iload_n 2, 4, 0, 0, 0) := by decide +kernel
theorem s3_3 {L : Nat} {xs : Nat → Int32} {d x : Nat} {M : qxM} {st : List Value} {a0 a1 : Option Value} {z : Int32} : Rs L xs (d) 3 3 [a0, a1, some (.int z)] st M x = Rs L xs (d) 3 4 [a0, a1, some (.int z)] (.int z :: st) M x := Rs_next c3_3 rfl
theorem c3_4 : qx_code 3 4 = some (4, .invokevirtual 57, 7, 4, 3, 1050) := by decide +kernel
theorem s3_4 {L : Nat} {xs : Nat → Int32} {d x : Nat} {M : qxM} {st : List Value} {ls : qxL} {t : Nat} {z0 : Int32} {z1 : Int32} (hk : qx_kd t = 10) (hs : st.length ≤ 4) : Rs L xs (d + 1) 3 4 ls (.int z1 :: .int z0 :: .ref t :: st) M x = (Rs L xs d 4 0 [some (.ref t), some (.int z0), some (.int z1)] [] M 0).bind (qx_kn L xs (d + 1) 3 4 7 4 ls st x) := by
  have h1 : qx_act L xs (qx_rt 3) (4, .invokevirtual 57, 7, 4, 3, 1050) ls (.int z1 :: .int z0 :: .ref t :: st) M = if 3 ≤ (.int z1 :: .int z0 :: .ref t :: st).length ∧ st.length ≤ 4 then some (.inr (.inr (.inr (4, [.ref t, .int z0, .int z1], st)))) else none := rfl
  rw [if_pos ⟨by simp [List.length_cons]; try omega, hs⟩] at h1
  have h2 := qx_kd_obj (k := 0) (by decide) hk
  exact Rs_call c3_4 h1 (by rw [show qx_args 4 [.ref t, .int z0, .int z1] = decide (qx_sh t = some (.inl 0)) from rfl]; exact decide_eq_true h2)
theorem c3_7 : qx_code 3 7 = some (7, .invokevirtual 46, 10, 5, 2, 998) := by decide +kernel
theorem s3_7 {L : Nat} {xs : Nat → Int32} {d x : Nat} {M : qxM} {st : List Value} {ls : qxL} {t : Nat} {z0 : Int32} (hk : qx_kd t = 10) (hs : st.length ≤ 4) : Rs L xs (d + 1) 3 7 ls (.int z0 :: .ref t :: st) M x = (Rs L xs d 5 0 [some (.ref t), some (.int z0)] [] M 0).bind (qx_kn L xs (d + 1) 3 7 10 5 ls st x) := by
  have h1 : qx_act L xs (qx_rt 3) (7, .invokevirtual 46, 10, 5, 2, 998) ls (.int z0 :: .ref t :: st) M = if 2 ≤ (.int z0 :: .ref t :: st).length ∧ st.length ≤ 4 then some (.inr (.inr (.inr (5, [.ref t, .int z0], st)))) else none := rfl
  rw [if_pos ⟨by simp [List.length_cons]; try omega, hs⟩] at h1
  have h2 := qx_kd_obj (k := 0) (by decide) hk
  exact Rs_call c3_7 h1 (by rw [show qx_args 5 [.ref t, .int z0] = decide (qx_sh t = some (.inl 0)) from rfl]; exact decide_eq_true h2)
theorem c3_10 : qx_code 3 10 = some (10, .ireturn, 11, 0, 0, 0) := by decide +kernel
theorem s3_10 {L : Nat} {xs : Nat → Int32} {d x : Nat} {M : qxM} {ls : qxL} {z : Int32} : Rs L xs (d) 3 10 ls [.int z] M x = some (.inl (some (.int z)), M, x) := Rs_ret c3_10 rfl
theorem c4_0 : qx_code 4 0 = some (0, .aload_n 0, 1, 0, 0, 0) := by decide +kernel
theorem s4_0 {L : Nat} {xs : Nat → Int32} {d x : Nat} {M : qxM} {st : List Value} {a1 a2 : Option Value} {z : Nat} : Rs L xs (d) 4 0 [some (.ref z), a1, a2] st M x = Rs L xs (d) 4 1 [some (.ref z), a1, a2] (.ref z :: st) M x := Rs_next c4_0 rfl
theorem c4_1 : qx_code 4 1 = some (1, .getfield 31, 4, 0, 0, 253) := by decide +kernel
theorem s4_1 {L : Nat} {xs : Nat → Int32} {d x : Nat} {M : qxM} {st : List Value} {ls : qxL} {t : Nat} (hk : qx_kd t = 10) : Rs L xs (d) 4 1 ls (.ref t :: st) M x = Rs L xs (d) 4 4 ls (.int (M.1 t 0) :: st) M x := Rs_when (qx_kd_obj (k := 0) (by decide) hk) c4_1 rfl
theorem c4_4 : qx_code 4 4 = some (4, .iload_n 1, 5, 0, 0, 0) := by decide +kernel
theorem s4_4 {L : Nat} {xs : Nat → Int32} {d x : Nat} {M : qxM} {st : List Value} {a0 a2 : Option Value} {z : Int32} : Rs L xs (d) 4 4 [a0, some (.int z), a2] st M x = Rs L xs (d) 4 5 [a0, some (.int z), a2] (.int z :: st) M x := Rs_next c4_4 rfl
theorem c4_5 : qx_code 4 5 = some (5, .invokestatic 60, 8, 169, 1, 1009) := by decide +kernel
theorem s4_5 {L : Nat} {xs : Nat → Int32} {d x : Nat} {M : qxM} {st : List Value} {ls : qxL} {z0 : Int32} (hs : st.length ≤ 4) : Rs L xs (d + 1) 4 5 ls (.int z0 :: st) M x = (Rs L xs d 169 0 [some (.int z0)] [] M 0).bind (qx_kn L xs (d + 1) 4 5 8 169 ls st x) := by
  have h1 : qx_act L xs (qx_rt 4) (5, .invokestatic 60, 8, 169, 1, 1009) ls (.int z0 :: st) M = if 1 ≤ (.int z0 :: st).length ∧ st.length ≤ 4 then some (.inr (.inr (.inr (169, [.int z0], st)))) else none := rfl
  rw [if_pos ⟨by simp [List.length_cons]; try omega, hs⟩] at h1
  exact Rs_call c4_5 h1 rfl
theorem c4_8 : qx_code 4 8 = some (8, .iconst (-1), 9, 0, 0, 0) := by decide +kernel
theorem s4_8 {L : Nat} {xs : Nat → Int32} {d x : Nat} {M : qxM} {st : List Value} {ls : qxL} : Rs L xs (d) 4 8 ls st M x = Rs L xs (d) 4 9 ls (.int (-1) :: st) M x := Rs_next c4_8 rfl
theorem c4_9 : qx_code 4 9 = some (9, .ixor, 10, 0, 0, 0) := by decide +kernel
theorem s4_9 {L : Nat} {xs : Nat → Int32} {d x : Nat} {M : qxM} {st : List Value} {ls : qxL} {z y : Int32} : Rs L xs (d) 4 9 ls (.int y :: .int z :: st) M x = Rs L xs (d) 4 10 ls (.int (z ^^^ y) :: st) M x := Rs_next c4_9 rfl
theorem c4_10 : qx_code 4 10 = some (10, .iand, 11, 0, 0, 0) := by decide +kernel
theorem s4_10 {L : Nat} {xs : Nat → Int32} {d x : Nat} {M : qxM} {st : List Value} {ls : qxL} {z y : Int32} : Rs L xs (d) 4 10 ls (.int y :: .int z :: st) M x = Rs L xs (d) 4 11 ls (.int (z &&& y) :: st) M x := Rs_next c4_10 rfl
theorem c4_11 : qx_code 4 11 = some (11, .iload_n 2, 12, 0, 0, 0) := by decide +kernel
theorem s4_11 {L : Nat} {xs : Nat → Int32} {d x : Nat} {M : qxM} {st : List Value} {a0 a1 : Option Value} {z : Int32} : Rs L xs (d) 4 11 [a0, a1, some (.int z)] st M x = Rs L xs (d) 4 12 [a0, a1, some (.int z)] (.int z :: st) M x := Rs_next c4_11 rfl
theorem c4_12 : qx_code 4 12 = some (12, .invokestatic 60, 15, 169, 1, 1009) := by decide +kernel
theorem s4_12 {L : Nat} {xs : Nat → Int32} {d x : Nat} {M : qxM} {st : List Value} {ls : qxL} {z0 : Int32} (hs : st.length ≤ 4) : Rs L xs (d + 1) 4 12 ls (.int z0 :: st) M x = (Rs L xs d 169 0 [some (.int z0)] [] M 0).bind (qx_kn L xs (d + 1) 4 12 15 169 ls st x) := by
  have h1 : qx_act L xs (qx_rt 4) (12, .invokestatic 60, 15, 169, 1, 1009) ls (.int z0 :: st) M = if 1 ≤ (.int z0 :: st).length ∧ st.length ≤ 4 then some (.inr (.inr (.inr (169, [.int z0], st)))) else none := rfl
  rw [if_pos ⟨by simp [List.length_cons]; try omega, hs⟩] at h1
  exact Rs_call c4_12 h1 rfl
theorem c4_15 : qx_code 4 15 = some (15, .iconst (-1), 16, 0, 0, 0) := by decide +kernel
theorem s4_15 {L : Nat} {xs : Nat → Int32} {d x : Nat} {M : qxM} {st : List Value} {ls : qxL} : Rs L xs (d) 4 15 ls st M x = Rs L xs (d) 4 16 ls (.int (-1) :: st) M x := Rs_next c4_15 rfl
theorem c4_16 : qx_code 4 16 = some (16, .ixor, 17, 0, 0, 0) := by decide +kernel
theorem s4_16 {L : Nat} {xs : Nat → Int32} {d x : Nat} {M : qxM} {st : List Value} {ls : qxL} {z y : Int32} : Rs L xs (d) 4 16 ls (.int y :: .int z :: st) M x = Rs L xs (d) 4 17 ls (.int (z ^^^ y) :: st) M x := Rs_next c4_16 rfl
theorem c4_17 : qx_code 4 17 = some (17, .iand, 18, 0, 0, 0) := by decide +kernel
theorem s4_17 {L : Nat} {xs : Nat → Int32} {d x : Nat} {M : qxM} {st : List Value} {ls : qxL} {z y : Int32} : Rs L xs (d) 4 17 ls (.int y :: .int z :: st) M x = Rs L xs (d) 4 18 ls (.int (z &&& y) :: st) M x := Rs_next c4_17 rfl
theorem c4_18 : qx_code 4 18 = some (18, .ireturn, 19, 0, 0, 0) := by decide +kernel
theorem s4_18 {L : Nat} {xs : Nat → Int32} {d x : Nat} {M : qxM} {ls : qxL} {z : Int32} : Rs L xs (d) 4 18 ls [.int z] M x = some (.inl (some (.int z)), M, x) := Rs_ret c4_18 rfl
theorem c5_0 : qx_code 5 0 = some (0, .aload_n 0, 1, 0, 0, 0) := by decide +kernel
theorem s5_0 {L : Nat} {xs : Nat → Int32} {d x : Nat} {M : qxM} {st : List Value} {a1 : Option Value} {z : Nat} : Rs L xs (d) 5 0 [some (.ref z), a1] st M x = Rs L xs (d) 5 1 [some (.ref z), a1] (.ref z :: st) M x := Rs_next c5_0 rfl
theorem c5_1 : qx_code 5 1 = some (1, .iload_n 1, 2, 0, 0, 0) := by decide +kernel
theorem s5_1 {L : Nat} {xs : Nat → Int32} {d x : Nat} {M : qxM} {st : List Value} {a0 : Option Value} {z : Int32} : Rs L xs (d) 5 1 [a0, some (.int z)] st M x = Rs L xs (d) 5 2 [a0, some (.int z)] (.int z :: st) M x := Rs_next c5_1 rfl
theorem c5_2 : qx_code 5 2 = some (2, .iconst 0, 3, 0, 0, 0) := by decide +kernel
theorem s5_2 {L : Nat} {xs : Nat → Int32} {d x : Nat} {M : qxM} {st : List Value} {ls : qxL} : Rs L xs (d) 5 2 ls st M x = Rs L xs (d) 5 3 ls (.int (nI 0) :: st) M x := Rs_next c5_2 rfl
theorem c5_3 : qx_code 5 3 = some (3, .invokestatic 63, 6, 7, 3, 1002) := by decide +kernel
theorem s5_3 {L : Nat} {xs : Nat → Int32} {d x : Nat} {M : qxM} {st : List Value} {ls : qxL} {z0 : Nat} {z1 : Int32} {z2 : Int32} (hs : st.length ≤ 4) : Rs L xs (d + 1) 5 3 ls (.int z2 :: .int z1 :: .ref z0 :: st) M x = (Rs L xs d 7 0 [some (.ref z0), some (.int z1), some (.int z2), none, none, none, none, none, none] [] M 0).bind (qx_kn L xs (d + 1) 5 3 6 7 ls st x) := by
  have h1 : qx_act L xs (qx_rt 5) (3, .invokestatic 63, 6, 7, 3, 1002) ls (.int z2 :: .int z1 :: .ref z0 :: st) M = if 3 ≤ (.int z2 :: .int z1 :: .ref z0 :: st).length ∧ st.length ≤ 4 then some (.inr (.inr (.inr (7, [.ref z0, .int z1, .int z2], st)))) else none := rfl
  rw [if_pos ⟨by simp [List.length_cons]; try omega, hs⟩] at h1
  exact Rs_call c5_3 h1 rfl
theorem c5_6 : qx_code 5 6 = some (6, .ldc 67, 8, 1048576, 0, 1011) := by decide +kernel
theorem s5_6 {L : Nat} {xs : Nat → Int32} {d x : Nat} {M : qxM} {st : List Value} {ls : qxL} : Rs L xs (d) 5 6 ls st M x = Rs L xs (d) 5 8 ls (.int (nI 1048576) :: st) M x := Rs_next c5_6 rfl
theorem c5_8 : qx_code 5 8 = some (8, .idiv, 9, 0, 0, 0) := by decide +kernel
theorem s5_8 {L : Nat} {xs : Nat → Int32} {d x : Nat} {M : qxM} {st : List Value} {ls : qxL} {z y : Int32} (h : ¬ y = 0) : Rs L xs (d) 5 8 ls (.int y :: .int z :: st) M x = Rs L xs (d) 5 9 ls (.int (z / y) :: st) M x := Rs_unless h c5_8 rfl
theorem c5_9 : qx_code 5 9 = some (9, .ireturn, 10, 0, 0, 0) := by decide +kernel
theorem s5_9 {L : Nat} {xs : Nat → Int32} {d x : Nat} {M : qxM} {ls : qxL} {z : Int32} : Rs L xs (d) 5 9 ls [.int z] M x = some (.inl (some (.int z)), M, x) := Rs_ret c5_9 rfl
theorem c6_0 : qx_code 6 0 = some (0, .aload_n 0, 1, 0, 0, 0) := by decide +kernel
theorem s6_0 {L : Nat} {xs : Nat → Int32} {d x : Nat} {M : qxM} {st : List Value} {a1 : Option Value} {z : Nat} : Rs L xs (d) 6 0 [some (.ref z), a1] st M x = Rs L xs (d) 6 1 [some (.ref z), a1] (.ref z :: st) M x := Rs_next c6_0 rfl
theorem c6_1 : qx_code 6 1 = some (1, .iload_n 1, 2, 0, 0, 0) := by decide +kernel
theorem s6_1 {L : Nat} {xs : Nat → Int32} {d x : Nat} {M : qxM} {st : List Value} {a0 : Option Value} {z : Int32} : Rs L xs (d) 6 1 [a0, some (.int z)] st M x = Rs L xs (d) 6 2 [a0, some (.int z)] (.int z :: st) M x := Rs_next c6_1 rfl
theorem c6_2 : qx_code 6 2 = some (2, .iconst 0, 3, 0, 0, 0) := by decide +kernel
theorem s6_2 {L : Nat} {xs : Nat → Int32} {d x : Nat} {M : qxM} {st : List Value} {ls : qxL} : Rs L xs (d) 6 2 ls st M x = Rs L xs (d) 6 3 ls (.int (nI 0) :: st) M x := Rs_next c6_2 rfl
theorem c6_3 : qx_code 6 3 = some (3, .invokestatic 63, 6, 7, 3, 1002) := by decide +kernel
theorem s6_3 {L : Nat} {xs : Nat → Int32} {d x : Nat} {M : qxM} {st : List Value} {ls : qxL} {z0 : Nat} {z1 : Int32} {z2 : Int32} (hs : st.length ≤ 4) : Rs L xs (d + 1) 6 3 ls (.int z2 :: .int z1 :: .ref z0 :: st) M x = (Rs L xs d 7 0 [some (.ref z0), some (.int z1), some (.int z2), none, none, none, none, none, none] [] M 0).bind (qx_kn L xs (d + 1) 6 3 6 7 ls st x) := by
  have h1 : qx_act L xs (qx_rt 6) (3, .invokestatic 63, 6, 7, 3, 1002) ls (.int z2 :: .int z1 :: .ref z0 :: st) M = if 3 ≤ (.int z2 :: .int z1 :: .ref z0 :: st).length ∧ st.length ≤ 4 then some (.inr (.inr (.inr (7, [.ref z0, .int z1, .int z2], st)))) else none := rfl
  rw [if_pos ⟨by simp [List.length_cons]; try omega, hs⟩] at h1
  exact Rs_call c6_3 h1 rfl
theorem c6_6 : qx_code 6 6 = some (6, .ldc 67, 8, 1048576, 0, 1011) := by decide +kernel
theorem s6_6 {L : Nat} {xs : Nat → Int32} {d x : Nat} {M : qxM} {st : List Value} {ls : qxL} : Rs L xs (d) 6 6 ls st M x = Rs L xs (d) 6 8 ls (.int (nI 1048576) :: st) M x := Rs_next c6_6 rfl
theorem c6_8 : qx_code 6 8 = some (8, .irem, 9, 0, 0, 0) := by decide +kernel
theorem s6_8 {L : Nat} {xs : Nat → Int32} {d x : Nat} {M : qxM} {st : List Value} {ls : qxL} {z y : Int32} (h : ¬ y = 0) : Rs L xs (d) 6 8 ls (.int y :: .int z :: st) M x = Rs L xs (d) 6 9 ls (.int (z - z / y * y) :: st) M x := Rs_unless h c6_8 rfl
theorem c6_9 : qx_code 6 9 = some (9, .ireturn, 10, 0, 0, 0) := by decide +kernel
theorem s6_9 {L : Nat} {xs : Nat → Int32} {d x : Nat} {M : qxM} {ls : qxL} {z : Int32} : Rs L xs (d) 6 9 ls [.int z] M x = some (.inl (some (.int z)), M, x) := Rs_ret c6_9 rfl
theorem c7_0 : qx_code 7 0 = some (0, .iload_n 1, 1, 0, 0, 0) := by decide +kernel
theorem s7_0 {L : Nat} {xs : Nat → Int32} {d x : Nat} {M : qxM} {st : List Value} {a0 a2 a3 a4 a5 a6 a7 a8 : Option Value} {z : Int32} : Rs L xs (d) 7 0 [a0, some (.int z), a2, a3, a4, a5, a6, a7, a8] st M x = Rs L xs (d) 7 1 [a0, some (.int z), a2, a3, a4, a5, a6, a7, a8] (.int z :: st) M x := Rs_next c7_0 rfl
theorem c7_1 : qx_code 7 1 = some (1, .ifCond .eq 9, 4, 10, 0, 0) := by decide +kernel
theorem s7_1 {L : Nat} {xs : Nat → Int32} {d x : Nat} {M : qxM} {st : List Value} {ls : qxL} {z : Int32} : Rs L xs (d) 7 1 ls (.int z :: st) M x = if z = 0 then Rs L xs (d) 7 10 ls st M x else Rs L xs (d) 7 4 ls st M x := Rs_ite c7_1 rfl
theorem c7_4 : qx_code 7 4 = some (4, .iload_n 2, 5, 0, 0, 0) := by decide +kernel
theorem s7_4 {L : Nat} {xs : Nat → Int32} {d x : Nat} {M : qxM} {st : List Value} {a0 a1 a3 a4 a5 a6 a7 a8 : Option Value} {z : Int32} : Rs L xs (d) 7 4 [a0, a1, some (.int z), a3, a4, a5, a6, a7, a8] st M x = Rs L xs (d) 7 5 [a0, a1, some (.int z), a3, a4, a5, a6, a7, a8] (.int z :: st) M x := Rs_next c7_4 rfl
theorem c7_5 : qx_code 7 5 = some (5, .bipush 14, 7, 0, 0, 0) := by decide +kernel
theorem s7_5 {L : Nat} {xs : Nat → Int32} {d x : Nat} {M : qxM} {st : List Value} {ls : qxL} : Rs L xs (d) 7 5 ls st M x = Rs L xs (d) 7 7 ls (.int (nI 14) :: st) M x := Rs_next c7_5 rfl
theorem c7_7 : qx_code 7 7 = some (7, .if_icmp .le 5, 10, 12, 0, 0) := by decide +kernel
theorem s7_7 {L : Nat} {xs : Nat → Int32} {d x : Nat} {M : qxM} {st : List Value} {ls : qxL} {z y : Int32} : Rs L xs (d) 7 7 ls (.int y :: .int z :: st) M x = if z ≤ y then Rs L xs (d) 7 12 ls st M x else Rs L xs (d) 7 10 ls st M x := Rs_ite c7_7 rfl
theorem c7_10 : qx_code 7 10 = some (10, .iconst 1, 11, 0, 0, 0) := by decide +kernel
theorem s7_10 {L : Nat} {xs : Nat → Int32} {d x : Nat} {M : qxM} {st : List Value} {ls : qxL} : Rs L xs (d) 7 10 ls st M x = Rs L xs (d) 7 11 ls (.int (nI 1) :: st) M x := Rs_next c7_10 rfl
theorem c7_11 : qx_code 7 11 = some (11, .ireturn, 12, 0, 0, 0) := by decide +kernel
theorem s7_11 {L : Nat} {xs : Nat → Int32} {d x : Nat} {M : qxM} {ls : qxL} {z : Int32} : Rs L xs (d) 7 11 ls [.int z] M x = some (.inl (some (.int z)), M, x) := Rs_ret c7_11 rfl
theorem c7_12 : qx_code 7 12 = some (12, .iload_n 1, 13, 0, 0, 0) := by decide +kernel
theorem s7_12 {L : Nat} {xs : Nat → Int32} {d x : Nat} {M : qxM} {st : List Value} {a0 a2 a3 a4 a5 a6 a7 a8 : Option Value} {z : Int32} : Rs L xs (d) 7 12 [a0, some (.int z), a2, a3, a4, a5, a6, a7, a8] st M x = Rs L xs (d) 7 13 [a0, some (.int z), a2, a3, a4, a5, a6, a7, a8] (.int z :: st) M x := Rs_next c7_12 rfl
theorem c7_13 : qx_code 7 13 = some (13, .iconst 3, 14, 0, 0, 0) := by decide +kernel
theorem s7_13 {L : Nat} {xs : Nat → Int32} {d x : Nat} {M : qxM} {st : List Value} {ls : qxL} : Rs L xs (d) 7 13 ls st M x = Rs L xs (d) 7 14 ls (.int (nI 3) :: st) M x := Rs_next c7_13 rfl
theorem c7_14 : qx_code 7 14 = some (14, .iand, 15, 0, 0, 0) := by decide +kernel
theorem s7_14 {L : Nat} {xs : Nat → Int32} {d x : Nat} {M : qxM} {st : List Value} {ls : qxL} {z y : Int32} : Rs L xs (d) 7 14 ls (.int y :: .int z :: st) M x = Rs L xs (d) 7 15 ls (.int (z &&& y) :: st) M x := Rs_next c7_14 rfl
theorem c7_15 : qx_code 7 15 = some (15, .ifCond .ne 9, 18, 24, 0, 0) := by decide +kernel
theorem s7_15 {L : Nat} {xs : Nat → Int32} {d x : Nat} {M : qxM} {st : List Value} {ls : qxL} {z : Int32} : Rs L xs (d) 7 15 ls (.int z :: st) M x = if z = 0 then Rs L xs (d) 7 18 ls st M x else Rs L xs (d) 7 24 ls st M x := Rs_ite c7_15 rfl
theorem c7_18 : qx_code 7 18 = some (18, .iload_n 1, 19, 0, 0, 0) := by decide +kernel
theorem s7_18 {L : Nat} {xs : Nat → Int32} {d x : Nat} {M : qxM} {st : List Value} {a0 a2 a3 a4 a5 a6 a7 a8 : Option Value} {z : Int32} : Rs L xs (d) 7 18 [a0, some (.int z), a2, a3, a4, a5, a6, a7, a8] st M x = Rs L xs (d) 7 19 [a0, some (.int z), a2, a3, a4, a5, a6, a7, a8] (.int z :: st) M x := Rs_next c7_18 rfl
theorem c7_19 : qx_code 7 19 = some (19, .iconst 2, 20, 0, 0, 0) := by decide +kernel
theorem s7_19 {L : Nat} {xs : Nat → Int32} {d x : Nat} {M : qxM} {st : List Value} {ls : qxL} : Rs L xs (d) 7 19 ls st M x = Rs L xs (d) 7 20 ls (.int (nI 2) :: st) M x := Rs_next c7_19 rfl
theorem c7_20 : qx_code 7 20 = some (20, .ishr, 21, 0, 0, 0) := by decide +kernel
theorem s7_20 {L : Nat} {xs : Nat → Int32} {d x : Nat} {M : qxM} {st : List Value} {ls : qxL} {z y : Int32} : Rs L xs (d) 7 20 ls (.int y :: .int z :: st) M x = Rs L xs (d) 7 21 ls (.int (z >>> (y &&& 31)) :: st) M x := Rs_next c7_20 rfl
theorem c7_21 : qx_code 7 21 = some (21, .goto 4, 24, 25, 0, 0) := by decide +kernel
theorem s7_21 {L : Nat} {xs : Nat → Int32} {d x : Nat} {M : qxM} {st : List Value} {ls : qxL} : Rs L xs (d) 7 21 ls st M x = Rs L xs (d) 7 25 ls st M x := Rs_next c7_21 rfl
theorem c7_24 : qx_code 7 24 = some (24, .iconst (-1), 25, 0, 0, 0) := by decide +kernel
theorem s7_24 {L : Nat} {xs : Nat → Int32} {d x : Nat} {M : qxM} {st : List Value} {ls : qxL} : Rs L xs (d) 7 24 ls st M x = Rs L xs (d) 7 25 ls (.int (-1) :: st) M x := Rs_next c7_24 rfl
theorem c7_25 : qx_code 7 25 = some (25, .istore_n 3, 26, 0, 0, 0) := by decide +kernel
theorem s7_25i {L : Nat} {xs : Nat → Int32} {d x : Nat} {M : qxM} {st : List Value} {a0 a1 a3 a4 a5 a6 a7 a8 : Option Value} {z : Int32} {y : Int32} : Rs L xs (d) 7 25 [a0, a1, some (.int y), a3, a4, a5, a6, a7, a8] (.int z :: st) M x = Rs L xs (d) 7 26 [a0, a1, some (.int y), some (.int z), a4, a5, a6, a7, a8] st M x := Rs_next c7_25 rfl
theorem s7_25r {L : Nat} {xs : Nat → Int32} {d x : Nat} {M : qxM} {st : List Value} {a0 a1 a3 a4 a5 a6 a7 a8 : Option Value} {z : Int32} {y : Nat} : Rs L xs (d) 7 25 [a0, a1, some (.ref y), a3, a4, a5, a6, a7, a8] (.int z :: st) M x = Rs L xs (d) 7 26 [a0, a1, some (.ref y), some (.int z), a4, a5, a6, a7, a8] st M x := Rs_next c7_25 rfl
theorem s7_25n {L : Nat} {xs : Nat → Int32} {d x : Nat} {M : qxM} {st : List Value} {a0 a1 a3 a4 a5 a6 a7 a8 : Option Value} {z : Int32} : Rs L xs (d) 7 25 [a0, a1, none, a3, a4, a5, a6, a7, a8] (.int z :: st) M x = Rs L xs (d) 7 26 [a0, a1, none, some (.int z), a4, a5, a6, a7, a8] st M x := Rs_next c7_25 rfl
theorem c7_26 : qx_code 7 26 = some (26, .aload_n 0, 27, 0, 0, 0) := by decide +kernel
theorem s7_26 {L : Nat} {xs : Nat → Int32} {d x : Nat} {M : qxM} {st : List Value} {a1 a2 a3 a4 a5 a6 a7 a8 : Option Value} {z : Nat} : Rs L xs (d) 7 26 [some (.ref z), a1, a2, a3, a4, a5, a6, a7, a8] st M x = Rs L xs (d) 7 27 [some (.ref z), a1, a2, a3, a4, a5, a6, a7, a8] (.ref z :: st) M x := Rs_next c7_26 rfl
theorem c7_27 : qx_code 7 27 = some (27, .getfield 18, 30, 0, 3, 256) := by decide +kernel
theorem s7_27 {L : Nat} {xs : Nat → Int32} {d x : Nat} {M : qxM} {st : List Value} {ls : qxL} {t : Nat} (hk : qx_kd t = 10) : Rs L xs (d) 7 27 ls (.ref t :: st) M x = Rs L xs (d) 7 30 ls (.ref (t + 3) :: st) M x := Rs_when (qx_kd_obj (k := 0) (by decide) hk) c7_27 rfl
theorem c7_30 : qx_code 7 30 = some (30, .iload_n 3, 31, 0, 0, 0) := by decide +kernel
theorem s7_30 {L : Nat} {xs : Nat → Int32} {d x : Nat} {M : qxM} {st : List Value} {a0 a1 a2 a4 a5 a6 a7 a8 : Option Value} {z : Int32} : Rs L xs (d) 7 30 [a0, a1, a2, some (.int z), a4, a5, a6, a7, a8] st M x = Rs L xs (d) 7 31 [a0, a1, a2, some (.int z), a4, a5, a6, a7, a8] (.int z :: st) M x := Rs_next c7_30 rfl
theorem c7_31 : qx_code 7 31 = some (31, .invokestatic 68, 34, 173, 2, 1005) := by decide +kernel
theorem s7_31 {L : Nat} {xs : Nat → Int32} {d x : Nat} {M : qxM} {st : List Value} {ls : qxL} {z0 : Nat} {z1 : Int32} (hs : st.length ≤ 4) : Rs L xs (d + 1) 7 31 ls (.int z1 :: .ref z0 :: st) M x = (Rs L xs d 173 0 [some (.ref z0), some (.int z1)] [] M 0).bind (qx_kn L xs (d + 1) 7 31 34 173 ls st x) := by
  have h1 : qx_act L xs (qx_rt 7) (31, .invokestatic 68, 34, 173, 2, 1005) ls (.int z1 :: .ref z0 :: st) M = if 2 ≤ (.int z1 :: .ref z0 :: st).length ∧ st.length ≤ 4 then some (.inr (.inr (.inr (173, [.ref z0, .int z1], st)))) else none := rfl
  rw [if_pos ⟨by simp [List.length_cons]; try omega, hs⟩] at h1
  exact Rs_call c7_31 h1 rfl
theorem c7_34 : qx_code 7 34 = some (34, .aload_n 0, 35, 0, 0, 0) := by decide +kernel
theorem s7_34 {L : Nat} {xs : Nat → Int32} {d x : Nat} {M : qxM} {st : List Value} {a1 a2 a3 a4 a5 a6 a7 a8 : Option Value} {z : Nat} : Rs L xs (d) 7 34 [some (.ref z), a1, a2, a3, a4, a5, a6, a7, a8] st M x = Rs L xs (d) 7 35 [some (.ref z), a1, a2, a3, a4, a5, a6, a7, a8] (.ref z :: st) M x := Rs_next c7_34 rfl
theorem c7_35 : qx_code 7 35 = some (35, .getfield 21, 38, 0, 4, 257) := by decide +kernel
theorem s7_35 {L : Nat} {xs : Nat → Int32} {d x : Nat} {M : qxM} {st : List Value} {ls : qxL} {t : Nat} (hk : qx_kd t = 10) : Rs L xs (d) 7 35 ls (.ref t :: st) M x = Rs L xs (d) 7 38 ls (.int (M.1 t 4) :: st) M x := Rs_when (qx_kd_obj (k := 0) (by decide) hk) c7_35 rfl
theorem c7_38 : qx_code 7 38 = some (38, .if_icmp .ne 12, 41, 50, 0, 0) := by decide +kernel
theorem s7_38 {L : Nat} {xs : Nat → Int32} {d x : Nat} {M : qxM} {st : List Value} {ls : qxL} {z y : Int32} : Rs L xs (d) 7 38 ls (.int y :: .int z :: st) M x = if z = y then Rs L xs (d) 7 41 ls st M x else Rs L xs (d) 7 50 ls st M x := Rs_ite c7_38 rfl
theorem c7_41 : qx_code 7 41 = some (41, .aload_n 0, 42, 0, 0, 0) := by decide +kernel
theorem s7_41 {L : Nat} {xs : Nat → Int32} {d x : Nat} {M : qxM} {st : List Value} {a1 a2 a3 a4 a5 a6 a7 a8 : Option Value} {z : Nat} : Rs L xs (d) 7 41 [some (.ref z), a1, a2, a3, a4, a5, a6, a7, a8] st M x = Rs L xs (d) 7 42 [some (.ref z), a1, a2, a3, a4, a5, a6, a7, a8] (.ref z :: st) M x := Rs_next c7_41 rfl
theorem c7_42 : qx_code 7 42 = some (42, .getfield 15, 45, 0, 2, 255) := by decide +kernel
theorem s7_42 {L : Nat} {xs : Nat → Int32} {d x : Nat} {M : qxM} {st : List Value} {ls : qxL} {t : Nat} (hk : qx_kd t = 10) : Rs L xs (d) 7 42 ls (.ref t :: st) M x = Rs L xs (d) 7 45 ls (.ref (t + 2) :: st) M x := Rs_when (qx_kd_obj (k := 0) (by decide) hk) c7_42 rfl
theorem c7_45 : qx_code 7 45 = some (45, .iload_n 3, 46, 0, 0, 0) := by decide +kernel
theorem s7_45 {L : Nat} {xs : Nat → Int32} {d x : Nat} {M : qxM} {st : List Value} {a0 a1 a2 a4 a5 a6 a7 a8 : Option Value} {z : Int32} : Rs L xs (d) 7 45 [a0, a1, a2, some (.int z), a4, a5, a6, a7, a8] st M x = Rs L xs (d) 7 46 [a0, a1, a2, some (.int z), a4, a5, a6, a7, a8] (.int z :: st) M x := Rs_next c7_45 rfl
theorem c7_46 : qx_code 7 46 = some (46, .invokestatic 68, 49, 173, 2, 1005) := by decide +kernel
theorem s7_46 {L : Nat} {xs : Nat → Int32} {d x : Nat} {M : qxM} {st : List Value} {ls : qxL} {z0 : Nat} {z1 : Int32} (hs : st.length ≤ 4) : Rs L xs (d + 1) 7 46 ls (.int z1 :: .ref z0 :: st) M x = (Rs L xs d 173 0 [some (.ref z0), some (.int z1)] [] M 0).bind (qx_kn L xs (d + 1) 7 46 49 173 ls st x) := by
  have h1 : qx_act L xs (qx_rt 7) (46, .invokestatic 68, 49, 173, 2, 1005) ls (.int z1 :: .ref z0 :: st) M = if 2 ≤ (.int z1 :: .ref z0 :: st).length ∧ st.length ≤ 4 then some (.inr (.inr (.inr (173, [.ref z0, .int z1], st)))) else none := rfl
  rw [if_pos ⟨by simp [List.length_cons]; try omega, hs⟩] at h1
  exact Rs_call c7_46 h1 rfl
theorem c7_49 : qx_code 7 49 = some (49, .ireturn, 50, 0, 0, 0) := by decide +kernel
theorem s7_49 {L : Nat} {xs : Nat → Int32} {d x : Nat} {M : qxM} {ls : qxL} {z : Int32} : Rs L xs (d) 7 49 ls [.int z] M x = some (.inl (some (.int z)), M, x) := Rs_ret c7_49 rfl
theorem c7_50 : qx_code 7 50 = some (50, .iload_n 1, 51, 0, 0, 0) := by decide +kernel
theorem s7_50 {L : Nat} {xs : Nat → Int32} {d x : Nat} {M : qxM} {st : List Value} {a0 a2 a3 a4 a5 a6 a7 a8 : Option Value} {z : Int32} : Rs L xs (d) 7 50 [a0, some (.int z), a2, a3, a4, a5, a6, a7, a8] st M x = Rs L xs (d) 7 51 [a0, some (.int z), a2, a3, a4, a5, a6, a7, a8] (.int z :: st) M x := Rs_next c7_50 rfl
theorem c7_51 : qx_code 7 51 = some (51, .invokestatic 72, 54, 171, 1, 1006) := by decide +kernel
theorem s7_51 {L : Nat} {xs : Nat → Int32} {d x : Nat} {M : qxM} {st : List Value} {ls : qxL} {z0 : Int32} (hs : st.length ≤ 4) : Rs L xs (d + 1) 7 51 ls (.int z0 :: st) M x = (Rs L xs d 171 0 [some (.int z0)] [] M 0).bind (qx_kn L xs (d + 1) 7 51 54 171 ls st x) := by
  have h1 : qx_act L xs (qx_rt 7) (51, .invokestatic 72, 54, 171, 1, 1006) ls (.int z0 :: st) M = if 1 ≤ (.int z0 :: st).length ∧ st.length ≤ 4 then some (.inr (.inr (.inr (171, [.int z0], st)))) else none := rfl
  rw [if_pos ⟨by simp [List.length_cons]; try omega, hs⟩] at h1
  exact Rs_call c7_51 h1 rfl
theorem c7_54 : qx_code 7 54 = some (54, .istore 4, 56, 0, 0, 0) := by decide +kernel
theorem s7_54i {L : Nat} {xs : Nat → Int32} {d x : Nat} {M : qxM} {st : List Value} {a0 a1 a2 a4 a5 a6 a7 a8 : Option Value} {z : Int32} {y : Int32} : Rs L xs (d) 7 54 [a0, a1, a2, some (.int y), a4, a5, a6, a7, a8] (.int z :: st) M x = Rs L xs (d) 7 56 [a0, a1, a2, some (.int y), some (.int z), a5, a6, a7, a8] st M x := Rs_next c7_54 rfl
theorem s7_54r {L : Nat} {xs : Nat → Int32} {d x : Nat} {M : qxM} {st : List Value} {a0 a1 a2 a4 a5 a6 a7 a8 : Option Value} {z : Int32} {y : Nat} : Rs L xs (d) 7 54 [a0, a1, a2, some (.ref y), a4, a5, a6, a7, a8] (.int z :: st) M x = Rs L xs (d) 7 56 [a0, a1, a2, some (.ref y), some (.int z), a5, a6, a7, a8] st M x := Rs_next c7_54 rfl
theorem s7_54n {L : Nat} {xs : Nat → Int32} {d x : Nat} {M : qxM} {st : List Value} {a0 a1 a2 a4 a5 a6 a7 a8 : Option Value} {z : Int32} : Rs L xs (d) 7 54 [a0, a1, a2, none, a4, a5, a6, a7, a8] (.int z :: st) M x = Rs L xs (d) 7 56 [a0, a1, a2, none, some (.int z), a5, a6, a7, a8] st M x := Rs_next c7_54 rfl
theorem c7_56 : qx_code 7 56 = some (56, .iload_n 1, 57, 0, 0, 0) := by decide +kernel
theorem s7_56 {L : Nat} {xs : Nat → Int32} {d x : Nat} {M : qxM} {st : List Value} {a0 a2 a3 a4 a5 a6 a7 a8 : Option Value} {z : Int32} : Rs L xs (d) 7 56 [a0, some (.int z), a2, a3, a4, a5, a6, a7, a8] st M x = Rs L xs (d) 7 57 [a0, some (.int z), a2, a3, a4, a5, a6, a7, a8] (.int z :: st) M x := Rs_next c7_56 rfl
theorem c7_57 : qx_code 7 57 = some (57, .iload 4, 59, 0, 0, 0) := by decide +kernel
theorem s7_57 {L : Nat} {xs : Nat → Int32} {d x : Nat} {M : qxM} {st : List Value} {a0 a1 a2 a3 a5 a6 a7 a8 : Option Value} {z : Int32} : Rs L xs (d) 7 57 [a0, a1, a2, a3, some (.int z), a5, a6, a7, a8] st M x = Rs L xs (d) 7 59 [a0, a1, a2, a3, some (.int z), a5, a6, a7, a8] (.int z :: st) M x := Rs_next c7_57 rfl
theorem c7_59 : qx_code 7 59 = some (59, .invokestatic 60, 62, 169, 1, 1009) := by decide +kernel
theorem s7_59 {L : Nat} {xs : Nat → Int32} {d x : Nat} {M : qxM} {st : List Value} {ls : qxL} {z0 : Int32} (hs : st.length ≤ 4) : Rs L xs (d + 1) 7 59 ls (.int z0 :: st) M x = (Rs L xs d 169 0 [some (.int z0)] [] M 0).bind (qx_kn L xs (d + 1) 7 59 62 169 ls st x) := by
  have h1 : qx_act L xs (qx_rt 7) (59, .invokestatic 60, 62, 169, 1, 1009) ls (.int z0 :: st) M = if 1 ≤ (.int z0 :: st).length ∧ st.length ≤ 4 then some (.inr (.inr (.inr (169, [.int z0], st)))) else none := rfl
  rw [if_pos ⟨by simp [List.length_cons]; try omega, hs⟩] at h1
  exact Rs_call c7_59 h1 rfl
theorem c7_62 : qx_code 7 62 = some (62, .iconst (-1), 63, 0, 0, 0) := by decide +kernel
theorem s7_62 {L : Nat} {xs : Nat → Int32} {d x : Nat} {M : qxM} {st : List Value} {ls : qxL} : Rs L xs (d) 7 62 ls st M x = Rs L xs (d) 7 63 ls (.int (-1) :: st) M x := Rs_next c7_62 rfl
theorem c7_63 : qx_code 7 63 = some (63, .ixor, 64, 0, 0, 0) := by decide +kernel
theorem s7_63 {L : Nat} {xs : Nat → Int32} {d x : Nat} {M : qxM} {st : List Value} {ls : qxL} {z y : Int32} : Rs L xs (d) 7 63 ls (.int y :: .int z :: st) M x = Rs L xs (d) 7 64 ls (.int (z ^^^ y) :: st) M x := Rs_next c7_63 rfl
theorem c7_64 : qx_code 7 64 = some (64, .iand, 65, 0, 0, 0) := by decide +kernel
theorem s7_64 {L : Nat} {xs : Nat → Int32} {d x : Nat} {M : qxM} {st : List Value} {ls : qxL} {z y : Int32} : Rs L xs (d) 7 64 ls (.int y :: .int z :: st) M x = Rs L xs (d) 7 65 ls (.int (z &&& y) :: st) M x := Rs_next c7_64 rfl
theorem c7_65 : qx_code 7 65 = some (65, .istore 5, 67, 0, 0, 0) := by decide +kernel
theorem s7_65i {L : Nat} {xs : Nat → Int32} {d x : Nat} {M : qxM} {st : List Value} {a0 a1 a2 a3 a5 a6 a7 a8 : Option Value} {z : Int32} {y : Int32} : Rs L xs (d) 7 65 [a0, a1, a2, a3, some (.int y), a5, a6, a7, a8] (.int z :: st) M x = Rs L xs (d) 7 67 [a0, a1, a2, a3, some (.int y), some (.int z), a6, a7, a8] st M x := Rs_next c7_65 rfl
theorem s7_65r {L : Nat} {xs : Nat → Int32} {d x : Nat} {M : qxM} {st : List Value} {a0 a1 a2 a3 a5 a6 a7 a8 : Option Value} {z : Int32} {y : Nat} : Rs L xs (d) 7 65 [a0, a1, a2, a3, some (.ref y), a5, a6, a7, a8] (.int z :: st) M x = Rs L xs (d) 7 67 [a0, a1, a2, a3, some (.ref y), some (.int z), a6, a7, a8] st M x := Rs_next c7_65 rfl
theorem s7_65n {L : Nat} {xs : Nat → Int32} {d x : Nat} {M : qxM} {st : List Value} {a0 a1 a2 a3 a5 a6 a7 a8 : Option Value} {z : Int32} : Rs L xs (d) 7 65 [a0, a1, a2, a3, none, a5, a6, a7, a8] (.int z :: st) M x = Rs L xs (d) 7 67 [a0, a1, a2, a3, none, some (.int z), a6, a7, a8] st M x := Rs_next c7_65 rfl
theorem c7_67 : qx_code 7 67 = some (67, .iload 5, 69, 0, 0, 0) := by decide +kernel
theorem s7_67 {L : Nat} {xs : Nat → Int32} {d x : Nat} {M : qxM} {st : List Value} {a0 a1 a2 a3 a4 a6 a7 a8 : Option Value} {z : Int32} : Rs L xs (d) 7 67 [a0, a1, a2, a3, a4, some (.int z), a6, a7, a8] st M x = Rs L xs (d) 7 69 [a0, a1, a2, a3, a4, some (.int z), a6, a7, a8] (.int z :: st) M x := Rs_next c7_67 rfl
theorem c7_69 : qx_code 7 69 = some (69, .aload_n 0, 70, 0, 0, 0) := by decide +kernel
theorem s7_69 {L : Nat} {xs : Nat → Int32} {d x : Nat} {M : qxM} {st : List Value} {a1 a2 a3 a4 a5 a6 a7 a8 : Option Value} {z : Nat} : Rs L xs (d) 7 69 [some (.ref z), a1, a2, a3, a4, a5, a6, a7, a8] st M x = Rs L xs (d) 7 70 [some (.ref z), a1, a2, a3, a4, a5, a6, a7, a8] (.ref z :: st) M x := Rs_next c7_69 rfl
theorem c7_70 : qx_code 7 70 = some (70, .iload 4, 72, 0, 0, 0) := by decide +kernel
theorem s7_70 {L : Nat} {xs : Nat → Int32} {d x : Nat} {M : qxM} {st : List Value} {a0 a1 a2 a3 a5 a6 a7 a8 : Option Value} {z : Int32} : Rs L xs (d) 7 70 [a0, a1, a2, a3, some (.int z), a5, a6, a7, a8] st M x = Rs L xs (d) 7 72 [a0, a1, a2, a3, some (.int z), a5, a6, a7, a8] (.int z :: st) M x := Rs_next c7_70 rfl
theorem c7_72 : qx_code 7 72 = some (72, .invokevirtual 38, 75, 9, 2, 989) := by decide +kernel
theorem s7_72 {L : Nat} {xs : Nat → Int32} {d x : Nat} {M : qxM} {st : List Value} {ls : qxL} {t : Nat} {z0 : Int32} (hk : qx_kd t = 10) (hs : st.length ≤ 4) : Rs L xs (d + 1) 7 72 ls (.int z0 :: .ref t :: st) M x = (Rs L xs d 9 0 [some (.ref t), some (.int z0)] [] M 0).bind (qx_kn L xs (d + 1) 7 72 75 9 ls st x) := by
  have h1 : qx_act L xs (qx_rt 7) (72, .invokevirtual 38, 75, 9, 2, 989) ls (.int z0 :: .ref t :: st) M = if 2 ≤ (.int z0 :: .ref t :: st).length ∧ st.length ≤ 4 then some (.inr (.inr (.inr (9, [.ref t, .int z0], st)))) else none := rfl
  rw [if_pos ⟨by simp [List.length_cons]; try omega, hs⟩] at h1
  have h2 := qx_kd_obj (k := 0) (by decide) hk
  exact Rs_call c7_72 h1 (by rw [show qx_args 9 [.ref t, .int z0] = decide (qx_sh t = some (.inl 0)) from rfl]; exact decide_eq_true h2)
theorem c7_75 : qx_code 7 75 = some (75, .iand, 76, 0, 0, 0) := by decide +kernel
theorem s7_75 {L : Nat} {xs : Nat → Int32} {d x : Nat} {M : qxM} {st : List Value} {ls : qxL} {z y : Int32} : Rs L xs (d) 7 75 ls (.int y :: .int z :: st) M x = Rs L xs (d) 7 76 ls (.int (z &&& y) :: st) M x := Rs_next c7_75 rfl
theorem c7_76 : qx_code 7 76 = some (76, .istore 6, 78, 0, 0, 0) := by decide +kernel
theorem s7_76i {L : Nat} {xs : Nat → Int32} {d x : Nat} {M : qxM} {st : List Value} {a0 a1 a2 a3 a4 a6 a7 a8 : Option Value} {z : Int32} {y : Int32} : Rs L xs (d) 7 76 [a0, a1, a2, a3, a4, some (.int y), a6, a7, a8] (.int z :: st) M x = Rs L xs (d) 7 78 [a0, a1, a2, a3, a4, some (.int y), some (.int z), a7, a8] st M x := Rs_next c7_76 rfl
theorem s7_76r {L : Nat} {xs : Nat → Int32} {d x : Nat} {M : qxM} {st : List Value} {a0 a1 a2 a3 a4 a6 a7 a8 : Option Value} {z : Int32} {y : Nat} : Rs L xs (d) 7 76 [a0, a1, a2, a3, a4, some (.ref y), a6, a7, a8] (.int z :: st) M x = Rs L xs (d) 7 78 [a0, a1, a2, a3, a4, some (.ref y), some (.int z), a7, a8] st M x := Rs_next c7_76 rfl
theorem s7_76n {L : Nat} {xs : Nat → Int32} {d x : Nat} {M : qxM} {st : List Value} {a0 a1 a2 a3 a4 a6 a7 a8 : Option Value} {z : Int32} : Rs L xs (d) 7 76 [a0, a1, a2, a3, a4, none, a6, a7, a8] (.int z :: st) M x = Rs L xs (d) 7 78 [a0, a1, a2, a3, a4, none, some (.int z), a7, a8] st M x := Rs_next c7_76 rfl
theorem c7_78 : qx_code 7 78 = some (78, .aload_n 0, 79, 0, 0, 0) := by decide +kernel
theorem s7_78 {L : Nat} {xs : Nat → Int32} {d x : Nat} {M : qxM} {st : List Value} {a1 a2 a3 a4 a5 a6 a7 a8 : Option Value} {z : Nat} : Rs L xs (d) 7 78 [some (.ref z), a1, a2, a3, a4, a5, a6, a7, a8] st M x = Rs L xs (d) 7 79 [some (.ref z), a1, a2, a3, a4, a5, a6, a7, a8] (.ref z :: st) M x := Rs_next c7_78 rfl
theorem c7_79 : qx_code 7 79 = some (79, .iload 5, 81, 0, 0, 0) := by decide +kernel
theorem s7_79 {L : Nat} {xs : Nat → Int32} {d x : Nat} {M : qxM} {st : List Value} {a0 a1 a2 a3 a4 a6 a7 a8 : Option Value} {z : Int32} : Rs L xs (d) 7 79 [a0, a1, a2, a3, a4, some (.int z), a6, a7, a8] st M x = Rs L xs (d) 7 81 [a0, a1, a2, a3, a4, some (.int z), a6, a7, a8] (.int z :: st) M x := Rs_next c7_79 rfl
theorem c7_81 : qx_code 7 81 = some (81, .iload_n 2, 82, 0, 0, 0) := by decide +kernel
theorem s7_81 {L : Nat} {xs : Nat → Int32} {d x : Nat} {M : qxM} {st : List Value} {a0 a1 a3 a4 a5 a6 a7 a8 : Option Value} {z : Int32} : Rs L xs (d) 7 81 [a0, a1, some (.int z), a3, a4, a5, a6, a7, a8] st M x = Rs L xs (d) 7 82 [a0, a1, some (.int z), a3, a4, a5, a6, a7, a8] (.int z :: st) M x := Rs_next c7_81 rfl
theorem c7_82 : qx_code 7 82 = some (82, .iconst 1, 83, 0, 0, 0) := by decide +kernel
theorem s7_82 {L : Nat} {xs : Nat → Int32} {d x : Nat} {M : qxM} {st : List Value} {ls : qxL} : Rs L xs (d) 7 82 ls st M x = Rs L xs (d) 7 83 ls (.int (nI 1) :: st) M x := Rs_next c7_82 rfl
theorem c7_83 : qx_code 7 83 = some (83, .iadd, 84, 0, 0, 0) := by decide +kernel
theorem s7_83 {L : Nat} {xs : Nat → Int32} {d x : Nat} {M : qxM} {st : List Value} {ls : qxL} {z y : Int32} : Rs L xs (d) 7 83 ls (.int y :: .int z :: st) M x = Rs L xs (d) 7 84 ls (.int (z + y) :: st) M x := Rs_next c7_83 rfl
theorem c7_84 : qx_code 7 84 = some (84, .invokestatic 63, 87, 7, 3, 1002) := by decide +kernel
theorem s7_84 {L : Nat} {xs : Nat → Int32} {d x : Nat} {M : qxM} {st : List Value} {ls : qxL} {z0 : Nat} {z1 : Int32} {z2 : Int32} (hs : st.length ≤ 4) : Rs L xs (d + 1) 7 84 ls (.int z2 :: .int z1 :: .ref z0 :: st) M x = (Rs L xs d 7 0 [some (.ref z0), some (.int z1), some (.int z2), none, none, none, none, none, none] [] M 0).bind (qx_kn L xs (d + 1) 7 84 87 7 ls st x) := by
  have h1 : qx_act L xs (qx_rt 7) (84, .invokestatic 63, 87, 7, 3, 1002) ls (.int z2 :: .int z1 :: .ref z0 :: st) M = if 3 ≤ (.int z2 :: .int z1 :: .ref z0 :: st).length ∧ st.length ≤ 4 then some (.inr (.inr (.inr (7, [.ref z0, .int z1, .int z2], st)))) else none := rfl
  rw [if_pos ⟨by simp [List.length_cons]; try omega, hs⟩] at h1
  exact Rs_call c7_84 h1 rfl
theorem c7_87 : qx_code 7 87 = some (87, .istore 7, 89, 0, 0, 0) := by decide +kernel
theorem s7_87i {L : Nat} {xs : Nat → Int32} {d x : Nat} {M : qxM} {st : List Value} {a0 a1 a2 a3 a4 a5 a7 a8 : Option Value} {z : Int32} {y : Int32} : Rs L xs (d) 7 87 [a0, a1, a2, a3, a4, a5, some (.int y), a7, a8] (.int z :: st) M x = Rs L xs (d) 7 89 [a0, a1, a2, a3, a4, a5, some (.int y), some (.int z), a8] st M x := Rs_next c7_87 rfl
theorem s7_87r {L : Nat} {xs : Nat → Int32} {d x : Nat} {M : qxM} {st : List Value} {a0 a1 a2 a3 a4 a5 a7 a8 : Option Value} {z : Int32} {y : Nat} : Rs L xs (d) 7 87 [a0, a1, a2, a3, a4, a5, some (.ref y), a7, a8] (.int z :: st) M x = Rs L xs (d) 7 89 [a0, a1, a2, a3, a4, a5, some (.ref y), some (.int z), a8] st M x := Rs_next c7_87 rfl
theorem s7_87n {L : Nat} {xs : Nat → Int32} {d x : Nat} {M : qxM} {st : List Value} {a0 a1 a2 a3 a4 a5 a7 a8 : Option Value} {z : Int32} : Rs L xs (d) 7 87 [a0, a1, a2, a3, a4, a5, none, a7, a8] (.int z :: st) M x = Rs L xs (d) 7 89 [a0, a1, a2, a3, a4, a5, none, some (.int z), a8] st M x := Rs_next c7_87 rfl
theorem c7_89 : qx_code 7 89 = some (89, .iload 4, 91, 0, 0, 0) := by decide +kernel
theorem s7_89 {L : Nat} {xs : Nat → Int32} {d x : Nat} {M : qxM} {st : List Value} {a0 a1 a2 a3 a5 a6 a7 a8 : Option Value} {z : Int32} : Rs L xs (d) 7 89 [a0, a1, a2, a3, some (.int z), a5, a6, a7, a8] st M x = Rs L xs (d) 7 91 [a0, a1, a2, a3, some (.int z), a5, a6, a7, a8] (.int z :: st) M x := Rs_next c7_89 rfl
theorem c7_91 : qx_code 7 91 = some (91, .iconst 1, 92, 0, 0, 0) := by decide +kernel
theorem s7_91 {L : Nat} {xs : Nat → Int32} {d x : Nat} {M : qxM} {st : List Value} {ls : qxL} : Rs L xs (d) 7 91 ls st M x = Rs L xs (d) 7 92 ls (.int (nI 1) :: st) M x := Rs_next c7_91 rfl
theorem c7_92 : qx_code 7 92 = some (92, .iadd, 93, 0, 0, 0) := by decide +kernel
theorem s7_92 {L : Nat} {xs : Nat → Int32} {d x : Nat} {M : qxM} {st : List Value} {ls : qxL} {z y : Int32} : Rs L xs (d) 7 92 ls (.int y :: .int z :: st) M x = Rs L xs (d) 7 93 ls (.int (z + y) :: st) M x := Rs_next c7_92 rfl
theorem c7_93 : qx_code 7 93 = some (93, .istore 8, 95, 0, 0, 0) := by decide +kernel
theorem s7_93i {L : Nat} {xs : Nat → Int32} {d x : Nat} {M : qxM} {st : List Value} {a0 a1 a2 a3 a4 a5 a6 a8 : Option Value} {z : Int32} {y : Int32} : Rs L xs (d) 7 93 [a0, a1, a2, a3, a4, a5, a6, some (.int y), a8] (.int z :: st) M x = Rs L xs (d) 7 95 [a0, a1, a2, a3, a4, a5, a6, some (.int y), some (.int z)] st M x := Rs_next c7_93 rfl
theorem s7_93r {L : Nat} {xs : Nat → Int32} {d x : Nat} {M : qxM} {st : List Value} {a0 a1 a2 a3 a4 a5 a6 a8 : Option Value} {z : Int32} {y : Nat} : Rs L xs (d) 7 93 [a0, a1, a2, a3, a4, a5, a6, some (.ref y), a8] (.int z :: st) M x = Rs L xs (d) 7 95 [a0, a1, a2, a3, a4, a5, a6, some (.ref y), some (.int z)] st M x := Rs_next c7_93 rfl
theorem s7_93n {L : Nat} {xs : Nat → Int32} {d x : Nat} {M : qxM} {st : List Value} {a0 a1 a2 a3 a4 a5 a6 a8 : Option Value} {z : Int32} : Rs L xs (d) 7 93 [a0, a1, a2, a3, a4, a5, a6, none, a8] (.int z :: st) M x = Rs L xs (d) 7 95 [a0, a1, a2, a3, a4, a5, a6, none, some (.int z)] st M x := Rs_next c7_93 rfl
theorem c7_95 : qx_code 7 95 = some (95, .iload 8, 97, 0, 0, 0) := by decide +kernel
theorem s7_95 {L : Nat} {xs : Nat → Int32} {d x : Nat} {M : qxM} {st : List Value} {a0 a1 a2 a3 a4 a5 a6 a7 : Option Value} {z : Int32} : Rs L xs (d) 7 95 [a0, a1, a2, a3, a4, a5, a6, a7, some (.int z)] st M x = Rs L xs (d) 7 97 [a0, a1, a2, a3, a4, a5, a6, a7, some (.int z)] (.int z :: st) M x := Rs_next c7_95 rfl
theorem c7_97 : qx_code 7 97 = some (97, .bipush 14, 99, 0, 0, 0) := by decide +kernel
theorem s7_97 {L : Nat} {xs : Nat → Int32} {d x : Nat} {M : qxM} {st : List Value} {ls : qxL} : Rs L xs (d) 7 97 ls st M x = Rs L xs (d) 7 99 ls (.int (nI 14) :: st) M x := Rs_next c7_97 rfl
theorem c7_99 : qx_code 7 99 = some (99, .if_icmp .ge 46, 102, 145, 0, 0) := by decide +kernel
theorem s7_99 {L : Nat} {xs : Nat → Int32} {d x : Nat} {M : qxM} {st : List Value} {ls : qxL} {z y : Int32} : Rs L xs (d) 7 99 ls (.int y :: .int z :: st) M x = if y ≤ z then Rs L xs (d) 7 145 ls st M x else Rs L xs (d) 7 102 ls st M x := Rs_ite c7_99 rfl
theorem c7_102 : qx_code 7 102 = some (102, .iload 6, 104, 0, 0, 0) := by decide +kernel
theorem s7_102 {L : Nat} {xs : Nat → Int32} {d x : Nat} {M : qxM} {st : List Value} {a0 a1 a2 a3 a4 a5 a7 a8 : Option Value} {z : Int32} : Rs L xs (d) 7 102 [a0, a1, a2, a3, a4, a5, some (.int z), a7, a8] st M x = Rs L xs (d) 7 104 [a0, a1, a2, a3, a4, a5, some (.int z), a7, a8] (.int z :: st) M x := Rs_next c7_102 rfl
theorem c7_104 : qx_code 7 104 = some (104, .iload 8, 106, 0, 0, 0) := by decide +kernel
theorem s7_104 {L : Nat} {xs : Nat → Int32} {d x : Nat} {M : qxM} {st : List Value} {a0 a1 a2 a3 a4 a5 a6 a7 : Option Value} {z : Int32} : Rs L xs (d) 7 104 [a0, a1, a2, a3, a4, a5, a6, a7, some (.int z)] st M x = Rs L xs (d) 7 106 [a0, a1, a2, a3, a4, a5, a6, a7, some (.int z)] (.int z :: st) M x := Rs_next c7_104 rfl
theorem c7_106 : qx_code 7 106 = some (106, .invokestatic 75, 109, 170, 2, 1010) := by decide +kernel
theorem s7_106 {L : Nat} {xs : Nat → Int32} {d x : Nat} {M : qxM} {st : List Value} {ls : qxL} {z0 : Int32} {z1 : Int32} (hs : st.length ≤ 4) : Rs L xs (d + 1) 7 106 ls (.int z1 :: .int z0 :: st) M x = (Rs L xs d 170 0 [some (.int z0), some (.int z1)] [] M 0).bind (qx_kn L xs (d + 1) 7 106 109 170 ls st x) := by
  have h1 : qx_act L xs (qx_rt 7) (106, .invokestatic 75, 109, 170, 2, 1010) ls (.int z1 :: .int z0 :: st) M = if 2 ≤ (.int z1 :: .int z0 :: st).length ∧ st.length ≤ 4 then some (.inr (.inr (.inr (170, [.int z0, .int z1], st)))) else none := rfl
  rw [if_pos ⟨by simp [List.length_cons]; try omega, hs⟩] at h1
  exact Rs_call c7_106 h1 rfl
theorem c7_109 : qx_code 7 109 = some (109, .ifCond .eq 30, 112, 139, 0, 0) := by decide +kernel
theorem s7_109 {L : Nat} {xs : Nat → Int32} {d x : Nat} {M : qxM} {st : List Value} {ls : qxL} {z : Int32} : Rs L xs (d) 7 109 ls (.int z :: st) M x = if z = 0 then Rs L xs (d) 7 139 ls st M x else Rs L xs (d) 7 112 ls st M x := Rs_ite c7_109 rfl
theorem c7_112 : qx_code 7 112 = some (112, .iload 7, 114, 0, 0, 0) := by decide +kernel
theorem s7_112 {L : Nat} {xs : Nat → Int32} {d x : Nat} {M : qxM} {st : List Value} {a0 a1 a2 a3 a4 a5 a6 a8 : Option Value} {z : Int32} : Rs L xs (d) 7 112 [a0, a1, a2, a3, a4, a5, a6, some (.int z), a8] st M x = Rs L xs (d) 7 114 [a0, a1, a2, a3, a4, a5, a6, some (.int z), a8] (.int z :: st) M x := Rs_next c7_112 rfl
theorem c7_114 : qx_code 7 114 = some (114, .aload_n 0, 115, 0, 0, 0) := by decide +kernel
theorem s7_114 {L : Nat} {xs : Nat → Int32} {d x : Nat} {M : qxM} {st : List Value} {a1 a2 a3 a4 a5 a6 a7 a8 : Option Value} {z : Nat} : Rs L xs (d) 7 114 [some (.ref z), a1, a2, a3, a4, a5, a6, a7, a8] st M x = Rs L xs (d) 7 115 [some (.ref z), a1, a2, a3, a4, a5, a6, a7, a8] (.ref z :: st) M x := Rs_next c7_114 rfl
theorem c7_115 : qx_code 7 115 = some (115, .iload 5, 117, 0, 0, 0) := by decide +kernel
theorem s7_115 {L : Nat} {xs : Nat → Int32} {d x : Nat} {M : qxM} {st : List Value} {a0 a1 a2 a3 a4 a6 a7 a8 : Option Value} {z : Int32} : Rs L xs (d) 7 115 [a0, a1, a2, a3, a4, some (.int z), a6, a7, a8] st M x = Rs L xs (d) 7 117 [a0, a1, a2, a3, a4, some (.int z), a6, a7, a8] (.int z :: st) M x := Rs_next c7_115 rfl
theorem c7_117 : qx_code 7 117 = some (117, .iload 8, 119, 0, 0, 0) := by decide +kernel
theorem s7_117 {L : Nat} {xs : Nat → Int32} {d x : Nat} {M : qxM} {st : List Value} {a0 a1 a2 a3 a4 a5 a6 a7 : Option Value} {z : Int32} : Rs L xs (d) 7 117 [a0, a1, a2, a3, a4, a5, a6, a7, some (.int z)] st M x = Rs L xs (d) 7 119 [a0, a1, a2, a3, a4, a5, a6, a7, some (.int z)] (.int z :: st) M x := Rs_next c7_117 rfl
theorem c7_119 : qx_code 7 119 = some (119, .invokestatic 60, 122, 169, 1, 1009) := by decide +kernel
theorem s7_119 {L : Nat} {xs : Nat → Int32} {d x : Nat} {M : qxM} {st : List Value} {ls : qxL} {z0 : Int32} (hs : st.length ≤ 4) : Rs L xs (d + 1) 7 119 ls (.int z0 :: st) M x = (Rs L xs d 169 0 [some (.int z0)] [] M 0).bind (qx_kn L xs (d + 1) 7 119 122 169 ls st x) := by
  have h1 : qx_act L xs (qx_rt 7) (119, .invokestatic 60, 122, 169, 1, 1009) ls (.int z0 :: st) M = if 1 ≤ (.int z0 :: st).length ∧ st.length ≤ 4 then some (.inr (.inr (.inr (169, [.int z0], st)))) else none := rfl
  rw [if_pos ⟨by simp [List.length_cons]; try omega, hs⟩] at h1
  exact Rs_call c7_119 h1 rfl
theorem c7_122 : qx_code 7 122 = some (122, .iconst (-1), 123, 0, 0, 0) := by decide +kernel
theorem s7_122 {L : Nat} {xs : Nat → Int32} {d x : Nat} {M : qxM} {st : List Value} {ls : qxL} : Rs L xs (d) 7 122 ls st M x = Rs L xs (d) 7 123 ls (.int (-1) :: st) M x := Rs_next c7_122 rfl
theorem c7_123 : qx_code 7 123 = some (123, .ixor, 124, 0, 0, 0) := by decide +kernel
theorem s7_123 {L : Nat} {xs : Nat → Int32} {d x : Nat} {M : qxM} {st : List Value} {ls : qxL} {z y : Int32} : Rs L xs (d) 7 123 ls (.int y :: .int z :: st) M x = Rs L xs (d) 7 124 ls (.int (z ^^^ y) :: st) M x := Rs_next c7_123 rfl
theorem c7_124 : qx_code 7 124 = some (124, .iand, 125, 0, 0, 0) := by decide +kernel
theorem s7_124 {L : Nat} {xs : Nat → Int32} {d x : Nat} {M : qxM} {st : List Value} {ls : qxL} {z y : Int32} : Rs L xs (d) 7 124 ls (.int y :: .int z :: st) M x = Rs L xs (d) 7 125 ls (.int (z &&& y) :: st) M x := Rs_next c7_124 rfl
theorem c7_125 : qx_code 7 125 = some (125, .iload_n 2, 126, 0, 0, 0) := by decide +kernel
theorem s7_125 {L : Nat} {xs : Nat → Int32} {d x : Nat} {M : qxM} {st : List Value} {a0 a1 a3 a4 a5 a6 a7 a8 : Option Value} {z : Int32} : Rs L xs (d) 7 125 [a0, a1, some (.int z), a3, a4, a5, a6, a7, a8] st M x = Rs L xs (d) 7 126 [a0, a1, some (.int z), a3, a4, a5, a6, a7, a8] (.int z :: st) M x := Rs_next c7_125 rfl
theorem c7_126 : qx_code 7 126 = some (126, .iconst 1, 127, 0, 0, 0) := by decide +kernel
theorem s7_126 {L : Nat} {xs : Nat → Int32} {d x : Nat} {M : qxM} {st : List Value} {ls : qxL} : Rs L xs (d) 7 126 ls st M x = Rs L xs (d) 7 127 ls (.int (nI 1) :: st) M x := Rs_next c7_126 rfl
theorem c7_127 : qx_code 7 127 = some (127, .iadd, 128, 0, 0, 0) := by decide +kernel
theorem s7_127 {L : Nat} {xs : Nat → Int32} {d x : Nat} {M : qxM} {st : List Value} {ls : qxL} {z y : Int32} : Rs L xs (d) 7 127 ls (.int y :: .int z :: st) M x = Rs L xs (d) 7 128 ls (.int (z + y) :: st) M x := Rs_next c7_127 rfl
theorem c7_128 : qx_code 7 128 = some (128, .invokestatic 63, 131, 7, 3, 1002) := by decide +kernel
theorem s7_128 {L : Nat} {xs : Nat → Int32} {d x : Nat} {M : qxM} {st : List Value} {ls : qxL} {z0 : Nat} {z1 : Int32} {z2 : Int32} (hs : st.length ≤ 4) : Rs L xs (d + 1) 7 128 ls (.int z2 :: .int z1 :: .ref z0 :: st) M x = (Rs L xs d 7 0 [some (.ref z0), some (.int z1), some (.int z2), none, none, none, none, none, none] [] M 0).bind (qx_kn L xs (d + 1) 7 128 131 7 ls st x) := by
  have h1 : qx_act L xs (qx_rt 7) (128, .invokestatic 63, 131, 7, 3, 1002) ls (.int z2 :: .int z1 :: .ref z0 :: st) M = if 3 ≤ (.int z2 :: .int z1 :: .ref z0 :: st).length ∧ st.length ≤ 4 then some (.inr (.inr (.inr (7, [.ref z0, .int z1, .int z2], st)))) else none := rfl
  rw [if_pos ⟨by simp [List.length_cons]; try omega, hs⟩] at h1
  exact Rs_call c7_128 h1 rfl
theorem c7_131 : qx_code 7 131 = some (131, .ldc 67, 133, 1048576, 0, 1011) := by decide +kernel
theorem s7_131 {L : Nat} {xs : Nat → Int32} {d x : Nat} {M : qxM} {st : List Value} {ls : qxL} : Rs L xs (d) 7 131 ls st M x = Rs L xs (d) 7 133 ls (.int (nI 1048576) :: st) M x := Rs_next c7_131 rfl
theorem c7_133 : qx_code 7 133 = some (133, .iadd, 134, 0, 0, 0) := by decide +kernel
theorem s7_133 {L : Nat} {xs : Nat → Int32} {d x : Nat} {M : qxM} {st : List Value} {ls : qxL} {z y : Int32} : Rs L xs (d) 7 133 ls (.int y :: .int z :: st) M x = Rs L xs (d) 7 134 ls (.int (z + y) :: st) M x := Rs_next c7_133 rfl
theorem c7_134 : qx_code 7 134 = some (134, .invokestatic 79, 137, 8, 2, 1012) := by decide +kernel
theorem s7_134 {L : Nat} {xs : Nat → Int32} {d x : Nat} {M : qxM} {st : List Value} {ls : qxL} {z0 : Int32} {z1 : Int32} (hs : st.length ≤ 4) : Rs L xs (d + 1) 7 134 ls (.int z1 :: .int z0 :: st) M x = (Rs L xs d 8 0 [some (.int z0), some (.int z1)] [] M 0).bind (qx_kn L xs (d + 1) 7 134 137 8 ls st x) := by
  have h1 : qx_act L xs (qx_rt 7) (134, .invokestatic 79, 137, 8, 2, 1012) ls (.int z1 :: .int z0 :: st) M = if 2 ≤ (.int z1 :: .int z0 :: st).length ∧ st.length ≤ 4 then some (.inr (.inr (.inr (8, [.int z0, .int z1], st)))) else none := rfl
  rw [if_pos ⟨by simp [List.length_cons]; try omega, hs⟩] at h1
  exact Rs_call c7_134 h1 rfl
theorem c7_137 : qx_code 7 137 = some (137, .istore 7, 139, 0, 0, 0) := by decide +kernel
theorem s7_137i {L : Nat} {xs : Nat → Int32} {d x : Nat} {M : qxM} {st : List Value} {a0 a1 a2 a3 a4 a5 a7 a8 : Option Value} {z : Int32} {y : Int32} : Rs L xs (d) 7 137 [a0, a1, a2, a3, a4, a5, some (.int y), a7, a8] (.int z :: st) M x = Rs L xs (d) 7 139 [a0, a1, a2, a3, a4, a5, some (.int y), some (.int z), a8] st M x := Rs_next c7_137 rfl
theorem s7_137r {L : Nat} {xs : Nat → Int32} {d x : Nat} {M : qxM} {st : List Value} {a0 a1 a2 a3 a4 a5 a7 a8 : Option Value} {z : Int32} {y : Nat} : Rs L xs (d) 7 137 [a0, a1, a2, a3, a4, a5, some (.ref y), a7, a8] (.int z :: st) M x = Rs L xs (d) 7 139 [a0, a1, a2, a3, a4, a5, some (.ref y), some (.int z), a8] st M x := Rs_next c7_137 rfl
theorem s7_137n {L : Nat} {xs : Nat → Int32} {d x : Nat} {M : qxM} {st : List Value} {a0 a1 a2 a3 a4 a5 a7 a8 : Option Value} {z : Int32} : Rs L xs (d) 7 137 [a0, a1, a2, a3, a4, a5, none, a7, a8] (.int z :: st) M x = Rs L xs (d) 7 139 [a0, a1, a2, a3, a4, a5, none, some (.int z), a8] st M x := Rs_next c7_137 rfl
theorem c7_139 : qx_code 7 139 = some (139, .iinc 8 1, 142, 0, 0, 0) := by decide +kernel
theorem s7_139i {L : Nat} {xs : Nat → Int32} {d x : Nat} {M : qxM} {st : List Value} {a0 a1 a2 a3 a4 a5 a6 : Option Value} {z : Int32} {y : Int32} : Rs L xs (d) 7 139 [a0, a1, a2, a3, a4, a5, a6, some (.int y), some (.int z)] st M x = Rs L xs (d) 7 142 [a0, a1, a2, a3, a4, a5, a6, some (.int y), some (.int (z + (nI 1)))] st M x := Rs_next c7_139 rfl
theorem s7_139r {L : Nat} {xs : Nat → Int32} {d x : Nat} {M : qxM} {st : List Value} {a0 a1 a2 a3 a4 a5 a6 : Option Value} {z : Int32} {y : Nat} : Rs L xs (d) 7 139 [a0, a1, a2, a3, a4, a5, a6, some (.ref y), some (.int z)] st M x = Rs L xs (d) 7 142 [a0, a1, a2, a3, a4, a5, a6, some (.ref y), some (.int (z + (nI 1)))] st M x := Rs_next c7_139 rfl
theorem s7_139n {L : Nat} {xs : Nat → Int32} {d x : Nat} {M : qxM} {st : List Value} {a0 a1 a2 a3 a4 a5 a6 : Option Value} {z : Int32} : Rs L xs (d) 7 139 [a0, a1, a2, a3, a4, a5, a6, none, some (.int z)] st M x = Rs L xs (d) 7 142 [a0, a1, a2, a3, a4, a5, a6, none, some (.int (z + (nI 1)))] st M x := Rs_next c7_139 rfl
theorem c7_142 : qx_code 7 142 = some (142, .goto (-47), 145, 95, 0, 0) := by decide +kernel
theorem s7_142 {L : Nat} {xs : Nat → Int32} {d x : Nat} {M : qxM} {st : List Value} {ls : qxL} : Rs L xs (d) 7 142 ls st M x = Rs L xs (d) 7 95 ls st M x := Rs_next c7_142 rfl
theorem c7_145 : qx_code 7 145 = some (145, .aload_n 0, 146, 0, 0, 0) := by decide +kernel
theorem s7_145 {L : Nat} {xs : Nat → Int32} {d x : Nat} {M : qxM} {st : List Value} {a1 a2 a3 a4 a5 a6 a7 a8 : Option Value} {z : Nat} : Rs L xs (d) 7 145 [some (.ref z), a1, a2, a3, a4, a5, a6, a7, a8] st M x = Rs L xs (d) 7 146 [some (.ref z), a1, a2, a3, a4, a5, a6, a7, a8] (.ref z :: st) M x := Rs_next c7_145 rfl
theorem c7_146 : qx_code 7 146 = some (146, .getfield 15, 149, 0, 2, 255) := by decide +kernel
theorem s7_146 {L : Nat} {xs : Nat → Int32} {d x : Nat} {M : qxM} {st : List Value} {ls : qxL} {t : Nat} (hk : qx_kd t = 10) : Rs L xs (d) 7 146 ls (.ref t :: st) M x = Rs L xs (d) 7 149 ls (.ref (t + 2) :: st) M x := Rs_when (qx_kd_obj (k := 0) (by decide) hk) c7_146 rfl
theorem c7_149 : qx_code 7 149 = some (149, .iload_n 3, 150, 0, 0, 0) := by decide +kernel
theorem s7_149 {L : Nat} {xs : Nat → Int32} {d x : Nat} {M : qxM} {st : List Value} {a0 a1 a2 a4 a5 a6 a7 a8 : Option Value} {z : Int32} : Rs L xs (d) 7 149 [a0, a1, a2, some (.int z), a4, a5, a6, a7, a8] st M x = Rs L xs (d) 7 150 [a0, a1, a2, some (.int z), a4, a5, a6, a7, a8] (.int z :: st) M x := Rs_next c7_149 rfl
theorem c7_150 : qx_code 7 150 = some (150, .iload 7, 152, 0, 0, 0) := by decide +kernel
theorem s7_150 {L : Nat} {xs : Nat → Int32} {d x : Nat} {M : qxM} {st : List Value} {a0 a1 a2 a3 a4 a5 a6 a8 : Option Value} {z : Int32} : Rs L xs (d) 7 150 [a0, a1, a2, a3, a4, a5, a6, some (.int z), a8] st M x = Rs L xs (d) 7 152 [a0, a1, a2, a3, a4, a5, a6, some (.int z), a8] (.int z :: st) M x := Rs_next c7_150 rfl
theorem c7_152 : qx_code 7 152 = some (152, .invokestatic 42, 155, 174, 3, 993) := by decide +kernel
theorem s7_152 {L : Nat} {xs : Nat → Int32} {d x : Nat} {M : qxM} {st : List Value} {ls : qxL} {z0 : Nat} {z1 : Int32} {z2 : Int32} (hs : st.length ≤ 4) : Rs L xs (d + 1) 7 152 ls (.int z2 :: .int z1 :: .ref z0 :: st) M x = (Rs L xs d 174 0 [some (.ref z0), some (.int z1), some (.int z2)] [] M 0).bind (qx_kn L xs (d + 1) 7 152 155 174 ls st x) := by
  have h1 : qx_act L xs (qx_rt 7) (152, .invokestatic 42, 155, 174, 3, 993) ls (.int z2 :: .int z1 :: .ref z0 :: st) M = if 3 ≤ (.int z2 :: .int z1 :: .ref z0 :: st).length ∧ st.length ≤ 4 then some (.inr (.inr (.inr (174, [.ref z0, .int z1, .int z2], st)))) else none := rfl
  rw [if_pos ⟨by simp [List.length_cons]; try omega, hs⟩] at h1
  exact Rs_call c7_152 h1 rfl
theorem c7_155 : qx_code 7 155 = some (155, .aload_n 0, 156, 0, 0, 0) := by decide +kernel
theorem s7_155 {L : Nat} {xs : Nat → Int32} {d x : Nat} {M : qxM} {st : List Value} {a1 a2 a3 a4 a5 a6 a7 a8 : Option Value} {z : Nat} : Rs L xs (d) 7 155 [some (.ref z), a1, a2, a3, a4, a5, a6, a7, a8] st M x = Rs L xs (d) 7 156 [some (.ref z), a1, a2, a3, a4, a5, a6, a7, a8] (.ref z :: st) M x := Rs_next c7_155 rfl
theorem c7_156 : qx_code 7 156 = some (156, .getfield 18, 159, 0, 3, 256) := by decide +kernel
theorem s7_156 {L : Nat} {xs : Nat → Int32} {d x : Nat} {M : qxM} {st : List Value} {ls : qxL} {t : Nat} (hk : qx_kd t = 10) : Rs L xs (d) 7 156 ls (.ref t :: st) M x = Rs L xs (d) 7 159 ls (.ref (t + 3) :: st) M x := Rs_when (qx_kd_obj (k := 0) (by decide) hk) c7_156 rfl
theorem c7_159 : qx_code 7 159 = some (159, .iload_n 3, 160, 0, 0, 0) := by decide +kernel
theorem s7_159 {L : Nat} {xs : Nat → Int32} {d x : Nat} {M : qxM} {st : List Value} {a0 a1 a2 a4 a5 a6 a7 a8 : Option Value} {z : Int32} : Rs L xs (d) 7 159 [a0, a1, a2, some (.int z), a4, a5, a6, a7, a8] st M x = Rs L xs (d) 7 160 [a0, a1, a2, some (.int z), a4, a5, a6, a7, a8] (.int z :: st) M x := Rs_next c7_159 rfl
theorem c7_160 : qx_code 7 160 = some (160, .aload_n 0, 161, 0, 0, 0) := by decide +kernel
theorem s7_160 {L : Nat} {xs : Nat → Int32} {d x : Nat} {M : qxM} {st : List Value} {a1 a2 a3 a4 a5 a6 a7 a8 : Option Value} {z : Nat} : Rs L xs (d) 7 160 [some (.ref z), a1, a2, a3, a4, a5, a6, a7, a8] st M x = Rs L xs (d) 7 161 [some (.ref z), a1, a2, a3, a4, a5, a6, a7, a8] (.ref z :: st) M x := Rs_next c7_160 rfl
theorem c7_161 : qx_code 7 161 = some (161, .getfield 21, 164, 0, 4, 257) := by decide +kernel
theorem s7_161 {L : Nat} {xs : Nat → Int32} {d x : Nat} {M : qxM} {st : List Value} {ls : qxL} {t : Nat} (hk : qx_kd t = 10) : Rs L xs (d) 7 161 ls (.ref t :: st) M x = Rs L xs (d) 7 164 ls (.int (M.1 t 4) :: st) M x := Rs_when (qx_kd_obj (k := 0) (by decide) hk) c7_161 rfl
theorem c7_164 : qx_code 7 164 = some (164, .invokestatic 42, 167, 174, 3, 993) := by decide +kernel
theorem s7_164 {L : Nat} {xs : Nat → Int32} {d x : Nat} {M : qxM} {st : List Value} {ls : qxL} {z0 : Nat} {z1 : Int32} {z2 : Int32} (hs : st.length ≤ 4) : Rs L xs (d + 1) 7 164 ls (.int z2 :: .int z1 :: .ref z0 :: st) M x = (Rs L xs d 174 0 [some (.ref z0), some (.int z1), some (.int z2)] [] M 0).bind (qx_kn L xs (d + 1) 7 164 167 174 ls st x) := by
  have h1 : qx_act L xs (qx_rt 7) (164, .invokestatic 42, 167, 174, 3, 993) ls (.int z2 :: .int z1 :: .ref z0 :: st) M = if 3 ≤ (.int z2 :: .int z1 :: .ref z0 :: st).length ∧ st.length ≤ 4 then some (.inr (.inr (.inr (174, [.ref z0, .int z1, .int z2], st)))) else none := rfl
  rw [if_pos ⟨by simp [List.length_cons]; try omega, hs⟩] at h1
  exact Rs_call c7_164 h1 rfl
theorem c7_167 : qx_code 7 167 = some (167, .iload 7, 169, 0, 0, 0) := by decide +kernel
theorem s7_167 {L : Nat} {xs : Nat → Int32} {d x : Nat} {M : qxM} {st : List Value} {a0 a1 a2 a3 a4 a5 a6 a8 : Option Value} {z : Int32} : Rs L xs (d) 7 167 [a0, a1, a2, a3, a4, a5, a6, some (.int z), a8] st M x = Rs L xs (d) 7 169 [a0, a1, a2, a3, a4, a5, a6, some (.int z), a8] (.int z :: st) M x := Rs_next c7_167 rfl
theorem c7_169 : qx_code 7 169 = some (169, .ireturn, 170, 0, 0, 0) := by decide +kernel
theorem s7_169 {L : Nat} {xs : Nat → Int32} {d x : Nat} {M : qxM} {ls : qxL} {z : Int32} : Rs L xs (d) 7 169 ls [.int z] M x = some (.inl (some (.int z)), M, x) := Rs_ret c7_169 rfl
theorem c8_0 : qx_code 8 0 = some (0, .iload_n 0, 1, 0, 0, 0) := by decide +kernel
theorem s8_0 {L : Nat} {xs : Nat → Int32} {d x : Nat} {M : qxM} {st : List Value} {a1 : Option Value} {z : Int32} : Rs L xs (d) 8 0 [some (.int z), a1] st M x = Rs L xs (d) 8 1 [some (.int z), a1] (.int z :: st) M x := Rs_next c8_0 rfl
theorem c8_1 : qx_code 8 1 = some (1, .ldc 67, 3, 1048576, 0, 1011) := by decide +kernel
theorem s8_1 {L : Nat} {xs : Nat → Int32} {d x : Nat} {M : qxM} {st : List Value} {ls : qxL} : Rs L xs (d) 8 1 ls st M x = Rs L xs (d) 8 3 ls (.int (nI 1048576) :: st) M x := Rs_next c8_1 rfl
theorem c8_3 : qx_code 8 3 = some (3, .idiv, 4, 0, 0, 0) := by decide +kernel
theorem s8_3 {L : Nat} {xs : Nat → Int32} {d x : Nat} {M : qxM} {st : List Value} {ls : qxL} {z y : Int32} (h : ¬ y = 0) : Rs L xs (d) 8 3 ls (.int y :: .int z :: st) M x = Rs L xs (d) 8 4 ls (.int (z / y) :: st) M x := Rs_unless h c8_3 rfl
theorem c8_4 : qx_code 8 4 = some (4, .iload_n 1, 5, 0, 0, 0) := by decide +kernel
theorem s8_4 {L : Nat} {xs : Nat → Int32} {d x : Nat} {M : qxM} {st : List Value} {a0 : Option Value} {z : Int32} : Rs L xs (d) 8 4 [a0, some (.int z)] st M x = Rs L xs (d) 8 5 [a0, some (.int z)] (.int z :: st) M x := Rs_next c8_4 rfl
theorem c8_5 : qx_code 8 5 = some (5, .ldc 67, 7, 1048576, 0, 1011) := by decide +kernel
theorem s8_5 {L : Nat} {xs : Nat → Int32} {d x : Nat} {M : qxM} {st : List Value} {ls : qxL} : Rs L xs (d) 8 5 ls st M x = Rs L xs (d) 8 7 ls (.int (nI 1048576) :: st) M x := Rs_next c8_5 rfl
theorem c8_7 : qx_code 8 7 = some (7, .idiv, 8, 0, 0, 0) := by decide +kernel
theorem s8_7 {L : Nat} {xs : Nat → Int32} {d x : Nat} {M : qxM} {st : List Value} {ls : qxL} {z y : Int32} (h : ¬ y = 0) : Rs L xs (d) 8 7 ls (.int y :: .int z :: st) M x = Rs L xs (d) 8 8 ls (.int (z / y) :: st) M x := Rs_unless h c8_7 rfl
theorem c8_8 : qx_code 8 8 = some (8, .if_icmp .ne 10, 11, 18, 0, 0) := by decide +kernel
theorem s8_8 {L : Nat} {xs : Nat → Int32} {d x : Nat} {M : qxM} {st : List Value} {ls : qxL} {z y : Int32} : Rs L xs (d) 8 8 ls (.int y :: .int z :: st) M x = if z = y then Rs L xs (d) 8 11 ls st M x else Rs L xs (d) 8 18 ls st M x := Rs_ite c8_8 rfl
theorem c8_11 : qx_code 8 11 = some (11, .iload_n 0, 12, 0, 0, 0) := by decide +kernel
theorem s8_11 {L : Nat} {xs : Nat → Int32} {d x : Nat} {M : qxM} {st : List Value} {a1 : Option Value} {z : Int32} : Rs L xs (d) 8 11 [some (.int z), a1] st M x = Rs L xs (d) 8 12 [some (.int z), a1] (.int z :: st) M x := Rs_next c8_11 rfl
theorem c8_12 : qx_code 8 12 = some (12, .iload_n 1, 13, 0, 0, 0) := by decide +kernel
theorem s8_12 {L : Nat} {xs : Nat → Int32} {d x : Nat} {M : qxM} {st : List Value} {a0 : Option Value} {z : Int32} : Rs L xs (d) 8 12 [a0, some (.int z)] st M x = Rs L xs (d) 8 13 [a0, some (.int z)] (.int z :: st) M x := Rs_next c8_12 rfl
theorem c8_13 : qx_code 8 13 = some (13, .ldc 67, 15, 1048576, 0, 1011) := by decide +kernel
theorem s8_13 {L : Nat} {xs : Nat → Int32} {d x : Nat} {M : qxM} {st : List Value} {ls : qxL} : Rs L xs (d) 8 13 ls st M x = Rs L xs (d) 8 15 ls (.int (nI 1048576) :: st) M x := Rs_next c8_13 rfl
theorem c8_15 : qx_code 8 15 = some (15, .irem, 16, 0, 0, 0) := by decide +kernel
theorem s8_15 {L : Nat} {xs : Nat → Int32} {d x : Nat} {M : qxM} {st : List Value} {ls : qxL} {z y : Int32} (h : ¬ y = 0) : Rs L xs (d) 8 15 ls (.int y :: .int z :: st) M x = Rs L xs (d) 8 16 ls (.int (z - z / y * y) :: st) M x := Rs_unless h c8_15 rfl
theorem c8_16 : qx_code 8 16 = some (16, .iadd, 17, 0, 0, 0) := by decide +kernel
theorem s8_16 {L : Nat} {xs : Nat → Int32} {d x : Nat} {M : qxM} {st : List Value} {ls : qxL} {z y : Int32} : Rs L xs (d) 8 16 ls (.int y :: .int z :: st) M x = Rs L xs (d) 8 17 ls (.int (z + y) :: st) M x := Rs_next c8_16 rfl
theorem c8_17 : qx_code 8 17 = some (17, .ireturn, 18, 0, 0, 0) := by decide +kernel
theorem s8_17 {L : Nat} {xs : Nat → Int32} {d x : Nat} {M : qxM} {ls : qxL} {z : Int32} : Rs L xs (d) 8 17 ls [.int z] M x = some (.inl (some (.int z)), M, x) := Rs_ret c8_17 rfl
theorem c8_18 : qx_code 8 18 = some (18, .iload_n 0, 19, 0, 0, 0) := by decide +kernel
theorem s8_18 {L : Nat} {xs : Nat → Int32} {d x : Nat} {M : qxM} {st : List Value} {a1 : Option Value} {z : Int32} : Rs L xs (d) 8 18 [some (.int z), a1] st M x = Rs L xs (d) 8 19 [some (.int z), a1] (.int z :: st) M x := Rs_next c8_18 rfl
theorem c8_19 : qx_code 8 19 = some (19, .iload_n 1, 20, 0, 0, 0) := by decide +kernel
theorem s8_19 {L : Nat} {xs : Nat → Int32} {d x : Nat} {M : qxM} {st : List Value} {a0 : Option Value} {z : Int32} : Rs L xs (d) 8 19 [a0, some (.int z)] st M x = Rs L xs (d) 8 20 [a0, some (.int z)] (.int z :: st) M x := Rs_next c8_19 rfl
theorem c8_20 : qx_code 8 20 = some (20, .if_icmp .le 7, 23, 27, 0, 0) := by decide +kernel
theorem s8_20 {L : Nat} {xs : Nat → Int32} {d x : Nat} {M : qxM} {st : List Value} {ls : qxL} {z y : Int32} : Rs L xs (d) 8 20 ls (.int y :: .int z :: st) M x = if z ≤ y then Rs L xs (d) 8 27 ls st M x else Rs L xs (d) 8 23 ls st M x := Rs_ite c8_20 rfl
theorem c8_23 : qx_code 8 23 = some (23, .iload_n 0, 24, 0, 0, 0) := by decide +kernel
theorem s8_23 {L : Nat} {xs : Nat → Int32} {d x : Nat} {M : qxM} {st : List Value} {a1 : Option Value} {z : Int32} : Rs L xs (d) 8 23 [some (.int z), a1] st M x = Rs L xs (d) 8 24 [some (.int z), a1] (.int z :: st) M x := Rs_next c8_23 rfl
theorem c8_24 : qx_code 8 24 = some (24, .goto 4, 27, 28, 0, 0) := by decide +kernel
theorem s8_24 {L : Nat} {xs : Nat → Int32} {d x : Nat} {M : qxM} {st : List Value} {ls : qxL} : Rs L xs (d) 8 24 ls st M x = Rs L xs (d) 8 28 ls st M x := Rs_next c8_24 rfl
theorem c8_27 : qx_code 8 27 = some (27, .iload_n 1, 28, 0, 0, 0) := by decide +kernel
theorem s8_27 {L : Nat} {xs : Nat → Int32} {d x : Nat} {M : qxM} {st : List Value} {a0 : Option Value} {z : Int32} : Rs L xs (d) 8 27 [a0, some (.int z)] st M x = Rs L xs (d) 8 28 [a0, some (.int z)] (.int z :: st) M x := Rs_next c8_27 rfl
theorem c8_28 : qx_code 8 28 = some (28, .ireturn, 29, 0, 0, 0) := by decide +kernel
theorem s8_28 {L : Nat} {xs : Nat → Int32} {d x : Nat} {M : qxM} {ls : qxL} {z : Int32} : Rs L xs (d) 8 28 ls [.int z] M x = some (.inl (some (.int z)), M, x) := Rs_ret c8_28 rfl
theorem c9_0 : qx_code 9 0 = some (0, .iload_n 1, 1, 0, 0, 0) := by decide +kernel
theorem s9_0 {L : Nat} {xs : Nat → Int32} {d x : Nat} {M : qxM} {st : List Value} {a0 : Option Value} {z : Int32} : Rs L xs (d) 9 0 [a0, some (.int z)] st M x = Rs L xs (d) 9 1 [a0, some (.int z)] (.int z :: st) M x := Rs_next c9_0 rfl
theorem c9_1 : qx_code 9 1 = some (1, .ifCond .lt 21, 4, 22, 0, 0) := by decide +kernel
theorem s9_1 {L : Nat} {xs : Nat → Int32} {d x : Nat} {M : qxM} {st : List Value} {ls : qxL} {z : Int32} : Rs L xs (d) 9 1 ls (.int z :: st) M x = if z < 0 then Rs L xs (d) 9 22 ls st M x else Rs L xs (d) 9 4 ls st M x := Rs_ite c9_1 rfl
theorem c9_4 : qx_code 9 4 = some (4, .iload_n 1, 5, 0, 0, 0) := by decide +kernel
theorem s9_4 {L : Nat} {xs : Nat → Int32} {d x : Nat} {M : qxM} {st : List Value} {a0 : Option Value} {z : Int32} : Rs L xs (d) 9 4 [a0, some (.int z)] st M x = Rs L xs (d) 9 5 [a0, some (.int z)] (.int z :: st) M x := Rs_next c9_4 rfl
theorem c9_5 : qx_code 9 5 = some (5, .aload_n 0, 6, 0, 0, 0) := by decide +kernel
theorem s9_5 {L : Nat} {xs : Nat → Int32} {d x : Nat} {M : qxM} {st : List Value} {a1 : Option Value} {z : Nat} : Rs L xs (d) 9 5 [some (.ref z), a1] st M x = Rs L xs (d) 9 6 [some (.ref z), a1] (.ref z :: st) M x := Rs_next c9_5 rfl
theorem c9_6 : qx_code 9 6 = some (6, .getfield 9, 9, 0, 1, 254) := by decide +kernel
theorem s9_6 {L : Nat} {xs : Nat → Int32} {d x : Nat} {M : qxM} {st : List Value} {ls : qxL} {t : Nat} (hk : qx_kd t = 10) : Rs L xs (d) 9 6 ls (.ref t :: st) M x = Rs L xs (d) 9 9 ls (.ref (t + 1) :: st) M x := Rs_when (qx_kd_obj (k := 0) (by decide) hk) c9_6 rfl
theorem c9_9 : qx_code 9 9 = some (9, .arraylength, 10, 0, 0, 0) := by decide +kernel
theorem s9_9 {L : Nat} {xs : Nat → Int32} {d x : Nat} {M : qxM} {st : List Value} {ls : qxL} {t : Nat} (hk : qx_kd t < 6) : Rs L xs (d) 9 9 ls (.ref t :: st) M x = Rs L xs (d) 9 10 ls (.int (nI (qx_ln t)) :: st) M x := by
  have h1 := qx_kd_row hk rfl
  exact Rs_next c9_9 (by unfold qx_act; dsimp only; rw [h1]; rfl)
theorem c9_10 : qx_code 9 10 = some (10, .if_icmp .ge 12, 13, 22, 0, 0) := by decide +kernel
theorem s9_10 {L : Nat} {xs : Nat → Int32} {d x : Nat} {M : qxM} {st : List Value} {ls : qxL} {z y : Int32} : Rs L xs (d) 9 10 ls (.int y :: .int z :: st) M x = if y ≤ z then Rs L xs (d) 9 22 ls st M x else Rs L xs (d) 9 13 ls st M x := Rs_ite c9_10 rfl
theorem c9_13 : qx_code 9 13 = some (13, .aload_n 0, 14, 0, 0, 0) := by decide +kernel
theorem s9_13 {L : Nat} {xs : Nat → Int32} {d x : Nat} {M : qxM} {st : List Value} {a1 : Option Value} {z : Nat} : Rs L xs (d) 9 13 [some (.ref z), a1] st M x = Rs L xs (d) 9 14 [some (.ref z), a1] (.ref z :: st) M x := Rs_next c9_13 rfl
theorem c9_14 : qx_code 9 14 = some (14, .getfield 9, 17, 0, 1, 254) := by decide +kernel
theorem s9_14 {L : Nat} {xs : Nat → Int32} {d x : Nat} {M : qxM} {st : List Value} {ls : qxL} {t : Nat} (hk : qx_kd t = 10) : Rs L xs (d) 9 14 ls (.ref t :: st) M x = Rs L xs (d) 9 17 ls (.ref (t + 1) :: st) M x := Rs_when (qx_kd_obj (k := 0) (by decide) hk) c9_14 rfl
theorem c9_17 : qx_code 9 17 = some (17, .iload_n 1, 18, 0, 0, 0) := by decide +kernel
theorem s9_17 {L : Nat} {xs : Nat → Int32} {d x : Nat} {M : qxM} {st : List Value} {a0 : Option Value} {z : Int32} : Rs L xs (d) 9 17 [a0, some (.int z)] st M x = Rs L xs (d) 9 18 [a0, some (.int z)] (.int z :: st) M x := Rs_next c9_17 rfl
theorem c9_18 : qx_code 9 18 = some (18, .iaload, 19, 0, 0, 0) := by decide +kernel
theorem s9_18 {L : Nat} {xs : Nat → Int32} {d x : Nat} {M : qxM} {st : List Value} {ls : qxL} {t : Nat} {j : Int32} (hk : qx_kd t = 0) (hj : qx_ib j (qx_ln t) = true) : Rs L xs (d) 9 18 ls (.int j :: .ref t :: st) M x = Rs L xs (d) 9 19 ls (.int (M.1 t j.toNatClampNeg) :: st) M x := by
  have h1 := qx_kd_row (k := 0) (by decide) hk
  exact Rs_unless (qx_ib_not hj) c9_18 (by unfold qx_act; dsimp only; rw [h1]; rfl)
theorem c9_19 : qx_code 9 19 = some (19, .goto 4, 22, 23, 0, 0) := by decide +kernel
theorem s9_19 {L : Nat} {xs : Nat → Int32} {d x : Nat} {M : qxM} {st : List Value} {ls : qxL} : Rs L xs (d) 9 19 ls st M x = Rs L xs (d) 9 23 ls st M x := Rs_next c9_19 rfl
theorem c9_22 : qx_code 9 22 = some (22, .iconst 0, 23, 0, 0, 0) := by decide +kernel
theorem s9_22 {L : Nat} {xs : Nat → Int32} {d x : Nat} {M : qxM} {st : List Value} {ls : qxL} : Rs L xs (d) 9 22 ls st M x = Rs L xs (d) 9 23 ls (.int (nI 0) :: st) M x := Rs_next c9_22 rfl
theorem c9_23 : qx_code 9 23 = some (23, .ireturn, 24, 0, 0, 0) := by decide +kernel
theorem s9_23 {L : Nat} {xs : Nat → Int32} {d x : Nat} {M : qxM} {ls : qxL} {z : Int32} : Rs L xs (d) 9 23 ls [.int z] M x = some (.inl (some (.int z)), M, x) := Rs_ret c9_23 rfl
theorem c10_0 : qx_code 10 0 = some (0, .aload_n 0, 1, 0, 0, 0) := by decide +kernel
theorem s10_0 {L : Nat} {xs : Nat → Int32} {d x : Nat} {M : qxM} {st : List Value} {a1 a2 a3 : Option Value} {z : Nat} : Rs L xs (d) 10 0 [some (.ref z), a1, a2, a3] st M x = Rs L xs (d) 10 1 [some (.ref z), a1, a2, a3] (.ref z :: st) M x := Rs_next c10_0 rfl
theorem c10_1 : qx_code 10 1 = some (1, .invokevirtual 54, 4, 1, 1, 1034) := by decide +kernel
theorem s10_1 {L : Nat} {xs : Nat → Int32} {d x : Nat} {M : qxM} {st : List Value} {ls : qxL} {t : Nat} (hk : qx_kd t = 10) (hs : st.length ≤ 4) : Rs L xs (d + 1) 10 1 ls (.ref t :: st) M x = (Rs L xs d 1 0 [some (.ref t)] [] M 0).bind (qx_kn L xs (d + 1) 10 1 4 1 ls st x) := by
  have h1 : qx_act L xs (qx_rt 10) (1, .invokevirtual 54, 4, 1, 1, 1034) ls (.ref t :: st) M = if 1 ≤ (.ref t :: st).length ∧ st.length ≤ 4 then some (.inr (.inr (.inr (1, [.ref t], st)))) else none := rfl
  rw [if_pos ⟨by simp [List.length_cons]; try omega, hs⟩] at h1
  have h2 := qx_kd_obj (k := 0) (by decide) hk
  exact Rs_call c10_1 h1 (by rw [show qx_args 1 [.ref t] = decide (qx_sh t = some (.inl 0)) from rfl]; exact decide_eq_true h2)
theorem c10_4 : qx_code 10 4 = some (4, .istore_n 1, 5, 0, 0, 0) := by decide +kernel
theorem s10_4i {L : Nat} {xs : Nat → Int32} {d x : Nat} {M : qxM} {st : List Value} {a1 a2 a3 : Option Value} {z : Int32} {y : Int32} : Rs L xs (d) 10 4 [some (.int y), a1, a2, a3] (.int z :: st) M x = Rs L xs (d) 10 5 [some (.int y), some (.int z), a2, a3] st M x := Rs_next c10_4 rfl
theorem s10_4r {L : Nat} {xs : Nat → Int32} {d x : Nat} {M : qxM} {st : List Value} {a1 a2 a3 : Option Value} {z : Int32} {y : Nat} : Rs L xs (d) 10 4 [some (.ref y), a1, a2, a3] (.int z :: st) M x = Rs L xs (d) 10 5 [some (.ref y), some (.int z), a2, a3] st M x := Rs_next c10_4 rfl
theorem s10_4n {L : Nat} {xs : Nat → Int32} {d x : Nat} {M : qxM} {st : List Value} {a1 a2 a3 : Option Value} {z : Int32} : Rs L xs (d) 10 4 [none, a1, a2, a3] (.int z :: st) M x = Rs L xs (d) 10 5 [none, some (.int z), a2, a3] st M x := Rs_next c10_4 rfl
theorem c10_5 : qx_code 10 5 = some (5, .iconst 0, 6, 0, 0, 0) := by decide +kernel
theorem s10_5 {L : Nat} {xs : Nat → Int32} {d x : Nat} {M : qxM} {st : List Value} {ls : qxL} : Rs L xs (d) 10 5 ls st M x = Rs L xs (d) 10 6 ls (.int (nI 0) :: st) M x := Rs_next c10_5 rfl
theorem c10_6 : qx_code 10 6 = some (6, .istore_n 2, 7, 0, 0, 0) := by decide +kernel
theorem s10_6i {L : Nat} {xs : Nat → Int32} {d x : Nat} {M : qxM} {st : List Value} {a0 a2 a3 : Option Value} {z : Int32} {y : Int32} : Rs L xs (d) 10 6 [a0, some (.int y), a2, a3] (.int z :: st) M x = Rs L xs (d) 10 7 [a0, some (.int y), some (.int z), a3] st M x := Rs_next c10_6 rfl
theorem s10_6r {L : Nat} {xs : Nat → Int32} {d x : Nat} {M : qxM} {st : List Value} {a0 a2 a3 : Option Value} {z : Int32} {y : Nat} : Rs L xs (d) 10 6 [a0, some (.ref y), a2, a3] (.int z :: st) M x = Rs L xs (d) 10 7 [a0, some (.ref y), some (.int z), a3] st M x := Rs_next c10_6 rfl
theorem s10_6n {L : Nat} {xs : Nat → Int32} {d x : Nat} {M : qxM} {st : List Value} {a0 a2 a3 : Option Value} {z : Int32} : Rs L xs (d) 10 6 [a0, none, a2, a3] (.int z :: st) M x = Rs L xs (d) 10 7 [a0, none, some (.int z), a3] st M x := Rs_next c10_6 rfl
theorem c10_7 : qx_code 10 7 = some (7, .iconst 0, 8, 0, 0, 0) := by decide +kernel
theorem s10_7 {L : Nat} {xs : Nat → Int32} {d x : Nat} {M : qxM} {st : List Value} {ls : qxL} : Rs L xs (d) 10 7 ls st M x = Rs L xs (d) 10 8 ls (.int (nI 0) :: st) M x := Rs_next c10_7 rfl
theorem c10_8 : qx_code 10 8 = some (8, .istore_n 3, 9, 0, 0, 0) := by decide +kernel
theorem s10_8i {L : Nat} {xs : Nat → Int32} {d x : Nat} {M : qxM} {st : List Value} {a0 a1 a3 : Option Value} {z : Int32} {y : Int32} : Rs L xs (d) 10 8 [a0, a1, some (.int y), a3] (.int z :: st) M x = Rs L xs (d) 10 9 [a0, a1, some (.int y), some (.int z)] st M x := Rs_next c10_8 rfl
theorem s10_8r {L : Nat} {xs : Nat → Int32} {d x : Nat} {M : qxM} {st : List Value} {a0 a1 a3 : Option Value} {z : Int32} {y : Nat} : Rs L xs (d) 10 8 [a0, a1, some (.ref y), a3] (.int z :: st) M x = Rs L xs (d) 10 9 [a0, a1, some (.ref y), some (.int z)] st M x := Rs_next c10_8 rfl
theorem s10_8n {L : Nat} {xs : Nat → Int32} {d x : Nat} {M : qxM} {st : List Value} {a0 a1 a3 : Option Value} {z : Int32} : Rs L xs (d) 10 8 [a0, a1, none, a3] (.int z :: st) M x = Rs L xs (d) 10 9 [a0, a1, none, some (.int z)] st M x := Rs_next c10_8 rfl
theorem c10_9 : qx_code 10 9 = some (9, .iload_n 3, 10, 0, 0, 0) := by decide +kernel
theorem s10_9 {L : Nat} {xs : Nat → Int32} {d x : Nat} {M : qxM} {st : List Value} {a0 a1 a2 : Option Value} {z : Int32} : Rs L xs (d) 10 9 [a0, a1, a2, some (.int z)] st M x = Rs L xs (d) 10 10 [a0, a1, a2, some (.int z)] (.int z :: st) M x := Rs_next c10_9 rfl
theorem c10_10 : qx_code 10 10 = some (10, .bipush 14, 12, 0, 0, 0) := by decide +kernel
theorem s10_10 {L : Nat} {xs : Nat → Int32} {d x : Nat} {M : qxM} {st : List Value} {ls : qxL} : Rs L xs (d) 10 10 ls st M x = Rs L xs (d) 10 12 ls (.int (nI 14) :: st) M x := Rs_next c10_10 rfl
theorem c10_12 : qx_code 10 12 = some (12, .if_icmp .ge 37, 15, 49, 0, 0) := by decide +kernel
theorem s10_12 {L : Nat} {xs : Nat → Int32} {d x : Nat} {M : qxM} {st : List Value} {ls : qxL} {z y : Int32} : Rs L xs (d) 10 12 ls (.int y :: .int z :: st) M x = if y ≤ z then Rs L xs (d) 10 49 ls st M x else Rs L xs (d) 10 15 ls st M x := Rs_ite c10_12 rfl
theorem c10_15 : qx_code 10 15 = some (15, .aload_n 0, 16, 0, 0, 0) := by decide +kernel
theorem s10_15 {L : Nat} {xs : Nat → Int32} {d x : Nat} {M : qxM} {st : List Value} {a1 a2 a3 : Option Value} {z : Nat} : Rs L xs (d) 10 15 [some (.ref z), a1, a2, a3] st M x = Rs L xs (d) 10 16 [some (.ref z), a1, a2, a3] (.ref z :: st) M x := Rs_next c10_15 rfl
theorem c10_16 : qx_code 10 16 = some (16, .getfield 31, 19, 0, 0, 253) := by decide +kernel
theorem s10_16 {L : Nat} {xs : Nat → Int32} {d x : Nat} {M : qxM} {st : List Value} {ls : qxL} {t : Nat} (hk : qx_kd t = 10) : Rs L xs (d) 10 16 ls (.ref t :: st) M x = Rs L xs (d) 10 19 ls (.int (M.1 t 0) :: st) M x := Rs_when (qx_kd_obj (k := 0) (by decide) hk) c10_16 rfl
theorem c10_19 : qx_code 10 19 = some (19, .iload_n 3, 20, 0, 0, 0) := by decide +kernel
theorem s10_19 {L : Nat} {xs : Nat → Int32} {d x : Nat} {M : qxM} {st : List Value} {a0 a1 a2 : Option Value} {z : Int32} : Rs L xs (d) 10 19 [a0, a1, a2, some (.int z)] st M x = Rs L xs (d) 10 20 [a0, a1, a2, some (.int z)] (.int z :: st) M x := Rs_next c10_19 rfl
theorem c10_20 : qx_code 10 20 = some (20, .invokestatic 75, 23, 170, 2, 1010) := by decide +kernel
theorem s10_20 {L : Nat} {xs : Nat → Int32} {d x : Nat} {M : qxM} {st : List Value} {ls : qxL} {z0 : Int32} {z1 : Int32} (hs : st.length ≤ 4) : Rs L xs (d + 1) 10 20 ls (.int z1 :: .int z0 :: st) M x = (Rs L xs d 170 0 [some (.int z0), some (.int z1)] [] M 0).bind (qx_kn L xs (d + 1) 10 20 23 170 ls st x) := by
  have h1 : qx_act L xs (qx_rt 10) (20, .invokestatic 75, 23, 170, 2, 1010) ls (.int z1 :: .int z0 :: st) M = if 2 ≤ (.int z1 :: .int z0 :: st).length ∧ st.length ≤ 4 then some (.inr (.inr (.inr (170, [.int z0, .int z1], st)))) else none := rfl
  rw [if_pos ⟨by simp [List.length_cons]; try omega, hs⟩] at h1
  exact Rs_call c10_20 h1 rfl
theorem c10_23 : qx_code 10 23 = some (23, .ifCond .eq 20, 26, 43, 0, 0) := by decide +kernel
theorem s10_23 {L : Nat} {xs : Nat → Int32} {d x : Nat} {M : qxM} {st : List Value} {ls : qxL} {z : Int32} : Rs L xs (d) 10 23 ls (.int z :: st) M x = if z = 0 then Rs L xs (d) 10 43 ls st M x else Rs L xs (d) 10 26 ls st M x := Rs_ite c10_23 rfl
theorem c10_26 : qx_code 10 26 = some (26, .aload_n 0, 27, 0, 0, 0) := by decide +kernel
theorem s10_26 {L : Nat} {xs : Nat → Int32} {d x : Nat} {M : qxM} {st : List Value} {a1 a2 a3 : Option Value} {z : Nat} : Rs L xs (d) 10 26 [some (.ref z), a1, a2, a3] st M x = Rs L xs (d) 10 27 [some (.ref z), a1, a2, a3] (.ref z :: st) M x := Rs_next c10_26 rfl
theorem c10_27 : qx_code 10 27 = some (27, .iload_n 3, 28, 0, 0, 0) := by decide +kernel
theorem s10_27 {L : Nat} {xs : Nat → Int32} {d x : Nat} {M : qxM} {st : List Value} {a0 a1 a2 : Option Value} {z : Int32} : Rs L xs (d) 10 27 [a0, a1, a2, some (.int z)] st M x = Rs L xs (d) 10 28 [a0, a1, a2, some (.int z)] (.int z :: st) M x := Rs_next c10_27 rfl
theorem c10_28 : qx_code 10 28 = some (28, .iload_n 3, 29, 0, 0, 0) := by decide +kernel
theorem s10_28 {L : Nat} {xs : Nat → Int32} {d x : Nat} {M : qxM} {st : List Value} {a0 a1 a2 : Option Value} {z : Int32} : Rs L xs (d) 10 28 [a0, a1, a2, some (.int z)] st M x = Rs L xs (d) 10 29 [a0, a1, a2, some (.int z)] (.int z :: st) M x := Rs_next c10_28 rfl
theorem c10_29 : qx_code 10 29 = some (29, .invokevirtual 82, 32, 3, 3, 1046) := by decide +kernel
theorem s10_29 {L : Nat} {xs : Nat → Int32} {d x : Nat} {M : qxM} {st : List Value} {ls : qxL} {t : Nat} {z0 : Int32} {z1 : Int32} (hk : qx_kd t = 10) (hs : st.length ≤ 4) : Rs L xs (d + 1) 10 29 ls (.int z1 :: .int z0 :: .ref t :: st) M x = (Rs L xs d 3 0 [some (.ref t), some (.int z0), some (.int z1)] [] M 0).bind (qx_kn L xs (d + 1) 10 29 32 3 ls st x) := by
  have h1 : qx_act L xs (qx_rt 10) (29, .invokevirtual 82, 32, 3, 3, 1046) ls (.int z1 :: .int z0 :: .ref t :: st) M = if 3 ≤ (.int z1 :: .int z0 :: .ref t :: st).length ∧ st.length ≤ 4 then some (.inr (.inr (.inr (3, [.ref t, .int z0, .int z1], st)))) else none := rfl
  rw [if_pos ⟨by simp [List.length_cons]; try omega, hs⟩] at h1
  have h2 := qx_kd_obj (k := 0) (by decide) hk
  exact Rs_call c10_29 h1 (by rw [show qx_args 3 [.ref t, .int z0, .int z1] = decide (qx_sh t = some (.inl 0)) from rfl]; exact decide_eq_true h2)
theorem c10_32 : qx_code 10 32 = some (32, .iload_n 1, 33, 0, 0, 0) := by decide +kernel
theorem s10_32 {L : Nat} {xs : Nat → Int32} {d x : Nat} {M : qxM} {st : List Value} {a0 a2 a3 : Option Value} {z : Int32} : Rs L xs (d) 10 32 [a0, some (.int z), a2, a3] st M x = Rs L xs (d) 10 33 [a0, some (.int z), a2, a3] (.int z :: st) M x := Rs_next c10_32 rfl
theorem c10_33 : qx_code 10 33 = some (33, .if_icmp .ne 10, 36, 43, 0, 0) := by decide +kernel
theorem s10_33 {L : Nat} {xs : Nat → Int32} {d x : Nat} {M : qxM} {st : List Value} {ls : qxL} {z y : Int32} : Rs L xs (d) 10 33 ls (.int y :: .int z :: st) M x = if z = y then Rs L xs (d) 10 36 ls st M x else Rs L xs (d) 10 43 ls st M x := Rs_ite c10_33 rfl
theorem c10_36 : qx_code 10 36 = some (36, .iload_n 2, 37, 0, 0, 0) := by decide +kernel
theorem s10_36 {L : Nat} {xs : Nat → Int32} {d x : Nat} {M : qxM} {st : List Value} {a0 a1 a3 : Option Value} {z : Int32} : Rs L xs (d) 10 36 [a0, a1, some (.int z), a3] st M x = Rs L xs (d) 10 37 [a0, a1, some (.int z), a3] (.int z :: st) M x := Rs_next c10_36 rfl
theorem c10_37 : qx_code 10 37 = some (37, .iload_n 3, 38, 0, 0, 0) := by decide +kernel
theorem s10_37 {L : Nat} {xs : Nat → Int32} {d x : Nat} {M : qxM} {st : List Value} {a0 a1 a2 : Option Value} {z : Int32} : Rs L xs (d) 10 37 [a0, a1, a2, some (.int z)] st M x = Rs L xs (d) 10 38 [a0, a1, a2, some (.int z)] (.int z :: st) M x := Rs_next c10_37 rfl
theorem c10_38 : qx_code 10 38 = some (38, .invokestatic 60, 41, 169, 1, 1009) := by decide +kernel
theorem s10_38 {L : Nat} {xs : Nat → Int32} {d x : Nat} {M : qxM} {st : List Value} {ls : qxL} {z0 : Int32} (hs : st.length ≤ 4) : Rs L xs (d + 1) 10 38 ls (.int z0 :: st) M x = (Rs L xs d 169 0 [some (.int z0)] [] M 0).bind (qx_kn L xs (d + 1) 10 38 41 169 ls st x) := by
  have h1 : qx_act L xs (qx_rt 10) (38, .invokestatic 60, 41, 169, 1, 1009) ls (.int z0 :: st) M = if 1 ≤ (.int z0 :: st).length ∧ st.length ≤ 4 then some (.inr (.inr (.inr (169, [.int z0], st)))) else none := rfl
  rw [if_pos ⟨by simp [List.length_cons]; try omega, hs⟩] at h1
  exact Rs_call c10_38 h1 rfl
theorem c10_41 : qx_code 10 41 = some (41, .ior, 42, 0, 0, 0) := by decide +kernel
theorem s10_41 {L : Nat} {xs : Nat → Int32} {d x : Nat} {M : qxM} {st : List Value} {ls : qxL} {z y : Int32} : Rs L xs (d) 10 41 ls (.int y :: .int z :: st) M x = Rs L xs (d) 10 42 ls (.int (z ||| y) :: st) M x := Rs_next c10_41 rfl
theorem c10_42 : qx_code 10 42 = some (42, .istore_n 2, 43, 0, 0, 0) := by decide +kernel
theorem s10_42i {L : Nat} {xs : Nat → Int32} {d x : Nat} {M : qxM} {st : List Value} {a0 a2 a3 : Option Value} {z : Int32} {y : Int32} : Rs L xs (d) 10 42 [a0, some (.int y), a2, a3] (.int z :: st) M x = Rs L xs (d) 10 43 [a0, some (.int y), some (.int z), a3] st M x := Rs_next c10_42 rfl
theorem s10_42r {L : Nat} {xs : Nat → Int32} {d x : Nat} {M : qxM} {st : List Value} {a0 a2 a3 : Option Value} {z : Int32} {y : Nat} : Rs L xs (d) 10 42 [a0, some (.ref y), a2, a3] (.int z :: st) M x = Rs L xs (d) 10 43 [a0, some (.ref y), some (.int z), a3] st M x := Rs_next c10_42 rfl
theorem s10_42n {L : Nat} {xs : Nat → Int32} {d x : Nat} {M : qxM} {st : List Value} {a0 a2 a3 : Option Value} {z : Int32} : Rs L xs (d) 10 42 [a0, none, a2, a3] (.int z :: st) M x = Rs L xs (d) 10 43 [a0, none, some (.int z), a3] st M x := Rs_next c10_42 rfl
theorem c10_43 : qx_code 10 43 = some (43, .iinc 3 1, 46, 0, 0, 0) := by decide +kernel
theorem s10_43i {L : Nat} {xs : Nat → Int32} {d x : Nat} {M : qxM} {st : List Value} {a0 a1 : Option Value} {z : Int32} {y : Int32} : Rs L xs (d) 10 43 [a0, a1, some (.int y), some (.int z)] st M x = Rs L xs (d) 10 46 [a0, a1, some (.int y), some (.int (z + (nI 1)))] st M x := Rs_next c10_43 rfl
theorem s10_43r {L : Nat} {xs : Nat → Int32} {d x : Nat} {M : qxM} {st : List Value} {a0 a1 : Option Value} {z : Int32} {y : Nat} : Rs L xs (d) 10 43 [a0, a1, some (.ref y), some (.int z)] st M x = Rs L xs (d) 10 46 [a0, a1, some (.ref y), some (.int (z + (nI 1)))] st M x := Rs_next c10_43 rfl
theorem s10_43n {L : Nat} {xs : Nat → Int32} {d x : Nat} {M : qxM} {st : List Value} {a0 a1 : Option Value} {z : Int32} : Rs L xs (d) 10 43 [a0, a1, none, some (.int z)] st M x = Rs L xs (d) 10 46 [a0, a1, none, some (.int (z + (nI 1)))] st M x := Rs_next c10_43 rfl
theorem c10_46 : qx_code 10 46 = some (46, .goto (-37), 49, 9, 0, 0) := by decide +kernel
theorem s10_46 {L : Nat} {xs : Nat → Int32} {d x : Nat} {M : qxM} {st : List Value} {ls : qxL} : Rs L xs (d) 10 46 ls st M x = Rs L xs (d) 10 9 ls st M x := Rs_next c10_46 rfl
theorem c10_49 : qx_code 10 49 = some (49, .iload_n 2, 50, 0, 0, 0) := by decide +kernel
theorem s10_49 {L : Nat} {xs : Nat → Int32} {d x : Nat} {M : qxM} {st : List Value} {a0 a1 a3 : Option Value} {z : Int32} : Rs L xs (d) 10 49 [a0, a1, some (.int z), a3] st M x = Rs L xs (d) 10 50 [a0, a1, some (.int z), a3] (.int z :: st) M x := Rs_next c10_49 rfl
theorem c10_50 : qx_code 10 50 = some (50, .ireturn, 51, 0, 0, 0) := by decide +kernel
theorem s10_50 {L : Nat} {xs : Nat → Int32} {d x : Nat} {M : qxM} {ls : qxL} {z : Int32} : Rs L xs (d) 10 50 ls [.int z] M x = some (.inl (some (.int z)), M, x) := Rs_ret c10_50 rfl
theorem c11_0 : qx_code 11 0 = some (0, .iconst 0, 1, 0, 0, 0) := by decide +kernel
theorem s11_0 {L : Nat} {xs : Nat → Int32} {d x : Nat} {M : qxM} {st : List Value} {ls : qxL} : Rs L xs (d) 11 0 ls st M x = Rs L xs (d) 11 1 ls (.int (nI 0) :: st) M x := Rs_next c11_0 rfl
theorem c11_1 : qx_code 11 1 = some (1, .istore_n 2, 2, 0, 0, 0) := by decide +kernel
theorem s11_1i {L : Nat} {xs : Nat → Int32} {d x : Nat} {M : qxM} {st : List Value} {a0 a2 a3 : Option Value} {z : Int32} {y : Int32} : Rs L xs (d) 11 1 [a0, some (.int y), a2, a3] (.int z :: st) M x = Rs L xs (d) 11 2 [a0, some (.int y), some (.int z), a3] st M x := Rs_next c11_1 rfl
theorem s11_1r {L : Nat} {xs : Nat → Int32} {d x : Nat} {M : qxM} {st : List Value} {a0 a2 a3 : Option Value} {z : Int32} {y : Nat} : Rs L xs (d) 11 1 [a0, some (.ref y), a2, a3] (.int z :: st) M x = Rs L xs (d) 11 2 [a0, some (.ref y), some (.int z), a3] st M x := Rs_next c11_1 rfl
theorem s11_1n {L : Nat} {xs : Nat → Int32} {d x : Nat} {M : qxM} {st : List Value} {a0 a2 a3 : Option Value} {z : Int32} : Rs L xs (d) 11 1 [a0, none, a2, a3] (.int z :: st) M x = Rs L xs (d) 11 2 [a0, none, some (.int z), a3] st M x := Rs_next c11_1 rfl
theorem c11_2 : qx_code 11 2 = some (2, .iconst 0, 3, 0, 0, 0) := by decide +kernel
theorem s11_2 {L : Nat} {xs : Nat → Int32} {d x : Nat} {M : qxM} {st : List Value} {ls : qxL} : Rs L xs (d) 11 2 ls st M x = Rs L xs (d) 11 3 ls (.int (nI 0) :: st) M x := Rs_next c11_2 rfl
theorem c11_3 : qx_code 11 3 = some (3, .istore_n 3, 4, 0, 0, 0) := by decide +kernel
theorem s11_3i {L : Nat} {xs : Nat → Int32} {d x : Nat} {M : qxM} {st : List Value} {a0 a1 a3 : Option Value} {z : Int32} {y : Int32} : Rs L xs (d) 11 3 [a0, a1, some (.int y), a3] (.int z :: st) M x = Rs L xs (d) 11 4 [a0, a1, some (.int y), some (.int z)] st M x := Rs_next c11_3 rfl
theorem s11_3r {L : Nat} {xs : Nat → Int32} {d x : Nat} {M : qxM} {st : List Value} {a0 a1 a3 : Option Value} {z : Int32} {y : Nat} : Rs L xs (d) 11 3 [a0, a1, some (.ref y), a3] (.int z :: st) M x = Rs L xs (d) 11 4 [a0, a1, some (.ref y), some (.int z)] st M x := Rs_next c11_3 rfl
theorem s11_3n {L : Nat} {xs : Nat → Int32} {d x : Nat} {M : qxM} {st : List Value} {a0 a1 a3 : Option Value} {z : Int32} : Rs L xs (d) 11 3 [a0, a1, none, a3] (.int z :: st) M x = Rs L xs (d) 11 4 [a0, a1, none, some (.int z)] st M x := Rs_next c11_3 rfl
theorem c11_4 : qx_code 11 4 = some (4, .iload_n 3, 5, 0, 0, 0) := by decide +kernel
theorem s11_4 {L : Nat} {xs : Nat → Int32} {d x : Nat} {M : qxM} {st : List Value} {a0 a1 a2 : Option Value} {z : Int32} : Rs L xs (d) 11 4 [a0, a1, a2, some (.int z)] st M x = Rs L xs (d) 11 5 [a0, a1, a2, some (.int z)] (.int z :: st) M x := Rs_next c11_4 rfl
theorem c11_5 : qx_code 11 5 = some (5, .bipush 14, 7, 0, 0, 0) := by decide +kernel
theorem s11_5 {L : Nat} {xs : Nat → Int32} {d x : Nat} {M : qxM} {st : List Value} {ls : qxL} : Rs L xs (d) 11 5 ls st M x = Rs L xs (d) 11 7 ls (.int (nI 14) :: st) M x := Rs_next c11_5 rfl
theorem c11_7 : qx_code 11 7 = some (7, .if_icmp .ge 34, 10, 41, 0, 0) := by decide +kernel
theorem s11_7 {L : Nat} {xs : Nat → Int32} {d x : Nat} {M : qxM} {st : List Value} {ls : qxL} {z y : Int32} : Rs L xs (d) 11 7 ls (.int y :: .int z :: st) M x = if y ≤ z then Rs L xs (d) 11 41 ls st M x else Rs L xs (d) 11 10 ls st M x := Rs_ite c11_7 rfl
theorem c11_10 : qx_code 11 10 = some (10, .iload_n 1, 11, 0, 0, 0) := by decide +kernel
theorem s11_10 {L : Nat} {xs : Nat → Int32} {d x : Nat} {M : qxM} {st : List Value} {a0 a2 a3 : Option Value} {z : Int32} : Rs L xs (d) 11 10 [a0, some (.int z), a2, a3] st M x = Rs L xs (d) 11 11 [a0, some (.int z), a2, a3] (.int z :: st) M x := Rs_next c11_10 rfl
theorem c11_11 : qx_code 11 11 = some (11, .iload_n 3, 12, 0, 0, 0) := by decide +kernel
theorem s11_11 {L : Nat} {xs : Nat → Int32} {d x : Nat} {M : qxM} {st : List Value} {a0 a1 a2 : Option Value} {z : Int32} : Rs L xs (d) 11 11 [a0, a1, a2, some (.int z)] st M x = Rs L xs (d) 11 12 [a0, a1, a2, some (.int z)] (.int z :: st) M x := Rs_next c11_11 rfl
theorem c11_12 : qx_code 11 12 = some (12, .invokestatic 75, 15, 170, 2, 1010) := by decide +kernel
theorem s11_12 {L : Nat} {xs : Nat → Int32} {d x : Nat} {M : qxM} {st : List Value} {ls : qxL} {z0 : Int32} {z1 : Int32} (hs : st.length ≤ 4) : Rs L xs (d + 1) 11 12 ls (.int z1 :: .int z0 :: st) M x = (Rs L xs d 170 0 [some (.int z0), some (.int z1)] [] M 0).bind (qx_kn L xs (d + 1) 11 12 15 170 ls st x) := by
  have h1 : qx_act L xs (qx_rt 11) (12, .invokestatic 75, 15, 170, 2, 1010) ls (.int z1 :: .int z0 :: st) M = if 2 ≤ (.int z1 :: .int z0 :: st).length ∧ st.length ≤ 4 then some (.inr (.inr (.inr (170, [.int z0, .int z1], st)))) else none := rfl
  rw [if_pos ⟨by simp [List.length_cons]; try omega, hs⟩] at h1
  exact Rs_call c11_12 h1 rfl
theorem c11_15 : qx_code 11 15 = some (15, .ifCond .ne 20, 18, 35, 0, 0) := by decide +kernel
theorem s11_15 {L : Nat} {xs : Nat → Int32} {d x : Nat} {M : qxM} {st : List Value} {ls : qxL} {z : Int32} : Rs L xs (d) 11 15 ls (.int z :: st) M x = if z = 0 then Rs L xs (d) 11 18 ls st M x else Rs L xs (d) 11 35 ls st M x := Rs_ite c11_15 rfl
theorem c11_18 : qx_code 11 18 = some (18, .aload_n 0, 19, 0, 0, 0) := by decide +kernel
theorem s11_18 {L : Nat} {xs : Nat → Int32} {d x : Nat} {M : qxM} {st : List Value} {a1 a2 a3 : Option Value} {z : Nat} : Rs L xs (d) 11 18 [some (.ref z), a1, a2, a3] st M x = Rs L xs (d) 11 19 [some (.ref z), a1, a2, a3] (.ref z :: st) M x := Rs_next c11_18 rfl
theorem c11_19 : qx_code 11 19 = some (19, .iload_n 3, 20, 0, 0, 0) := by decide +kernel
theorem s11_19 {L : Nat} {xs : Nat → Int32} {d x : Nat} {M : qxM} {st : List Value} {a0 a1 a2 : Option Value} {z : Int32} : Rs L xs (d) 11 19 [a0, a1, a2, some (.int z)] st M x = Rs L xs (d) 11 20 [a0, a1, a2, some (.int z)] (.int z :: st) M x := Rs_next c11_19 rfl
theorem c11_20 : qx_code 11 20 = some (20, .invokevirtual 38, 23, 9, 2, 989) := by decide +kernel
theorem s11_20 {L : Nat} {xs : Nat → Int32} {d x : Nat} {M : qxM} {st : List Value} {ls : qxL} {t : Nat} {z0 : Int32} (hk : qx_kd t = 10) (hs : st.length ≤ 4) : Rs L xs (d + 1) 11 20 ls (.int z0 :: .ref t :: st) M x = (Rs L xs d 9 0 [some (.ref t), some (.int z0)] [] M 0).bind (qx_kn L xs (d + 1) 11 20 23 9 ls st x) := by
  have h1 : qx_act L xs (qx_rt 11) (20, .invokevirtual 38, 23, 9, 2, 989) ls (.int z0 :: .ref t :: st) M = if 2 ≤ (.int z0 :: .ref t :: st).length ∧ st.length ≤ 4 then some (.inr (.inr (.inr (9, [.ref t, .int z0], st)))) else none := rfl
  rw [if_pos ⟨by simp [List.length_cons]; try omega, hs⟩] at h1
  have h2 := qx_kd_obj (k := 0) (by decide) hk
  exact Rs_call c11_20 h1 (by rw [show qx_args 9 [.ref t, .int z0] = decide (qx_sh t = some (.inl 0)) from rfl]; exact decide_eq_true h2)
theorem c11_23 : qx_code 11 23 = some (23, .iload_n 1, 24, 0, 0, 0) := by decide +kernel
theorem s11_23 {L : Nat} {xs : Nat → Int32} {d x : Nat} {M : qxM} {st : List Value} {a0 a2 a3 : Option Value} {z : Int32} : Rs L xs (d) 11 23 [a0, some (.int z), a2, a3] st M x = Rs L xs (d) 11 24 [a0, some (.int z), a2, a3] (.int z :: st) M x := Rs_next c11_23 rfl
theorem c11_24 : qx_code 11 24 = some (24, .iand, 25, 0, 0, 0) := by decide +kernel
theorem s11_24 {L : Nat} {xs : Nat → Int32} {d x : Nat} {M : qxM} {st : List Value} {ls : qxL} {z y : Int32} : Rs L xs (d) 11 24 ls (.int y :: .int z :: st) M x = Rs L xs (d) 11 25 ls (.int (z &&& y) :: st) M x := Rs_next c11_24 rfl
theorem c11_25 : qx_code 11 25 = some (25, .ifCond .eq 10, 28, 35, 0, 0) := by decide +kernel
theorem s11_25 {L : Nat} {xs : Nat → Int32} {d x : Nat} {M : qxM} {st : List Value} {ls : qxL} {z : Int32} : Rs L xs (d) 11 25 ls (.int z :: st) M x = if z = 0 then Rs L xs (d) 11 35 ls st M x else Rs L xs (d) 11 28 ls st M x := Rs_ite c11_25 rfl
theorem c11_28 : qx_code 11 28 = some (28, .iload_n 2, 29, 0, 0, 0) := by decide +kernel
theorem s11_28 {L : Nat} {xs : Nat → Int32} {d x : Nat} {M : qxM} {st : List Value} {a0 a1 a3 : Option Value} {z : Int32} : Rs L xs (d) 11 28 [a0, a1, some (.int z), a3] st M x = Rs L xs (d) 11 29 [a0, a1, some (.int z), a3] (.int z :: st) M x := Rs_next c11_28 rfl
theorem c11_29 : qx_code 11 29 = some (29, .iload_n 3, 30, 0, 0, 0) := by decide +kernel
theorem s11_29 {L : Nat} {xs : Nat → Int32} {d x : Nat} {M : qxM} {st : List Value} {a0 a1 a2 : Option Value} {z : Int32} : Rs L xs (d) 11 29 [a0, a1, a2, some (.int z)] st M x = Rs L xs (d) 11 30 [a0, a1, a2, some (.int z)] (.int z :: st) M x := Rs_next c11_29 rfl
theorem c11_30 : qx_code 11 30 = some (30, .invokestatic 60, 33, 169, 1, 1009) := by decide +kernel
theorem s11_30 {L : Nat} {xs : Nat → Int32} {d x : Nat} {M : qxM} {st : List Value} {ls : qxL} {z0 : Int32} (hs : st.length ≤ 4) : Rs L xs (d + 1) 11 30 ls (.int z0 :: st) M x = (Rs L xs d 169 0 [some (.int z0)] [] M 0).bind (qx_kn L xs (d + 1) 11 30 33 169 ls st x) := by
  have h1 : qx_act L xs (qx_rt 11) (30, .invokestatic 60, 33, 169, 1, 1009) ls (.int z0 :: st) M = if 1 ≤ (.int z0 :: st).length ∧ st.length ≤ 4 then some (.inr (.inr (.inr (169, [.int z0], st)))) else none := rfl
  rw [if_pos ⟨by simp [List.length_cons]; try omega, hs⟩] at h1
  exact Rs_call c11_30 h1 rfl
theorem c11_33 : qx_code 11 33 = some (33, .ior, 34, 0, 0, 0) := by decide +kernel
theorem s11_33 {L : Nat} {xs : Nat → Int32} {d x : Nat} {M : qxM} {st : List Value} {ls : qxL} {z y : Int32} : Rs L xs (d) 11 33 ls (.int y :: .int z :: st) M x = Rs L xs (d) 11 34 ls (.int (z ||| y) :: st) M x := Rs_next c11_33 rfl
theorem c11_34 : qx_code 11 34 = some (34, .istore_n 2, 35, 0, 0, 0) := by decide +kernel
theorem s11_34i {L : Nat} {xs : Nat → Int32} {d x : Nat} {M : qxM} {st : List Value} {a0 a2 a3 : Option Value} {z : Int32} {y : Int32} : Rs L xs (d) 11 34 [a0, some (.int y), a2, a3] (.int z :: st) M x = Rs L xs (d) 11 35 [a0, some (.int y), some (.int z), a3] st M x := Rs_next c11_34 rfl
theorem s11_34r {L : Nat} {xs : Nat → Int32} {d x : Nat} {M : qxM} {st : List Value} {a0 a2 a3 : Option Value} {z : Int32} {y : Nat} : Rs L xs (d) 11 34 [a0, some (.ref y), a2, a3] (.int z :: st) M x = Rs L xs (d) 11 35 [a0, some (.ref y), some (.int z), a3] st M x := Rs_next c11_34 rfl
theorem s11_34n {L : Nat} {xs : Nat → Int32} {d x : Nat} {M : qxM} {st : List Value} {a0 a2 a3 : Option Value} {z : Int32} : Rs L xs (d) 11 34 [a0, none, a2, a3] (.int z :: st) M x = Rs L xs (d) 11 35 [a0, none, some (.int z), a3] st M x := Rs_next c11_34 rfl
theorem c11_35 : qx_code 11 35 = some (35, .iinc 3 1, 38, 0, 0, 0) := by decide +kernel
theorem s11_35i {L : Nat} {xs : Nat → Int32} {d x : Nat} {M : qxM} {st : List Value} {a0 a1 : Option Value} {z : Int32} {y : Int32} : Rs L xs (d) 11 35 [a0, a1, some (.int y), some (.int z)] st M x = Rs L xs (d) 11 38 [a0, a1, some (.int y), some (.int (z + (nI 1)))] st M x := Rs_next c11_35 rfl
theorem s11_35r {L : Nat} {xs : Nat → Int32} {d x : Nat} {M : qxM} {st : List Value} {a0 a1 : Option Value} {z : Int32} {y : Nat} : Rs L xs (d) 11 35 [a0, a1, some (.ref y), some (.int z)] st M x = Rs L xs (d) 11 38 [a0, a1, some (.ref y), some (.int (z + (nI 1)))] st M x := Rs_next c11_35 rfl
theorem s11_35n {L : Nat} {xs : Nat → Int32} {d x : Nat} {M : qxM} {st : List Value} {a0 a1 : Option Value} {z : Int32} : Rs L xs (d) 11 35 [a0, a1, none, some (.int z)] st M x = Rs L xs (d) 11 38 [a0, a1, none, some (.int (z + (nI 1)))] st M x := Rs_next c11_35 rfl
theorem c11_38 : qx_code 11 38 = some (38, .goto (-34), 41, 4, 0, 0) := by decide +kernel
theorem s11_38 {L : Nat} {xs : Nat → Int32} {d x : Nat} {M : qxM} {st : List Value} {ls : qxL} : Rs L xs (d) 11 38 ls st M x = Rs L xs (d) 11 4 ls st M x := Rs_next c11_38 rfl
theorem c11_41 : qx_code 11 41 = some (41, .iload_n 2, 42, 0, 0, 0) := by decide +kernel
theorem s11_41 {L : Nat} {xs : Nat → Int32} {d x : Nat} {M : qxM} {st : List Value} {a0 a1 a3 : Option Value} {z : Int32} : Rs L xs (d) 11 41 [a0, a1, some (.int z), a3] st M x = Rs L xs (d) 11 42 [a0, a1, some (.int z), a3] (.int z :: st) M x := Rs_next c11_41 rfl
theorem c11_42 : qx_code 11 42 = some (42, .ireturn, 43, 0, 0, 0) := by decide +kernel
theorem s11_42 {L : Nat} {xs : Nat → Int32} {d x : Nat} {M : qxM} {ls : qxL} {z : Int32} : Rs L xs (d) 11 42 ls [.int z] M x = some (.inl (some (.int z)), M, x) := Rs_ret c11_42 rfl
theorem c12_0 : qx_code 12 0 = some (0, .aload_n 0, 1, 0, 0, 0) := by decide +kernel
theorem s12_0 {L : Nat} {xs : Nat → Int32} {d x : Nat} {M : qxM} {st : List Value} {a1 a2 : Option Value} {z : Nat} : Rs L xs (d) 12 0 [some (.ref z), a1, a2] st M x = Rs L xs (d) 12 1 [some (.ref z), a1, a2] (.ref z :: st) M x := Rs_next c12_0 rfl
theorem c12_1 : qx_code 12 1 = some (1, .iload_n 1, 2, 0, 0, 0) := by decide +kernel
theorem s12_1 {L : Nat} {xs : Nat → Int32} {d x : Nat} {M : qxM} {st : List Value} {a0 a2 : Option Value} {z : Int32} : Rs L xs (d) 12 1 [a0, some (.int z), a2] st M x = Rs L xs (d) 12 2 [a0, some (.int z), a2] (.int z :: st) M x := Rs_next c12_1 rfl
theorem c12_2 : qx_code 12 2 = some (2, .invokevirtual 38, 5, 9, 2, 989) := by decide +kernel
theorem s12_2 {L : Nat} {xs : Nat → Int32} {d x : Nat} {M : qxM} {st : List Value} {ls : qxL} {t : Nat} {z0 : Int32} (hk : qx_kd t = 10) (hs : st.length ≤ 4) : Rs L xs (d + 1) 12 2 ls (.int z0 :: .ref t :: st) M x = (Rs L xs d 9 0 [some (.ref t), some (.int z0)] [] M 0).bind (qx_kn L xs (d + 1) 12 2 5 9 ls st x) := by
  have h1 : qx_act L xs (qx_rt 12) (2, .invokevirtual 38, 5, 9, 2, 989) ls (.int z0 :: .ref t :: st) M = if 2 ≤ (.int z0 :: .ref t :: st).length ∧ st.length ≤ 4 then some (.inr (.inr (.inr (9, [.ref t, .int z0], st)))) else none := rfl
  rw [if_pos ⟨by simp [List.length_cons]; try omega, hs⟩] at h1
  have h2 := qx_kd_obj (k := 0) (by decide) hk
  exact Rs_call c12_2 h1 (by rw [show qx_args 9 [.ref t, .int z0] = decide (qx_sh t = some (.inl 0)) from rfl]; exact decide_eq_true h2)
theorem c12_5 : qx_code 12 5 = some (5, .iload_n 2, 6, 0, 0, 0) := by decide +kernel
theorem s12_5 {L : Nat} {xs : Nat → Int32} {d x : Nat} {M : qxM} {st : List Value} {a0 a1 : Option Value} {z : Int32} : Rs L xs (d) 12 5 [a0, a1, some (.int z)] st M x = Rs L xs (d) 12 6 [a0, a1, some (.int z)] (.int z :: st) M x := Rs_next c12_5 rfl
theorem c12_6 : qx_code 12 6 = some (6, .invokestatic 75, 9, 170, 2, 1010) := by decide +kernel
theorem s12_6 {L : Nat} {xs : Nat → Int32} {d x : Nat} {M : qxM} {st : List Value} {ls : qxL} {z0 : Int32} {z1 : Int32} (hs : st.length ≤ 4) : Rs L xs (d + 1) 12 6 ls (.int z1 :: .int z0 :: st) M x = (Rs L xs d 170 0 [some (.int z0), some (.int z1)] [] M 0).bind (qx_kn L xs (d + 1) 12 6 9 170 ls st x) := by
  have h1 : qx_act L xs (qx_rt 12) (6, .invokestatic 75, 9, 170, 2, 1010) ls (.int z1 :: .int z0 :: st) M = if 2 ≤ (.int z1 :: .int z0 :: st).length ∧ st.length ≤ 4 then some (.inr (.inr (.inr (170, [.int z0, .int z1], st)))) else none := rfl
  rw [if_pos ⟨by simp [List.length_cons]; try omega, hs⟩] at h1
  exact Rs_call c12_6 h1 rfl
theorem c12_9 : qx_code 12 9 = some (9, .ifCond .eq 22, 12, 31, 0, 0) := by decide +kernel
theorem s12_9 {L : Nat} {xs : Nat → Int32} {d x : Nat} {M : qxM} {st : List Value} {ls : qxL} {z : Int32} : Rs L xs (d) 12 9 ls (.int z :: st) M x = if z = 0 then Rs L xs (d) 12 31 ls st M x else Rs L xs (d) 12 12 ls st M x := Rs_ite c12_9 rfl
theorem c12_12 : qx_code 12 12 = some (12, .aload_n 0, 13, 0, 0, 0) := by decide +kernel
theorem s12_12 {L : Nat} {xs : Nat → Int32} {d x : Nat} {M : qxM} {st : List Value} {a1 a2 : Option Value} {z : Nat} : Rs L xs (d) 12 12 [some (.ref z), a1, a2] st M x = Rs L xs (d) 12 13 [some (.ref z), a1, a2] (.ref z :: st) M x := Rs_next c12_12 rfl
theorem c12_13 : qx_code 12 13 = some (13, .iload_n 1, 14, 0, 0, 0) := by decide +kernel
theorem s12_13 {L : Nat} {xs : Nat → Int32} {d x : Nat} {M : qxM} {st : List Value} {a0 a2 : Option Value} {z : Int32} : Rs L xs (d) 12 13 [a0, some (.int z), a2] st M x = Rs L xs (d) 12 14 [a0, some (.int z), a2] (.int z :: st) M x := Rs_next c12_13 rfl
theorem c12_14 : qx_code 12 14 = some (14, .iload_n 2, 15, 0, 0, 0) := by decide +kernel
theorem s12_14 {L : Nat} {xs : Nat → Int32} {d x : Nat} {M : qxM} {st : List Value} {a0 a1 : Option Value} {z : Int32} : Rs L xs (d) 12 14 [a0, a1, some (.int z)] st M x = Rs L xs (d) 12 15 [a0, a1, some (.int z)] (.int z :: st) M x := Rs_next c12_14 rfl
theorem c12_15 : qx_code 12 15 = some (15, .invokevirtual 82, 18, 3, 3, 1046) := by decide +kernel
theorem s12_15 {L : Nat} {xs : Nat → Int32} {d x : Nat} {M : qxM} {st : List Value} {ls : qxL} {t : Nat} {z0 : Int32} {z1 : Int32} (hk : qx_kd t = 10) (hs : st.length ≤ 4) : Rs L xs (d + 1) 12 15 ls (.int z1 :: .int z0 :: .ref t :: st) M x = (Rs L xs d 3 0 [some (.ref t), some (.int z0), some (.int z1)] [] M 0).bind (qx_kn L xs (d + 1) 12 15 18 3 ls st x) := by
  have h1 : qx_act L xs (qx_rt 12) (15, .invokevirtual 82, 18, 3, 3, 1046) ls (.int z1 :: .int z0 :: .ref t :: st) M = if 3 ≤ (.int z1 :: .int z0 :: .ref t :: st).length ∧ st.length ≤ 4 then some (.inr (.inr (.inr (3, [.ref t, .int z0, .int z1], st)))) else none := rfl
  rw [if_pos ⟨by simp [List.length_cons]; try omega, hs⟩] at h1
  have h2 := qx_kd_obj (k := 0) (by decide) hk
  exact Rs_call c12_15 h1 (by rw [show qx_args 3 [.ref t, .int z0, .int z1] = decide (qx_sh t = some (.inl 0)) from rfl]; exact decide_eq_true h2)
theorem c12_18 : qx_code 12 18 = some (18, .iconst 1, 19, 0, 0, 0) := by decide +kernel
theorem s12_18 {L : Nat} {xs : Nat → Int32} {d x : Nat} {M : qxM} {st : List Value} {ls : qxL} : Rs L xs (d) 12 18 ls st M x = Rs L xs (d) 12 19 ls (.int (nI 1) :: st) M x := Rs_next c12_18 rfl
theorem c12_19 : qx_code 12 19 = some (19, .iadd, 20, 0, 0, 0) := by decide +kernel
theorem s12_19 {L : Nat} {xs : Nat → Int32} {d x : Nat} {M : qxM} {st : List Value} {ls : qxL} {z y : Int32} : Rs L xs (d) 12 19 ls (.int y :: .int z :: st) M x = Rs L xs (d) 12 20 ls (.int (z + y) :: st) M x := Rs_next c12_19 rfl
theorem c12_20 : qx_code 12 20 = some (20, .aload_n 0, 21, 0, 0, 0) := by decide +kernel
theorem s12_20 {L : Nat} {xs : Nat → Int32} {d x : Nat} {M : qxM} {st : List Value} {a1 a2 : Option Value} {z : Nat} : Rs L xs (d) 12 20 [some (.ref z), a1, a2] st M x = Rs L xs (d) 12 21 [some (.ref z), a1, a2] (.ref z :: st) M x := Rs_next c12_20 rfl
theorem c12_21 : qx_code 12 21 = some (21, .invokevirtual 54, 24, 1, 1, 1034) := by decide +kernel
theorem s12_21 {L : Nat} {xs : Nat → Int32} {d x : Nat} {M : qxM} {st : List Value} {ls : qxL} {t : Nat} (hk : qx_kd t = 10) (hs : st.length ≤ 4) : Rs L xs (d + 1) 12 21 ls (.ref t :: st) M x = (Rs L xs d 1 0 [some (.ref t)] [] M 0).bind (qx_kn L xs (d + 1) 12 21 24 1 ls st x) := by
  have h1 : qx_act L xs (qx_rt 12) (21, .invokevirtual 54, 24, 1, 1, 1034) ls (.ref t :: st) M = if 1 ≤ (.ref t :: st).length ∧ st.length ≤ 4 then some (.inr (.inr (.inr (1, [.ref t], st)))) else none := rfl
  rw [if_pos ⟨by simp [List.length_cons]; try omega, hs⟩] at h1
  have h2 := qx_kd_obj (k := 0) (by decide) hk
  exact Rs_call c12_21 h1 (by rw [show qx_args 1 [.ref t] = decide (qx_sh t = some (.inl 0)) from rfl]; exact decide_eq_true h2)
theorem c12_24 : qx_code 12 24 = some (24, .if_icmp .ne 7, 27, 31, 0, 0) := by decide +kernel
theorem s12_24 {L : Nat} {xs : Nat → Int32} {d x : Nat} {M : qxM} {st : List Value} {ls : qxL} {z y : Int32} : Rs L xs (d) 12 24 ls (.int y :: .int z :: st) M x = if z = y then Rs L xs (d) 12 27 ls st M x else Rs L xs (d) 12 31 ls st M x := Rs_ite c12_24 rfl
theorem c12_27 : qx_code 12 27 = some (27, .iconst 1, 28, 0, 0, 0) := by decide +kernel
theorem s12_27 {L : Nat} {xs : Nat → Int32} {d x : Nat} {M : qxM} {st : List Value} {ls : qxL} : Rs L xs (d) 12 27 ls st M x = Rs L xs (d) 12 28 ls (.int (nI 1) :: st) M x := Rs_next c12_27 rfl
theorem c12_28 : qx_code 12 28 = some (28, .goto 4, 31, 32, 0, 0) := by decide +kernel
theorem s12_28 {L : Nat} {xs : Nat → Int32} {d x : Nat} {M : qxM} {st : List Value} {ls : qxL} : Rs L xs (d) 12 28 ls st M x = Rs L xs (d) 12 32 ls st M x := Rs_next c12_28 rfl
theorem c12_31 : qx_code 12 31 = some (31, .iconst 0, 32, 0, 0, 0) := by decide +kernel
theorem s12_31 {L : Nat} {xs : Nat → Int32} {d x : Nat} {M : qxM} {st : List Value} {ls : qxL} : Rs L xs (d) 12 31 ls st M x = Rs L xs (d) 12 32 ls (.int (nI 0) :: st) M x := Rs_next c12_31 rfl
theorem c12_32 : qx_code 12 32 = some (32, .ireturn, 33, 0, 0, 0) := by decide +kernel
theorem s12_32 {L : Nat} {xs : Nat → Int32} {d x : Nat} {M : qxM} {ls : qxL} {z : Int32} (h01 : z = 0 ∨ z = 1) : Rs L xs (d) 12 32 ls [.int z] M x = some (.inl (some (.int z)), M, x) := Rs_retw h01 c12_32 rfl
theorem c13_0 : qx_code 13 0 = some (0, .aload_n 0, 1, 0, 0, 0) := by decide +kernel
theorem s13_0 {L : Nat} {xs : Nat → Int32} {d x : Nat} {M : qxM} {st : List Value} {a1 a2 : Option Value} {z : Nat} : Rs L xs (d) 13 0 [some (.ref z), a1, a2] st M x = Rs L xs (d) 13 1 [some (.ref z), a1, a2] (.ref z :: st) M x := Rs_next c13_0 rfl
theorem c13_1 : qx_code 13 1 = some (1, .iload_n 1, 2, 0, 0, 0) := by decide +kernel
theorem s13_1 {L : Nat} {xs : Nat → Int32} {d x : Nat} {M : qxM} {st : List Value} {a0 a2 : Option Value} {z : Int32} : Rs L xs (d) 13 1 [a0, some (.int z), a2] st M x = Rs L xs (d) 13 2 [a0, some (.int z), a2] (.int z :: st) M x := Rs_next c13_1 rfl
theorem c13_2 : qx_code 13 2 = some (2, .iload_n 2, 3, 0, 0, 0) := by decide +kernel
theorem s13_2 {L : Nat} {xs : Nat → Int32} {d x : Nat} {M : qxM} {st : List Value} {a0 a1 : Option Value} {z : Int32} : Rs L xs (d) 13 2 [a0, a1, some (.int z)] st M x = Rs L xs (d) 13 3 [a0, a1, some (.int z)] (.int z :: st) M x := Rs_next c13_2 rfl
theorem c13_3 : qx_code 13 3 = some (3, .invokevirtual 85, 6, 12, 3, 1161) := by decide +kernel
theorem s13_3 {L : Nat} {xs : Nat → Int32} {d x : Nat} {M : qxM} {st : List Value} {ls : qxL} {t : Nat} {z0 : Int32} {z1 : Int32} (hk : qx_kd t = 10) (hs : st.length ≤ 4) : Rs L xs (d + 1) 13 3 ls (.int z1 :: .int z0 :: .ref t :: st) M x = (Rs L xs d 12 0 [some (.ref t), some (.int z0), some (.int z1)] [] M 0).bind (qx_kn L xs (d + 1) 13 3 6 12 ls st x) := by
  have h1 : qx_act L xs (qx_rt 13) (3, .invokevirtual 85, 6, 12, 3, 1161) ls (.int z1 :: .int z0 :: .ref t :: st) M = if 3 ≤ (.int z1 :: .int z0 :: .ref t :: st).length ∧ st.length ≤ 4 then some (.inr (.inr (.inr (12, [.ref t, .int z0, .int z1], st)))) else none := rfl
  rw [if_pos ⟨by simp [List.length_cons]; try omega, hs⟩] at h1
  have h2 := qx_kd_obj (k := 0) (by decide) hk
  exact Rs_call c13_3 h1 (by rw [show qx_args 12 [.ref t, .int z0, .int z1] = decide (qx_sh t = some (.inl 0)) from rfl]; exact decide_eq_true h2)
theorem c13_6 : qx_code 13 6 = some (6, .ifCond .eq 28, 9, 34, 0, 0) := by decide +kernel
theorem s13_6 {L : Nat} {xs : Nat → Int32} {d x : Nat} {M : qxM} {st : List Value} {ls : qxL} {z : Int32} : Rs L xs (d) 13 6 ls (.int z :: st) M x = if z = 0 then Rs L xs (d) 13 34 ls st M x else Rs L xs (d) 13 9 ls st M x := Rs_ite c13_6 rfl
theorem c13_9 : qx_code 13 9 = some (9, .aload_n 0, 10, 0, 0, 0) := by decide +kernel
theorem s13_9 {L : Nat} {xs : Nat → Int32} {d x : Nat} {M : qxM} {st : List Value} {a1 a2 : Option Value} {z : Nat} : Rs L xs (d) 13 9 [some (.ref z), a1, a2] st M x = Rs L xs (d) 13 10 [some (.ref z), a1, a2] (.ref z :: st) M x := Rs_next c13_9 rfl
theorem c13_10 : qx_code 13 10 = some (10, .aload_n 0, 11, 0, 0, 0) := by decide +kernel
theorem s13_10 {L : Nat} {xs : Nat → Int32} {d x : Nat} {M : qxM} {st : List Value} {a1 a2 : Option Value} {z : Nat} : Rs L xs (d) 13 10 [some (.ref z), a1, a2] st M x = Rs L xs (d) 13 11 [some (.ref z), a1, a2] (.ref z :: st) M x := Rs_next c13_10 rfl
theorem c13_11 : qx_code 13 11 = some (11, .iload_n 1, 12, 0, 0, 0) := by decide +kernel
theorem s13_11 {L : Nat} {xs : Nat → Int32} {d x : Nat} {M : qxM} {st : List Value} {a0 a2 : Option Value} {z : Int32} : Rs L xs (d) 13 11 [a0, some (.int z), a2] st M x = Rs L xs (d) 13 12 [a0, some (.int z), a2] (.int z :: st) M x := Rs_next c13_11 rfl
theorem c13_12 : qx_code 13 12 = some (12, .iload_n 2, 13, 0, 0, 0) := by decide +kernel
theorem s13_12 {L : Nat} {xs : Nat → Int32} {d x : Nat} {M : qxM} {st : List Value} {a0 a1 : Option Value} {z : Int32} : Rs L xs (d) 13 12 [a0, a1, some (.int z)] st M x = Rs L xs (d) 13 13 [a0, a1, some (.int z)] (.int z :: st) M x := Rs_next c13_12 rfl
theorem c13_13 : qx_code 13 13 = some (13, .invokevirtual 57, 16, 4, 3, 1050) := by decide +kernel
theorem s13_13 {L : Nat} {xs : Nat → Int32} {d x : Nat} {M : qxM} {st : List Value} {ls : qxL} {t : Nat} {z0 : Int32} {z1 : Int32} (hk : qx_kd t = 10) (hs : st.length ≤ 4) : Rs L xs (d + 1) 13 13 ls (.int z1 :: .int z0 :: .ref t :: st) M x = (Rs L xs d 4 0 [some (.ref t), some (.int z0), some (.int z1)] [] M 0).bind (qx_kn L xs (d + 1) 13 13 16 4 ls st x) := by
  have h1 : qx_act L xs (qx_rt 13) (13, .invokevirtual 57, 16, 4, 3, 1050) ls (.int z1 :: .int z0 :: .ref t :: st) M = if 3 ≤ (.int z1 :: .int z0 :: .ref t :: st).length ∧ st.length ≤ 4 then some (.inr (.inr (.inr (4, [.ref t, .int z0, .int z1], st)))) else none := rfl
  rw [if_pos ⟨by simp [List.length_cons]; try omega, hs⟩] at h1
  have h2 := qx_kd_obj (k := 0) (by decide) hk
  exact Rs_call c13_13 h1 (by rw [show qx_args 4 [.ref t, .int z0, .int z1] = decide (qx_sh t = some (.inl 0)) from rfl]; exact decide_eq_true h2)
theorem c13_16 : qx_code 13 16 = some (16, .invokevirtual 88, 19, 6, 2, 1162) := by decide +kernel
theorem s13_16 {L : Nat} {xs : Nat → Int32} {d x : Nat} {M : qxM} {st : List Value} {ls : qxL} {t : Nat} {z0 : Int32} (hk : qx_kd t = 10) (hs : st.length ≤ 4) : Rs L xs (d + 1) 13 16 ls (.int z0 :: .ref t :: st) M x = (Rs L xs d 6 0 [some (.ref t), some (.int z0)] [] M 0).bind (qx_kn L xs (d + 1) 13 16 19 6 ls st x) := by
  have h1 : qx_act L xs (qx_rt 13) (16, .invokevirtual 88, 19, 6, 2, 1162) ls (.int z0 :: .ref t :: st) M = if 2 ≤ (.int z0 :: .ref t :: st).length ∧ st.length ≤ 4 then some (.inr (.inr (.inr (6, [.ref t, .int z0], st)))) else none := rfl
  rw [if_pos ⟨by simp [List.length_cons]; try omega, hs⟩] at h1
  have h2 := qx_kd_obj (k := 0) (by decide) hk
  exact Rs_call c13_16 h1 (by rw [show qx_args 6 [.ref t, .int z0] = decide (qx_sh t = some (.inl 0)) from rfl]; exact decide_eq_true h2)
theorem c13_19 : qx_code 13 19 = some (19, .aload_n 0, 20, 0, 0, 0) := by decide +kernel
theorem s13_19 {L : Nat} {xs : Nat → Int32} {d x : Nat} {M : qxM} {st : List Value} {a1 a2 : Option Value} {z : Nat} : Rs L xs (d) 13 19 [some (.ref z), a1, a2] st M x = Rs L xs (d) 13 20 [some (.ref z), a1, a2] (.ref z :: st) M x := Rs_next c13_19 rfl
theorem c13_20 : qx_code 13 20 = some (20, .aload_n 0, 21, 0, 0, 0) := by decide +kernel
theorem s13_20 {L : Nat} {xs : Nat → Int32} {d x : Nat} {M : qxM} {st : List Value} {a1 a2 : Option Value} {z : Nat} : Rs L xs (d) 13 20 [some (.ref z), a1, a2] st M x = Rs L xs (d) 13 21 [some (.ref z), a1, a2] (.ref z :: st) M x := Rs_next c13_20 rfl
theorem c13_21 : qx_code 13 21 = some (21, .getfield 31, 24, 0, 0, 253) := by decide +kernel
theorem s13_21 {L : Nat} {xs : Nat → Int32} {d x : Nat} {M : qxM} {st : List Value} {ls : qxL} {t : Nat} (hk : qx_kd t = 10) : Rs L xs (d) 13 21 ls (.ref t :: st) M x = Rs L xs (d) 13 24 ls (.int (M.1 t 0) :: st) M x := Rs_when (qx_kd_obj (k := 0) (by decide) hk) c13_21 rfl
theorem c13_24 : qx_code 13 24 = some (24, .invokevirtual 88, 27, 6, 2, 1162) := by decide +kernel
theorem s13_24 {L : Nat} {xs : Nat → Int32} {d x : Nat} {M : qxM} {st : List Value} {ls : qxL} {t : Nat} {z0 : Int32} (hk : qx_kd t = 10) (hs : st.length ≤ 4) : Rs L xs (d + 1) 13 24 ls (.int z0 :: .ref t :: st) M x = (Rs L xs d 6 0 [some (.ref t), some (.int z0)] [] M 0).bind (qx_kn L xs (d + 1) 13 24 27 6 ls st x) := by
  have h1 : qx_act L xs (qx_rt 13) (24, .invokevirtual 88, 27, 6, 2, 1162) ls (.int z0 :: .ref t :: st) M = if 2 ≤ (.int z0 :: .ref t :: st).length ∧ st.length ≤ 4 then some (.inr (.inr (.inr (6, [.ref t, .int z0], st)))) else none := rfl
  rw [if_pos ⟨by simp [List.length_cons]; try omega, hs⟩] at h1
  have h2 := qx_kd_obj (k := 0) (by decide) hk
  exact Rs_call c13_24 h1 (by rw [show qx_args 6 [.ref t, .int z0] = decide (qx_sh t = some (.inl 0)) from rfl]; exact decide_eq_true h2)
theorem c13_27 : qx_code 13 27 = some (27, .if_icmp .ne 7, 30, 34, 0, 0) := by decide +kernel
theorem s13_27 {L : Nat} {xs : Nat → Int32} {d x : Nat} {M : qxM} {st : List Value} {ls : qxL} {z y : Int32} : Rs L xs (d) 13 27 ls (.int y :: .int z :: st) M x = if z = y then Rs L xs (d) 13 30 ls st M x else Rs L xs (d) 13 34 ls st M x := Rs_ite c13_27 rfl
theorem c13_30 : qx_code 13 30 = some (30, .iconst 1, 31, 0, 0, 0) := by decide +kernel
theorem s13_30 {L : Nat} {xs : Nat → Int32} {d x : Nat} {M : qxM} {st : List Value} {ls : qxL} : Rs L xs (d) 13 30 ls st M x = Rs L xs (d) 13 31 ls (.int (nI 1) :: st) M x := Rs_next c13_30 rfl
theorem c13_31 : qx_code 13 31 = some (31, .goto 4, 34, 35, 0, 0) := by decide +kernel
theorem s13_31 {L : Nat} {xs : Nat → Int32} {d x : Nat} {M : qxM} {st : List Value} {ls : qxL} : Rs L xs (d) 13 31 ls st M x = Rs L xs (d) 13 35 ls st M x := Rs_next c13_31 rfl
theorem c13_34 : qx_code 13 34 = some (34, .iconst 0, 35, 0, 0, 0) := by decide +kernel
theorem s13_34 {L : Nat} {xs : Nat → Int32} {d x : Nat} {M : qxM} {st : List Value} {ls : qxL} : Rs L xs (d) 13 34 ls st M x = Rs L xs (d) 13 35 ls (.int (nI 0) :: st) M x := Rs_next c13_34 rfl
theorem c13_35 : qx_code 13 35 = some (35, .ireturn, 36, 0, 0, 0) := by decide +kernel
theorem s13_35 {L : Nat} {xs : Nat → Int32} {d x : Nat} {M : qxM} {ls : qxL} {z : Int32} (h01 : z = 0 ∨ z = 1) : Rs L xs (d) 13 35 ls [.int z] M x = some (.inl (some (.int z)), M, x) := Rs_retw h01 c13_35 rfl
theorem c14_0 : qx_code 14 0 = some (0, .aload_n 0, 1, 0, 0, 0) := by decide +kernel
theorem s14_0 {L : Nat} {xs : Nat → Int32} {d x : Nat} {M : qxM} {st : List Value} {a1 : Option Value} {z : Nat} : Rs L xs (d) 14 0 [some (.ref z), a1] st M x = Rs L xs (d) 14 1 [some (.ref z), a1] (.ref z :: st) M x := Rs_next c14_0 rfl
theorem c14_1 : qx_code 14 1 = some (1, .aload_n 0, 2, 0, 0, 0) := by decide +kernel
theorem s14_1 {L : Nat} {xs : Nat → Int32} {d x : Nat} {M : qxM} {st : List Value} {a1 : Option Value} {z : Nat} : Rs L xs (d) 14 1 [some (.ref z), a1] st M x = Rs L xs (d) 14 2 [some (.ref z), a1] (.ref z :: st) M x := Rs_next c14_1 rfl
theorem c14_2 : qx_code 14 2 = some (2, .getfield 31, 5, 0, 0, 253) := by decide +kernel
theorem s14_2 {L : Nat} {xs : Nat → Int32} {d x : Nat} {M : qxM} {st : List Value} {ls : qxL} {t : Nat} (hk : qx_kd t = 10) : Rs L xs (d) 14 2 ls (.ref t :: st) M x = Rs L xs (d) 14 5 ls (.int (M.1 t 0) :: st) M x := Rs_when (qx_kd_obj (k := 0) (by decide) hk) c14_2 rfl
theorem c14_5 : qx_code 14 5 = some (5, .iload_n 1, 6, 0, 0, 0) := by decide +kernel
theorem s14_5 {L : Nat} {xs : Nat → Int32} {d x : Nat} {M : qxM} {st : List Value} {a0 : Option Value} {z : Int32} : Rs L xs (d) 14 5 [a0, some (.int z)] st M x = Rs L xs (d) 14 6 [a0, some (.int z)] (.int z :: st) M x := Rs_next c14_5 rfl
theorem c14_6 : qx_code 14 6 = some (6, .iconst (-1), 7, 0, 0, 0) := by decide +kernel
theorem s14_6 {L : Nat} {xs : Nat → Int32} {d x : Nat} {M : qxM} {st : List Value} {ls : qxL} : Rs L xs (d) 14 6 ls st M x = Rs L xs (d) 14 7 ls (.int (-1) :: st) M x := Rs_next c14_6 rfl
theorem c14_7 : qx_code 14 7 = some (7, .ixor, 8, 0, 0, 0) := by decide +kernel
theorem s14_7 {L : Nat} {xs : Nat → Int32} {d x : Nat} {M : qxM} {st : List Value} {ls : qxL} {z y : Int32} : Rs L xs (d) 14 7 ls (.int y :: .int z :: st) M x = Rs L xs (d) 14 8 ls (.int (z ^^^ y) :: st) M x := Rs_next c14_7 rfl
theorem c14_8 : qx_code 14 8 = some (8, .iand, 9, 0, 0, 0) := by decide +kernel
theorem s14_8 {L : Nat} {xs : Nat → Int32} {d x : Nat} {M : qxM} {st : List Value} {ls : qxL} {z y : Int32} : Rs L xs (d) 14 8 ls (.int y :: .int z :: st) M x = Rs L xs (d) 14 9 ls (.int (z &&& y) :: st) M x := Rs_next c14_8 rfl
theorem c14_9 : qx_code 14 9 = some (9, .iconst 1, 10, 0, 0, 0) := by decide +kernel
theorem s14_9 {L : Nat} {xs : Nat → Int32} {d x : Nat} {M : qxM} {st : List Value} {ls : qxL} : Rs L xs (d) 14 9 ls st M x = Rs L xs (d) 14 10 ls (.int (nI 1) :: st) M x := Rs_next c14_9 rfl
theorem c14_10 : qx_code 14 10 = some (10, .invokevirtual 91, 13, 17, 3, 1119) := by decide +kernel
theorem s14_10 {L : Nat} {xs : Nat → Int32} {d x : Nat} {M : qxM} {st : List Value} {ls : qxL} {t : Nat} {z0 : Int32} {z1 : Int32} (hk : qx_kd t = 10) (hs : st.length ≤ 4) : Rs L xs (d + 1) 14 10 ls (.int z1 :: .int z0 :: .ref t :: st) M x = (Rs L xs d 17 0 [some (.ref t), some (.int z0), some (.int z1), none, none, none, none] [] M 0).bind (qx_kn L xs (d + 1) 14 10 13 17 ls st x) := by
  have h1 : qx_act L xs (qx_rt 14) (10, .invokevirtual 91, 13, 17, 3, 1119) ls (.int z1 :: .int z0 :: .ref t :: st) M = if 3 ≤ (.int z1 :: .int z0 :: .ref t :: st).length ∧ st.length ≤ 4 then some (.inr (.inr (.inr (17, [.ref t, .int z0, .int z1], st)))) else none := rfl
  rw [if_pos ⟨by simp [List.length_cons]; try omega, hs⟩] at h1
  have h2 := qx_kd_obj (k := 0) (by decide) hk
  exact Rs_call c14_10 h1 (by rw [show qx_args 17 [.ref t, .int z0, .int z1] = decide (qx_sh t = some (.inl 0)) from rfl]; exact decide_eq_true h2)
theorem c14_13 : qx_code 14 13 = some (13, .ireturn, 14, 0, 0, 0) := by decide +kernel
theorem s14_13 {L : Nat} {xs : Nat → Int32} {d x : Nat} {M : qxM} {ls : qxL} {z : Int32} : Rs L xs (d) 14 13 ls [.int z] M x = some (.inl (some (.int z)), M, x) := Rs_ret c14_13 rfl
theorem c15_0 : qx_code 15 0 = some (0, .aload_n 0, 1, 0, 0, 0) := by decide +kernel
theorem s15_0 {L : Nat} {xs : Nat → Int32} {d x : Nat} {M : qxM} {st : List Value} {a1 a2 : Option Value} {z : Nat} : Rs L xs (d) 15 0 [some (.ref z), a1, a2] st M x = Rs L xs (d) 15 1 [some (.ref z), a1, a2] (.ref z :: st) M x := Rs_next c15_0 rfl
theorem c15_1 : qx_code 15 1 = some (1, .iload_n 1, 2, 0, 0, 0) := by decide +kernel
theorem s15_1 {L : Nat} {xs : Nat → Int32} {d x : Nat} {M : qxM} {st : List Value} {a0 a2 : Option Value} {z : Int32} : Rs L xs (d) 15 1 [a0, some (.int z), a2] st M x = Rs L xs (d) 15 2 [a0, some (.int z), a2] (.int z :: st) M x := Rs_next c15_1 rfl
theorem c15_2 : qx_code 15 2 = some (2, .invokevirtual 95, 5, 14, 2, 1131) := by decide +kernel
theorem s15_2 {L : Nat} {xs : Nat → Int32} {d x : Nat} {M : qxM} {st : List Value} {ls : qxL} {t : Nat} {z0 : Int32} (hk : qx_kd t = 10) (hs : st.length ≤ 4) : Rs L xs (d + 1) 15 2 ls (.int z0 :: .ref t :: st) M x = (Rs L xs d 14 0 [some (.ref t), some (.int z0)] [] M 0).bind (qx_kn L xs (d + 1) 15 2 5 14 ls st x) := by
  have h1 : qx_act L xs (qx_rt 15) (2, .invokevirtual 95, 5, 14, 2, 1131) ls (.int z0 :: .ref t :: st) M = if 2 ≤ (.int z0 :: .ref t :: st).length ∧ st.length ≤ 4 then some (.inr (.inr (.inr (14, [.ref t, .int z0], st)))) else none := rfl
  rw [if_pos ⟨by simp [List.length_cons]; try omega, hs⟩] at h1
  have h2 := qx_kd_obj (k := 0) (by decide) hk
  exact Rs_call c15_2 h1 (by rw [show qx_args 14 [.ref t, .int z0] = decide (qx_sh t = some (.inl 0)) from rfl]; exact decide_eq_true h2)
theorem c15_5 : qx_code 15 5 = some (5, .iload_n 1, 6, 0, 0, 0) := by decide +kernel
theorem s15_5 {L : Nat} {xs : Nat → Int32} {d x : Nat} {M : qxM} {st : List Value} {a0 a2 : Option Value} {z : Int32} : Rs L xs (d) 15 5 [a0, some (.int z), a2] st M x = Rs L xs (d) 15 6 [a0, some (.int z), a2] (.int z :: st) M x := Rs_next c15_5 rfl
theorem c15_6 : qx_code 15 6 = some (6, .invokestatic 49, 9, 334, 1, 1033) := by decide +kernel
theorem s15_6 {L : Nat} {xs : Nat → Int32} {d x : Nat} {M : qxM} {st : List Value} {ls : qxL} {z0 : Int32} (hs : st.length ≤ 4) : Rs L xs (d + 1) 15 6 ls (.int z0 :: st) M x = (Rs L xs d 334 0 [some (.int z0)] [] M 0).bind (qx_kn L xs (d + 1) 15 6 9 334 ls st x) := by
  have h1 : qx_act L xs (qx_rt 15) (6, .invokestatic 49, 9, 334, 1, 1033) ls (.int z0 :: st) M = if 1 ≤ (.int z0 :: st).length ∧ st.length ≤ 4 then some (.inr (.inr (.inr (334, [.int z0], st)))) else none := rfl
  rw [if_pos ⟨by simp [List.length_cons]; try omega, hs⟩] at h1
  exact Rs_call c15_6 h1 rfl
theorem c15_9 : qx_code 15 9 = some (9, .isub, 10, 0, 0, 0) := by decide +kernel
theorem s15_9 {L : Nat} {xs : Nat → Int32} {d x : Nat} {M : qxM} {st : List Value} {ls : qxL} {z y : Int32} : Rs L xs (d) 15 9 ls (.int y :: .int z :: st) M x = Rs L xs (d) 15 10 ls (.int (z - y) :: st) M x := Rs_next c15_9 rfl
theorem c15_10 : qx_code 15 10 = some (10, .iload_n 2, 11, 0, 0, 0) := by decide +kernel
theorem s15_10 {L : Nat} {xs : Nat → Int32} {d x : Nat} {M : qxM} {st : List Value} {a0 a1 : Option Value} {z : Int32} : Rs L xs (d) 15 10 [a0, a1, some (.int z)] st M x = Rs L xs (d) 15 11 [a0, a1, some (.int z)] (.int z :: st) M x := Rs_next c15_10 rfl
theorem c15_11 : qx_code 15 11 = some (11, .if_icmp .ne 7, 14, 18, 0, 0) := by decide +kernel
theorem s15_11 {L : Nat} {xs : Nat → Int32} {d x : Nat} {M : qxM} {st : List Value} {ls : qxL} {z y : Int32} : Rs L xs (d) 15 11 ls (.int y :: .int z :: st) M x = if z = y then Rs L xs (d) 15 14 ls st M x else Rs L xs (d) 15 18 ls st M x := Rs_ite c15_11 rfl
theorem c15_14 : qx_code 15 14 = some (14, .iconst 1, 15, 0, 0, 0) := by decide +kernel
theorem s15_14 {L : Nat} {xs : Nat → Int32} {d x : Nat} {M : qxM} {st : List Value} {ls : qxL} : Rs L xs (d) 15 14 ls st M x = Rs L xs (d) 15 15 ls (.int (nI 1) :: st) M x := Rs_next c15_14 rfl
theorem c15_15 : qx_code 15 15 = some (15, .goto 4, 18, 19, 0, 0) := by decide +kernel
theorem s15_15 {L : Nat} {xs : Nat → Int32} {d x : Nat} {M : qxM} {st : List Value} {ls : qxL} : Rs L xs (d) 15 15 ls st M x = Rs L xs (d) 15 19 ls st M x := Rs_next c15_15 rfl
theorem c15_18 : qx_code 15 18 = some (18, .iconst 0, 19, 0, 0, 0) := by decide +kernel
theorem s15_18 {L : Nat} {xs : Nat → Int32} {d x : Nat} {M : qxM} {st : List Value} {ls : qxL} : Rs L xs (d) 15 18 ls st M x = Rs L xs (d) 15 19 ls (.int (nI 0) :: st) M x := Rs_next c15_18 rfl
theorem c15_19 : qx_code 15 19 = some (19, .ireturn, 20, 0, 0, 0) := by decide +kernel
theorem s15_19 {L : Nat} {xs : Nat → Int32} {d x : Nat} {M : qxM} {ls : qxL} {z : Int32} (h01 : z = 0 ∨ z = 1) : Rs L xs (d) 15 19 ls [.int z] M x = some (.inl (some (.int z)), M, x) := Rs_retw h01 c15_19 rfl
theorem c16_0 : qx_code 16 0 = some (0, .iload_n 1, 1, 0, 0, 0) := by decide +kernel
theorem s16_0 {L : Nat} {xs : Nat → Int32} {d x : Nat} {M : qxM} {st : List Value} {a0 a2 a3 a4 a5 : Option Value} {z : Int32} : Rs L xs (d) 16 0 [a0, some (.int z), a2, a3, a4, a5] st M x = Rs L xs (d) 16 1 [a0, some (.int z), a2, a3, a4, a5] (.int z :: st) M x := Rs_next c16_0 rfl
theorem c16_1 : qx_code 16 1 = some (1, .iload_n 2, 2, 0, 0, 0) := by decide +kernel
theorem s16_1 {L : Nat} {xs : Nat → Int32} {d x : Nat} {M : qxM} {st : List Value} {a0 a1 a3 a4 a5 : Option Value} {z : Int32} : Rs L xs (d) 16 1 [a0, a1, some (.int z), a3, a4, a5] st M x = Rs L xs (d) 16 2 [a0, a1, some (.int z), a3, a4, a5] (.int z :: st) M x := Rs_next c16_1 rfl
theorem c16_2 : qx_code 16 2 = some (2, .invokestatic 60, 5, 169, 1, 1009) := by decide +kernel
theorem s16_2 {L : Nat} {xs : Nat → Int32} {d x : Nat} {M : qxM} {st : List Value} {ls : qxL} {z0 : Int32} (hs : st.length ≤ 4) : Rs L xs (d + 1) 16 2 ls (.int z0 :: st) M x = (Rs L xs d 169 0 [some (.int z0)] [] M 0).bind (qx_kn L xs (d + 1) 16 2 5 169 ls st x) := by
  have h1 : qx_act L xs (qx_rt 16) (2, .invokestatic 60, 5, 169, 1, 1009) ls (.int z0 :: st) M = if 1 ≤ (.int z0 :: st).length ∧ st.length ≤ 4 then some (.inr (.inr (.inr (169, [.int z0], st)))) else none := rfl
  rw [if_pos ⟨by simp [List.length_cons]; try omega, hs⟩] at h1
  exact Rs_call c16_2 h1 rfl
theorem c16_5 : qx_code 16 5 = some (5, .iconst (-1), 6, 0, 0, 0) := by decide +kernel
theorem s16_5 {L : Nat} {xs : Nat → Int32} {d x : Nat} {M : qxM} {st : List Value} {ls : qxL} : Rs L xs (d) 16 5 ls st M x = Rs L xs (d) 16 6 ls (.int (-1) :: st) M x := Rs_next c16_5 rfl
theorem c16_6 : qx_code 16 6 = some (6, .ixor, 7, 0, 0, 0) := by decide +kernel
theorem s16_6 {L : Nat} {xs : Nat → Int32} {d x : Nat} {M : qxM} {st : List Value} {ls : qxL} {z y : Int32} : Rs L xs (d) 16 6 ls (.int y :: .int z :: st) M x = Rs L xs (d) 16 7 ls (.int (z ^^^ y) :: st) M x := Rs_next c16_6 rfl
theorem c16_7 : qx_code 16 7 = some (7, .iand, 8, 0, 0, 0) := by decide +kernel
theorem s16_7 {L : Nat} {xs : Nat → Int32} {d x : Nat} {M : qxM} {st : List Value} {ls : qxL} {z y : Int32} : Rs L xs (d) 16 7 ls (.int y :: .int z :: st) M x = Rs L xs (d) 16 8 ls (.int (z &&& y) :: st) M x := Rs_next c16_7 rfl
theorem c16_8 : qx_code 16 8 = some (8, .istore_n 3, 9, 0, 0, 0) := by decide +kernel
theorem s16_8i {L : Nat} {xs : Nat → Int32} {d x : Nat} {M : qxM} {st : List Value} {a0 a1 a3 a4 a5 : Option Value} {z : Int32} {y : Int32} : Rs L xs (d) 16 8 [a0, a1, some (.int y), a3, a4, a5] (.int z :: st) M x = Rs L xs (d) 16 9 [a0, a1, some (.int y), some (.int z), a4, a5] st M x := Rs_next c16_8 rfl
theorem s16_8r {L : Nat} {xs : Nat → Int32} {d x : Nat} {M : qxM} {st : List Value} {a0 a1 a3 a4 a5 : Option Value} {z : Int32} {y : Nat} : Rs L xs (d) 16 8 [a0, a1, some (.ref y), a3, a4, a5] (.int z :: st) M x = Rs L xs (d) 16 9 [a0, a1, some (.ref y), some (.int z), a4, a5] st M x := Rs_next c16_8 rfl
theorem s16_8n {L : Nat} {xs : Nat → Int32} {d x : Nat} {M : qxM} {st : List Value} {a0 a1 a3 a4 a5 : Option Value} {z : Int32} : Rs L xs (d) 16 8 [a0, a1, none, a3, a4, a5] (.int z :: st) M x = Rs L xs (d) 16 9 [a0, a1, none, some (.int z), a4, a5] st M x := Rs_next c16_8 rfl
theorem c16_9 : qx_code 16 9 = some (9, .aload_n 0, 10, 0, 0, 0) := by decide +kernel
theorem s16_9 {L : Nat} {xs : Nat → Int32} {d x : Nat} {M : qxM} {st : List Value} {a1 a2 a3 a4 a5 : Option Value} {z : Nat} : Rs L xs (d) 16 9 [some (.ref z), a1, a2, a3, a4, a5] st M x = Rs L xs (d) 16 10 [some (.ref z), a1, a2, a3, a4, a5] (.ref z :: st) M x := Rs_next c16_9 rfl
theorem c16_10 : qx_code 16 10 = some (10, .iload_n 1, 11, 0, 0, 0) := by decide +kernel
theorem s16_10 {L : Nat} {xs : Nat → Int32} {d x : Nat} {M : qxM} {st : List Value} {a0 a2 a3 a4 a5 : Option Value} {z : Int32} : Rs L xs (d) 16 10 [a0, some (.int z), a2, a3, a4, a5] st M x = Rs L xs (d) 16 11 [a0, some (.int z), a2, a3, a4, a5] (.int z :: st) M x := Rs_next c16_10 rfl
theorem c16_11 : qx_code 16 11 = some (11, .invokevirtual 46, 14, 5, 2, 998) := by decide +kernel
theorem s16_11 {L : Nat} {xs : Nat → Int32} {d x : Nat} {M : qxM} {st : List Value} {ls : qxL} {t : Nat} {z0 : Int32} (hk : qx_kd t = 10) (hs : st.length ≤ 4) : Rs L xs (d + 1) 16 11 ls (.int z0 :: .ref t :: st) M x = (Rs L xs d 5 0 [some (.ref t), some (.int z0)] [] M 0).bind (qx_kn L xs (d + 1) 16 11 14 5 ls st x) := by
  have h1 : qx_act L xs (qx_rt 16) (11, .invokevirtual 46, 14, 5, 2, 998) ls (.int z0 :: .ref t :: st) M = if 2 ≤ (.int z0 :: .ref t :: st).length ∧ st.length ≤ 4 then some (.inr (.inr (.inr (5, [.ref t, .int z0], st)))) else none := rfl
  rw [if_pos ⟨by simp [List.length_cons]; try omega, hs⟩] at h1
  have h2 := qx_kd_obj (k := 0) (by decide) hk
  exact Rs_call c16_11 h1 (by rw [show qx_args 5 [.ref t, .int z0] = decide (qx_sh t = some (.inl 0)) from rfl]; exact decide_eq_true h2)
theorem c16_14 : qx_code 16 14 = some (14, .istore 4, 16, 0, 0, 0) := by decide +kernel
theorem s16_14i {L : Nat} {xs : Nat → Int32} {d x : Nat} {M : qxM} {st : List Value} {a0 a1 a2 a4 a5 : Option Value} {z : Int32} {y : Int32} : Rs L xs (d) 16 14 [a0, a1, a2, some (.int y), a4, a5] (.int z :: st) M x = Rs L xs (d) 16 16 [a0, a1, a2, some (.int y), some (.int z), a5] st M x := Rs_next c16_14 rfl
theorem s16_14r {L : Nat} {xs : Nat → Int32} {d x : Nat} {M : qxM} {st : List Value} {a0 a1 a2 a4 a5 : Option Value} {z : Int32} {y : Nat} : Rs L xs (d) 16 14 [a0, a1, a2, some (.ref y), a4, a5] (.int z :: st) M x = Rs L xs (d) 16 16 [a0, a1, a2, some (.ref y), some (.int z), a5] st M x := Rs_next c16_14 rfl
theorem s16_14n {L : Nat} {xs : Nat → Int32} {d x : Nat} {M : qxM} {st : List Value} {a0 a1 a2 a4 a5 : Option Value} {z : Int32} : Rs L xs (d) 16 14 [a0, a1, a2, none, a4, a5] (.int z :: st) M x = Rs L xs (d) 16 16 [a0, a1, a2, none, some (.int z), a5] st M x := Rs_next c16_14 rfl
theorem c16_16 : qx_code 16 16 = some (16, .iconst 0, 17, 0, 0, 0) := by decide +kernel
theorem s16_16 {L : Nat} {xs : Nat → Int32} {d x : Nat} {M : qxM} {st : List Value} {ls : qxL} : Rs L xs (d) 16 16 ls st M x = Rs L xs (d) 16 17 ls (.int (nI 0) :: st) M x := Rs_next c16_16 rfl
theorem c16_17 : qx_code 16 17 = some (17, .istore 5, 19, 0, 0, 0) := by decide +kernel
theorem s16_17i {L : Nat} {xs : Nat → Int32} {d x : Nat} {M : qxM} {st : List Value} {a0 a1 a2 a3 a5 : Option Value} {z : Int32} {y : Int32} : Rs L xs (d) 16 17 [a0, a1, a2, a3, some (.int y), a5] (.int z :: st) M x = Rs L xs (d) 16 19 [a0, a1, a2, a3, some (.int y), some (.int z)] st M x := Rs_next c16_17 rfl
theorem s16_17r {L : Nat} {xs : Nat → Int32} {d x : Nat} {M : qxM} {st : List Value} {a0 a1 a2 a3 a5 : Option Value} {z : Int32} {y : Nat} : Rs L xs (d) 16 17 [a0, a1, a2, a3, some (.ref y), a5] (.int z :: st) M x = Rs L xs (d) 16 19 [a0, a1, a2, a3, some (.ref y), some (.int z)] st M x := Rs_next c16_17 rfl
theorem s16_17n {L : Nat} {xs : Nat → Int32} {d x : Nat} {M : qxM} {st : List Value} {a0 a1 a2 a3 a5 : Option Value} {z : Int32} : Rs L xs (d) 16 17 [a0, a1, a2, a3, none, a5] (.int z :: st) M x = Rs L xs (d) 16 19 [a0, a1, a2, a3, none, some (.int z)] st M x := Rs_next c16_17 rfl
theorem c16_19 : qx_code 16 19 = some (19, .iload 5, 21, 0, 0, 0) := by decide +kernel
theorem s16_19 {L : Nat} {xs : Nat → Int32} {d x : Nat} {M : qxM} {st : List Value} {a0 a1 a2 a3 a4 : Option Value} {z : Int32} : Rs L xs (d) 16 19 [a0, a1, a2, a3, a4, some (.int z)] st M x = Rs L xs (d) 16 21 [a0, a1, a2, a3, a4, some (.int z)] (.int z :: st) M x := Rs_next c16_19 rfl
theorem c16_21 : qx_code 16 21 = some (21, .bipush 14, 23, 0, 0, 0) := by decide +kernel
theorem s16_21 {L : Nat} {xs : Nat → Int32} {d x : Nat} {M : qxM} {st : List Value} {ls : qxL} : Rs L xs (d) 16 21 ls st M x = Rs L xs (d) 16 23 ls (.int (nI 14) :: st) M x := Rs_next c16_21 rfl
theorem c16_23 : qx_code 16 23 = some (23, .if_icmp .ge 47, 26, 70, 0, 0) := by decide +kernel
theorem s16_23 {L : Nat} {xs : Nat → Int32} {d x : Nat} {M : qxM} {st : List Value} {ls : qxL} {z y : Int32} : Rs L xs (d) 16 23 ls (.int y :: .int z :: st) M x = if y ≤ z then Rs L xs (d) 16 70 ls st M x else Rs L xs (d) 16 26 ls st M x := Rs_ite c16_23 rfl
theorem c16_26 : qx_code 16 26 = some (26, .iload_n 3, 27, 0, 0, 0) := by decide +kernel
theorem s16_26 {L : Nat} {xs : Nat → Int32} {d x : Nat} {M : qxM} {st : List Value} {a0 a1 a2 a4 a5 : Option Value} {z : Int32} : Rs L xs (d) 16 26 [a0, a1, a2, some (.int z), a4, a5] st M x = Rs L xs (d) 16 27 [a0, a1, a2, some (.int z), a4, a5] (.int z :: st) M x := Rs_next c16_26 rfl
theorem c16_27 : qx_code 16 27 = some (27, .aload_n 0, 28, 0, 0, 0) := by decide +kernel
theorem s16_27 {L : Nat} {xs : Nat → Int32} {d x : Nat} {M : qxM} {st : List Value} {a1 a2 a3 a4 a5 : Option Value} {z : Nat} : Rs L xs (d) 16 27 [some (.ref z), a1, a2, a3, a4, a5] st M x = Rs L xs (d) 16 28 [some (.ref z), a1, a2, a3, a4, a5] (.ref z :: st) M x := Rs_next c16_27 rfl
theorem c16_28 : qx_code 16 28 = some (28, .iload_n 2, 29, 0, 0, 0) := by decide +kernel
theorem s16_28 {L : Nat} {xs : Nat → Int32} {d x : Nat} {M : qxM} {st : List Value} {a0 a1 a3 a4 a5 : Option Value} {z : Int32} : Rs L xs (d) 16 28 [a0, a1, some (.int z), a3, a4, a5] st M x = Rs L xs (d) 16 29 [a0, a1, some (.int z), a3, a4, a5] (.int z :: st) M x := Rs_next c16_28 rfl
theorem c16_29 : qx_code 16 29 = some (29, .invokevirtual 38, 32, 9, 2, 989) := by decide +kernel
theorem s16_29 {L : Nat} {xs : Nat → Int32} {d x : Nat} {M : qxM} {st : List Value} {ls : qxL} {t : Nat} {z0 : Int32} (hk : qx_kd t = 10) (hs : st.length ≤ 4) : Rs L xs (d + 1) 16 29 ls (.int z0 :: .ref t :: st) M x = (Rs L xs d 9 0 [some (.ref t), some (.int z0)] [] M 0).bind (qx_kn L xs (d + 1) 16 29 32 9 ls st x) := by
  have h1 : qx_act L xs (qx_rt 16) (29, .invokevirtual 38, 32, 9, 2, 989) ls (.int z0 :: .ref t :: st) M = if 2 ≤ (.int z0 :: .ref t :: st).length ∧ st.length ≤ 4 then some (.inr (.inr (.inr (9, [.ref t, .int z0], st)))) else none := rfl
  rw [if_pos ⟨by simp [List.length_cons]; try omega, hs⟩] at h1
  have h2 := qx_kd_obj (k := 0) (by decide) hk
  exact Rs_call c16_29 h1 (by rw [show qx_args 9 [.ref t, .int z0] = decide (qx_sh t = some (.inl 0)) from rfl]; exact decide_eq_true h2)
theorem c16_32 : qx_code 16 32 = some (32, .iand, 33, 0, 0, 0) := by decide +kernel
theorem s16_32 {L : Nat} {xs : Nat → Int32} {d x : Nat} {M : qxM} {st : List Value} {ls : qxL} {z y : Int32} : Rs L xs (d) 16 32 ls (.int y :: .int z :: st) M x = Rs L xs (d) 16 33 ls (.int (z &&& y) :: st) M x := Rs_next c16_32 rfl
theorem c16_33 : qx_code 16 33 = some (33, .iload 5, 35, 0, 0, 0) := by decide +kernel
theorem s16_33 {L : Nat} {xs : Nat → Int32} {d x : Nat} {M : qxM} {st : List Value} {a0 a1 a2 a3 a4 : Option Value} {z : Int32} : Rs L xs (d) 16 33 [a0, a1, a2, a3, a4, some (.int z)] st M x = Rs L xs (d) 16 35 [a0, a1, a2, a3, a4, some (.int z)] (.int z :: st) M x := Rs_next c16_33 rfl
theorem c16_35 : qx_code 16 35 = some (35, .invokestatic 75, 38, 170, 2, 1010) := by decide +kernel
theorem s16_35 {L : Nat} {xs : Nat → Int32} {d x : Nat} {M : qxM} {st : List Value} {ls : qxL} {z0 : Int32} {z1 : Int32} (hs : st.length ≤ 4) : Rs L xs (d + 1) 16 35 ls (.int z1 :: .int z0 :: st) M x = (Rs L xs d 170 0 [some (.int z0), some (.int z1)] [] M 0).bind (qx_kn L xs (d + 1) 16 35 38 170 ls st x) := by
  have h1 : qx_act L xs (qx_rt 16) (35, .invokestatic 75, 38, 170, 2, 1010) ls (.int z1 :: .int z0 :: st) M = if 2 ≤ (.int z1 :: .int z0 :: st).length ∧ st.length ≤ 4 then some (.inr (.inr (.inr (170, [.int z0, .int z1], st)))) else none := rfl
  rw [if_pos ⟨by simp [List.length_cons]; try omega, hs⟩] at h1
  exact Rs_call c16_35 h1 rfl
theorem c16_38 : qx_code 16 38 = some (38, .ifCond .eq 26, 41, 64, 0, 0) := by decide +kernel
theorem s16_38 {L : Nat} {xs : Nat → Int32} {d x : Nat} {M : qxM} {st : List Value} {ls : qxL} {z : Int32} : Rs L xs (d) 16 38 ls (.int z :: st) M x = if z = 0 then Rs L xs (d) 16 64 ls st M x else Rs L xs (d) 16 41 ls st M x := Rs_ite c16_38 rfl
theorem c16_41 : qx_code 16 41 = some (41, .aload_n 0, 42, 0, 0, 0) := by decide +kernel
theorem s16_41 {L : Nat} {xs : Nat → Int32} {d x : Nat} {M : qxM} {st : List Value} {a1 a2 a3 a4 a5 : Option Value} {z : Nat} : Rs L xs (d) 16 41 [some (.ref z), a1, a2, a3, a4, a5] st M x = Rs L xs (d) 16 42 [some (.ref z), a1, a2, a3, a4, a5] (.ref z :: st) M x := Rs_next c16_41 rfl
theorem c16_42 : qx_code 16 42 = some (42, .iload_n 3, 43, 0, 0, 0) := by decide +kernel
theorem s16_42 {L : Nat} {xs : Nat → Int32} {d x : Nat} {M : qxM} {st : List Value} {a0 a1 a2 a4 a5 : Option Value} {z : Int32} : Rs L xs (d) 16 42 [a0, a1, a2, some (.int z), a4, a5] st M x = Rs L xs (d) 16 43 [a0, a1, a2, some (.int z), a4, a5] (.int z :: st) M x := Rs_next c16_42 rfl
theorem c16_43 : qx_code 16 43 = some (43, .iload 5, 45, 0, 0, 0) := by decide +kernel
theorem s16_43 {L : Nat} {xs : Nat → Int32} {d x : Nat} {M : qxM} {st : List Value} {a0 a1 a2 a3 a4 : Option Value} {z : Int32} : Rs L xs (d) 16 43 [a0, a1, a2, a3, a4, some (.int z)] st M x = Rs L xs (d) 16 45 [a0, a1, a2, a3, a4, some (.int z)] (.int z :: st) M x := Rs_next c16_43 rfl
theorem c16_45 : qx_code 16 45 = some (45, .invokestatic 60, 48, 169, 1, 1009) := by decide +kernel
theorem s16_45 {L : Nat} {xs : Nat → Int32} {d x : Nat} {M : qxM} {st : List Value} {ls : qxL} {z0 : Int32} (hs : st.length ≤ 4) : Rs L xs (d + 1) 16 45 ls (.int z0 :: st) M x = (Rs L xs d 169 0 [some (.int z0)] [] M 0).bind (qx_kn L xs (d + 1) 16 45 48 169 ls st x) := by
  have h1 : qx_act L xs (qx_rt 16) (45, .invokestatic 60, 48, 169, 1, 1009) ls (.int z0 :: st) M = if 1 ≤ (.int z0 :: st).length ∧ st.length ≤ 4 then some (.inr (.inr (.inr (169, [.int z0], st)))) else none := rfl
  rw [if_pos ⟨by simp [List.length_cons]; try omega, hs⟩] at h1
  exact Rs_call c16_45 h1 rfl
theorem c16_48 : qx_code 16 48 = some (48, .iconst (-1), 49, 0, 0, 0) := by decide +kernel
theorem s16_48 {L : Nat} {xs : Nat → Int32} {d x : Nat} {M : qxM} {st : List Value} {ls : qxL} : Rs L xs (d) 16 48 ls st M x = Rs L xs (d) 16 49 ls (.int (-1) :: st) M x := Rs_next c16_48 rfl
theorem c16_49 : qx_code 16 49 = some (49, .ixor, 50, 0, 0, 0) := by decide +kernel
theorem s16_49 {L : Nat} {xs : Nat → Int32} {d x : Nat} {M : qxM} {st : List Value} {ls : qxL} {z y : Int32} : Rs L xs (d) 16 49 ls (.int y :: .int z :: st) M x = Rs L xs (d) 16 50 ls (.int (z ^^^ y) :: st) M x := Rs_next c16_49 rfl
theorem c16_50 : qx_code 16 50 = some (50, .iand, 51, 0, 0, 0) := by decide +kernel
theorem s16_50 {L : Nat} {xs : Nat → Int32} {d x : Nat} {M : qxM} {st : List Value} {ls : qxL} {z y : Int32} : Rs L xs (d) 16 50 ls (.int y :: .int z :: st) M x = Rs L xs (d) 16 51 ls (.int (z &&& y) :: st) M x := Rs_next c16_50 rfl
theorem c16_51 : qx_code 16 51 = some (51, .invokevirtual 46, 54, 5, 2, 998) := by decide +kernel
theorem s16_51 {L : Nat} {xs : Nat → Int32} {d x : Nat} {M : qxM} {st : List Value} {ls : qxL} {t : Nat} {z0 : Int32} (hk : qx_kd t = 10) (hs : st.length ≤ 4) : Rs L xs (d + 1) 16 51 ls (.int z0 :: .ref t :: st) M x = (Rs L xs d 5 0 [some (.ref t), some (.int z0)] [] M 0).bind (qx_kn L xs (d + 1) 16 51 54 5 ls st x) := by
  have h1 : qx_act L xs (qx_rt 16) (51, .invokevirtual 46, 54, 5, 2, 998) ls (.int z0 :: .ref t :: st) M = if 2 ≤ (.int z0 :: .ref t :: st).length ∧ st.length ≤ 4 then some (.inr (.inr (.inr (5, [.ref t, .int z0], st)))) else none := rfl
  rw [if_pos ⟨by simp [List.length_cons]; try omega, hs⟩] at h1
  have h2 := qx_kd_obj (k := 0) (by decide) hk
  exact Rs_call c16_51 h1 (by rw [show qx_args 5 [.ref t, .int z0] = decide (qx_sh t = some (.inl 0)) from rfl]; exact decide_eq_true h2)
theorem c16_54 : qx_code 16 54 = some (54, .iconst 1, 55, 0, 0, 0) := by decide +kernel
theorem s16_54 {L : Nat} {xs : Nat → Int32} {d x : Nat} {M : qxM} {st : List Value} {ls : qxL} : Rs L xs (d) 16 54 ls st M x = Rs L xs (d) 16 55 ls (.int (nI 1) :: st) M x := Rs_next c16_54 rfl
theorem c16_55 : qx_code 16 55 = some (55, .iadd, 56, 0, 0, 0) := by decide +kernel
theorem s16_55 {L : Nat} {xs : Nat → Int32} {d x : Nat} {M : qxM} {st : List Value} {ls : qxL} {z y : Int32} : Rs L xs (d) 16 55 ls (.int y :: .int z :: st) M x = Rs L xs (d) 16 56 ls (.int (z + y) :: st) M x := Rs_next c16_55 rfl
theorem c16_56 : qx_code 16 56 = some (56, .iload 4, 58, 0, 0, 0) := by decide +kernel
theorem s16_56 {L : Nat} {xs : Nat → Int32} {d x : Nat} {M : qxM} {st : List Value} {a0 a1 a2 a3 a5 : Option Value} {z : Int32} : Rs L xs (d) 16 56 [a0, a1, a2, a3, some (.int z), a5] st M x = Rs L xs (d) 16 58 [a0, a1, a2, a3, some (.int z), a5] (.int z :: st) M x := Rs_next c16_56 rfl
theorem c16_58 : qx_code 16 58 = some (58, .if_icmp .ne 6, 61, 64, 0, 0) := by decide +kernel
theorem s16_58 {L : Nat} {xs : Nat → Int32} {d x : Nat} {M : qxM} {st : List Value} {ls : qxL} {z y : Int32} : Rs L xs (d) 16 58 ls (.int y :: .int z :: st) M x = if z = y then Rs L xs (d) 16 61 ls st M x else Rs L xs (d) 16 64 ls st M x := Rs_ite c16_58 rfl
theorem c16_61 : qx_code 16 61 = some (61, .iload 5, 63, 0, 0, 0) := by decide +kernel
theorem s16_61 {L : Nat} {xs : Nat → Int32} {d x : Nat} {M : qxM} {st : List Value} {a0 a1 a2 a3 a4 : Option Value} {z : Int32} : Rs L xs (d) 16 61 [a0, a1, a2, a3, a4, some (.int z)] st M x = Rs L xs (d) 16 63 [a0, a1, a2, a3, a4, some (.int z)] (.int z :: st) M x := Rs_next c16_61 rfl
theorem c16_63 : qx_code 16 63 = some (63, .ireturn, 64, 0, 0, 0) := by decide +kernel
theorem s16_63 {L : Nat} {xs : Nat → Int32} {d x : Nat} {M : qxM} {ls : qxL} {z : Int32} : Rs L xs (d) 16 63 ls [.int z] M x = some (.inl (some (.int z)), M, x) := Rs_ret c16_63 rfl
theorem c16_64 : qx_code 16 64 = some (64, .iinc 5 1, 67, 0, 0, 0) := by decide +kernel
theorem s16_64i {L : Nat} {xs : Nat → Int32} {d x : Nat} {M : qxM} {st : List Value} {a0 a1 a2 a3 : Option Value} {z : Int32} {y : Int32} : Rs L xs (d) 16 64 [a0, a1, a2, a3, some (.int y), some (.int z)] st M x = Rs L xs (d) 16 67 [a0, a1, a2, a3, some (.int y), some (.int (z + (nI 1)))] st M x := Rs_next c16_64 rfl
theorem s16_64r {L : Nat} {xs : Nat → Int32} {d x : Nat} {M : qxM} {st : List Value} {a0 a1 a2 a3 : Option Value} {z : Int32} {y : Nat} : Rs L xs (d) 16 64 [a0, a1, a2, a3, some (.ref y), some (.int z)] st M x = Rs L xs (d) 16 67 [a0, a1, a2, a3, some (.ref y), some (.int (z + (nI 1)))] st M x := Rs_next c16_64 rfl
theorem s16_64n {L : Nat} {xs : Nat → Int32} {d x : Nat} {M : qxM} {st : List Value} {a0 a1 a2 a3 : Option Value} {z : Int32} : Rs L xs (d) 16 64 [a0, a1, a2, a3, none, some (.int z)] st M x = Rs L xs (d) 16 67 [a0, a1, a2, a3, none, some (.int (z + (nI 1)))] st M x := Rs_next c16_64 rfl
theorem c16_67 : qx_code 16 67 = some (67, .goto (-48), 70, 19, 0, 0) := by decide +kernel
theorem s16_67 {L : Nat} {xs : Nat → Int32} {d x : Nat} {M : qxM} {st : List Value} {ls : qxL} : Rs L xs (d) 16 67 ls st M x = Rs L xs (d) 16 19 ls st M x := Rs_next c16_67 rfl
theorem c16_70 : qx_code 16 70 = some (70, .iconst (-1), 71, 0, 0, 0) := by decide +kernel
theorem s16_70 {L : Nat} {xs : Nat → Int32} {d x : Nat} {M : qxM} {st : List Value} {ls : qxL} : Rs L xs (d) 16 70 ls st M x = Rs L xs (d) 16 71 ls (.int (-1) :: st) M x := Rs_next c16_70 rfl
theorem c16_71 : qx_code 16 71 = some (71, .ireturn, 72, 0, 0, 0) := by decide +kernel
theorem s16_71 {L : Nat} {xs : Nat → Int32} {d x : Nat} {M : qxM} {ls : qxL} {z : Int32} : Rs L xs (d) 16 71 ls [.int z] M x = some (.inl (some (.int z)), M, x) := Rs_ret c16_71 rfl
theorem c17_0 : qx_code 17 0 = some (0, .iconst 0, 1, 0, 0, 0) := by decide +kernel
theorem s17_0 {L : Nat} {xs : Nat → Int32} {d x : Nat} {M : qxM} {st : List Value} {ls : qxL} : Rs L xs (d) 17 0 ls st M x = Rs L xs (d) 17 1 ls (.int (nI 0) :: st) M x := Rs_next c17_0 rfl
theorem c17_1 : qx_code 17 1 = some (1, .istore_n 3, 2, 0, 0, 0) := by decide +kernel
theorem s17_1i {L : Nat} {xs : Nat → Int32} {d x : Nat} {M : qxM} {st : List Value} {a0 a1 a3 a4 a5 a6 : Option Value} {z : Int32} {y : Int32} : Rs L xs (d) 17 1 [a0, a1, some (.int y), a3, a4, a5, a6] (.int z :: st) M x = Rs L xs (d) 17 2 [a0, a1, some (.int y), some (.int z), a4, a5, a6] st M x := Rs_next c17_1 rfl
theorem s17_1r {L : Nat} {xs : Nat → Int32} {d x : Nat} {M : qxM} {st : List Value} {a0 a1 a3 a4 a5 a6 : Option Value} {z : Int32} {y : Nat} : Rs L xs (d) 17 1 [a0, a1, some (.ref y), a3, a4, a5, a6] (.int z :: st) M x = Rs L xs (d) 17 2 [a0, a1, some (.ref y), some (.int z), a4, a5, a6] st M x := Rs_next c17_1 rfl
theorem s17_1n {L : Nat} {xs : Nat → Int32} {d x : Nat} {M : qxM} {st : List Value} {a0 a1 a3 a4 a5 a6 : Option Value} {z : Int32} : Rs L xs (d) 17 1 [a0, a1, none, a3, a4, a5, a6] (.int z :: st) M x = Rs L xs (d) 17 2 [a0, a1, none, some (.int z), a4, a5, a6] st M x := Rs_next c17_1 rfl
theorem c17_2 : qx_code 17 2 = some (2, .iload_n 1, 3, 0, 0, 0) := by decide +kernel
theorem s17_2 {L : Nat} {xs : Nat → Int32} {d x : Nat} {M : qxM} {st : List Value} {a0 a2 a3 a4 a5 a6 : Option Value} {z : Int32} : Rs L xs (d) 17 2 [a0, some (.int z), a2, a3, a4, a5, a6] st M x = Rs L xs (d) 17 3 [a0, some (.int z), a2, a3, a4, a5, a6] (.int z :: st) M x := Rs_next c17_2 rfl
theorem c17_3 : qx_code 17 3 = some (3, .istore 4, 5, 0, 0, 0) := by decide +kernel
theorem s17_3i {L : Nat} {xs : Nat → Int32} {d x : Nat} {M : qxM} {st : List Value} {a0 a1 a2 a4 a5 a6 : Option Value} {z : Int32} {y : Int32} : Rs L xs (d) 17 3 [a0, a1, a2, some (.int y), a4, a5, a6] (.int z :: st) M x = Rs L xs (d) 17 5 [a0, a1, a2, some (.int y), some (.int z), a5, a6] st M x := Rs_next c17_3 rfl
theorem s17_3r {L : Nat} {xs : Nat → Int32} {d x : Nat} {M : qxM} {st : List Value} {a0 a1 a2 a4 a5 a6 : Option Value} {z : Int32} {y : Nat} : Rs L xs (d) 17 3 [a0, a1, a2, some (.ref y), a4, a5, a6] (.int z :: st) M x = Rs L xs (d) 17 5 [a0, a1, a2, some (.ref y), some (.int z), a5, a6] st M x := Rs_next c17_3 rfl
theorem s17_3n {L : Nat} {xs : Nat → Int32} {d x : Nat} {M : qxM} {st : List Value} {a0 a1 a2 a4 a5 a6 : Option Value} {z : Int32} : Rs L xs (d) 17 3 [a0, a1, a2, none, a4, a5, a6] (.int z :: st) M x = Rs L xs (d) 17 5 [a0, a1, a2, none, some (.int z), a5, a6] st M x := Rs_next c17_3 rfl
theorem c17_5 : qx_code 17 5 = some (5, .iconst 0, 6, 0, 0, 0) := by decide +kernel
theorem s17_5 {L : Nat} {xs : Nat → Int32} {d x : Nat} {M : qxM} {st : List Value} {ls : qxL} : Rs L xs (d) 17 5 ls st M x = Rs L xs (d) 17 6 ls (.int (nI 0) :: st) M x := Rs_next c17_5 rfl
theorem c17_6 : qx_code 17 6 = some (6, .istore 5, 8, 0, 0, 0) := by decide +kernel
theorem s17_6i {L : Nat} {xs : Nat → Int32} {d x : Nat} {M : qxM} {st : List Value} {a0 a1 a2 a3 a5 a6 : Option Value} {z : Int32} {y : Int32} : Rs L xs (d) 17 6 [a0, a1, a2, a3, some (.int y), a5, a6] (.int z :: st) M x = Rs L xs (d) 17 8 [a0, a1, a2, a3, some (.int y), some (.int z), a6] st M x := Rs_next c17_6 rfl
theorem s17_6r {L : Nat} {xs : Nat → Int32} {d x : Nat} {M : qxM} {st : List Value} {a0 a1 a2 a3 a5 a6 : Option Value} {z : Int32} {y : Nat} : Rs L xs (d) 17 6 [a0, a1, a2, a3, some (.ref y), a5, a6] (.int z :: st) M x = Rs L xs (d) 17 8 [a0, a1, a2, a3, some (.ref y), some (.int z), a6] st M x := Rs_next c17_6 rfl
theorem s17_6n {L : Nat} {xs : Nat → Int32} {d x : Nat} {M : qxM} {st : List Value} {a0 a1 a2 a3 a5 a6 : Option Value} {z : Int32} : Rs L xs (d) 17 6 [a0, a1, a2, a3, none, a5, a6] (.int z :: st) M x = Rs L xs (d) 17 8 [a0, a1, a2, a3, none, some (.int z), a6] st M x := Rs_next c17_6 rfl
theorem c17_8 : qx_code 17 8 = some (8, .iload 5, 10, 0, 0, 0) := by decide +kernel
theorem s17_8 {L : Nat} {xs : Nat → Int32} {d x : Nat} {M : qxM} {st : List Value} {a0 a1 a2 a3 a4 a6 : Option Value} {z : Int32} : Rs L xs (d) 17 8 [a0, a1, a2, a3, a4, some (.int z), a6] st M x = Rs L xs (d) 17 10 [a0, a1, a2, a3, a4, some (.int z), a6] (.int z :: st) M x := Rs_next c17_8 rfl
theorem c17_10 : qx_code 17 10 = some (10, .bipush 14, 12, 0, 0, 0) := by decide +kernel
theorem s17_10 {L : Nat} {xs : Nat → Int32} {d x : Nat} {M : qxM} {st : List Value} {ls : qxL} : Rs L xs (d) 17 10 ls st M x = Rs L xs (d) 17 12 ls (.int (nI 14) :: st) M x := Rs_next c17_10 rfl
theorem c17_12 : qx_code 17 12 = some (12, .if_icmp .ge 49, 15, 61, 0, 0) := by decide +kernel
theorem s17_12 {L : Nat} {xs : Nat → Int32} {d x : Nat} {M : qxM} {st : List Value} {ls : qxL} {z y : Int32} : Rs L xs (d) 17 12 ls (.int y :: .int z :: st) M x = if y ≤ z then Rs L xs (d) 17 61 ls st M x else Rs L xs (d) 17 15 ls st M x := Rs_ite c17_12 rfl
theorem c17_15 : qx_code 17 15 = some (15, .iload 4, 17, 0, 0, 0) := by decide +kernel
theorem s17_15 {L : Nat} {xs : Nat → Int32} {d x : Nat} {M : qxM} {st : List Value} {a0 a1 a2 a3 a5 a6 : Option Value} {z : Int32} : Rs L xs (d) 17 15 [a0, a1, a2, a3, some (.int z), a5, a6] st M x = Rs L xs (d) 17 17 [a0, a1, a2, a3, some (.int z), a5, a6] (.int z :: st) M x := Rs_next c17_15 rfl
theorem c17_17 : qx_code 17 17 = some (17, .ifCond .eq 44, 20, 61, 0, 0) := by decide +kernel
theorem s17_17 {L : Nat} {xs : Nat → Int32} {d x : Nat} {M : qxM} {st : List Value} {ls : qxL} {z : Int32} : Rs L xs (d) 17 17 ls (.int z :: st) M x = if z = 0 then Rs L xs (d) 17 61 ls st M x else Rs L xs (d) 17 20 ls st M x := Rs_ite c17_17 rfl
theorem c17_20 : qx_code 17 20 = some (20, .aload_n 0, 21, 0, 0, 0) := by decide +kernel
theorem s17_20 {L : Nat} {xs : Nat → Int32} {d x : Nat} {M : qxM} {st : List Value} {a1 a2 a3 a4 a5 a6 : Option Value} {z : Nat} : Rs L xs (d) 17 20 [some (.ref z), a1, a2, a3, a4, a5, a6] st M x = Rs L xs (d) 17 21 [some (.ref z), a1, a2, a3, a4, a5, a6] (.ref z :: st) M x := Rs_next c17_20 rfl
theorem c17_21 : qx_code 17 21 = some (21, .iload 4, 23, 0, 0, 0) := by decide +kernel
theorem s17_21 {L : Nat} {xs : Nat → Int32} {d x : Nat} {M : qxM} {st : List Value} {a0 a1 a2 a3 a5 a6 : Option Value} {z : Int32} : Rs L xs (d) 17 21 [a0, a1, a2, a3, some (.int z), a5, a6] st M x = Rs L xs (d) 17 23 [a0, a1, a2, a3, some (.int z), a5, a6] (.int z :: st) M x := Rs_next c17_21 rfl
theorem c17_23 : qx_code 17 23 = some (23, .invokevirtual 98, 26, 18, 2, 1084) := by decide +kernel
theorem s17_23 {L : Nat} {xs : Nat → Int32} {d x : Nat} {M : qxM} {st : List Value} {ls : qxL} {t : Nat} {z0 : Int32} (hk : qx_kd t = 10) (hs : st.length ≤ 4) : Rs L xs (d + 1) 17 23 ls (.int z0 :: .ref t :: st) M x = (Rs L xs d 18 0 [some (.ref t), some (.int z0), none, none, none, none] [] M 0).bind (qx_kn L xs (d + 1) 17 23 26 18 ls st x) := by
  have h1 : qx_act L xs (qx_rt 17) (23, .invokevirtual 98, 26, 18, 2, 1084) ls (.int z0 :: .ref t :: st) M = if 2 ≤ (.int z0 :: .ref t :: st).length ∧ st.length ≤ 4 then some (.inr (.inr (.inr (18, [.ref t, .int z0], st)))) else none := rfl
  rw [if_pos ⟨by simp [List.length_cons]; try omega, hs⟩] at h1
  have h2 := qx_kd_obj (k := 0) (by decide) hk
  exact Rs_call c17_23 h1 (by rw [show qx_args 18 [.ref t, .int z0] = decide (qx_sh t = some (.inl 0)) from rfl]; exact decide_eq_true h2)
theorem c17_26 : qx_code 17 26 = some (26, .istore 6, 28, 0, 0, 0) := by decide +kernel
theorem s17_26i {L : Nat} {xs : Nat → Int32} {d x : Nat} {M : qxM} {st : List Value} {a0 a1 a2 a3 a4 a6 : Option Value} {z : Int32} {y : Int32} : Rs L xs (d) 17 26 [a0, a1, a2, a3, a4, some (.int y), a6] (.int z :: st) M x = Rs L xs (d) 17 28 [a0, a1, a2, a3, a4, some (.int y), some (.int z)] st M x := Rs_next c17_26 rfl
theorem s17_26r {L : Nat} {xs : Nat → Int32} {d x : Nat} {M : qxM} {st : List Value} {a0 a1 a2 a3 a4 a6 : Option Value} {z : Int32} {y : Nat} : Rs L xs (d) 17 26 [a0, a1, a2, a3, a4, some (.ref y), a6] (.int z :: st) M x = Rs L xs (d) 17 28 [a0, a1, a2, a3, a4, some (.ref y), some (.int z)] st M x := Rs_next c17_26 rfl
theorem s17_26n {L : Nat} {xs : Nat → Int32} {d x : Nat} {M : qxM} {st : List Value} {a0 a1 a2 a3 a4 a6 : Option Value} {z : Int32} : Rs L xs (d) 17 26 [a0, a1, a2, a3, a4, none, a6] (.int z :: st) M x = Rs L xs (d) 17 28 [a0, a1, a2, a3, a4, none, some (.int z)] st M x := Rs_next c17_26 rfl
theorem c17_28 : qx_code 17 28 = some (28, .iload 4, 30, 0, 0, 0) := by decide +kernel
theorem s17_28 {L : Nat} {xs : Nat → Int32} {d x : Nat} {M : qxM} {st : List Value} {a0 a1 a2 a3 a5 a6 : Option Value} {z : Int32} : Rs L xs (d) 17 28 [a0, a1, a2, a3, some (.int z), a5, a6] st M x = Rs L xs (d) 17 30 [a0, a1, a2, a3, some (.int z), a5, a6] (.int z :: st) M x := Rs_next c17_28 rfl
theorem c17_30 : qx_code 17 30 = some (30, .iload 6, 32, 0, 0, 0) := by decide +kernel
theorem s17_30 {L : Nat} {xs : Nat → Int32} {d x : Nat} {M : qxM} {st : List Value} {a0 a1 a2 a3 a4 a5 : Option Value} {z : Int32} : Rs L xs (d) 17 30 [a0, a1, a2, a3, a4, a5, some (.int z)] st M x = Rs L xs (d) 17 32 [a0, a1, a2, a3, a4, a5, some (.int z)] (.int z :: st) M x := Rs_next c17_30 rfl
theorem c17_32 : qx_code 17 32 = some (32, .iconst (-1), 33, 0, 0, 0) := by decide +kernel
theorem s17_32 {L : Nat} {xs : Nat → Int32} {d x : Nat} {M : qxM} {st : List Value} {ls : qxL} : Rs L xs (d) 17 32 ls st M x = Rs L xs (d) 17 33 ls (.int (-1) :: st) M x := Rs_next c17_32 rfl
theorem c17_33 : qx_code 17 33 = some (33, .ixor, 34, 0, 0, 0) := by decide +kernel
theorem s17_33 {L : Nat} {xs : Nat → Int32} {d x : Nat} {M : qxM} {st : List Value} {ls : qxL} {z y : Int32} : Rs L xs (d) 17 33 ls (.int y :: .int z :: st) M x = Rs L xs (d) 17 34 ls (.int (z ^^^ y) :: st) M x := Rs_next c17_33 rfl
theorem c17_34 : qx_code 17 34 = some (34, .iand, 35, 0, 0, 0) := by decide +kernel
theorem s17_34 {L : Nat} {xs : Nat → Int32} {d x : Nat} {M : qxM} {st : List Value} {ls : qxL} {z y : Int32} : Rs L xs (d) 17 34 ls (.int y :: .int z :: st) M x = Rs L xs (d) 17 35 ls (.int (z &&& y) :: st) M x := Rs_next c17_34 rfl
theorem c17_35 : qx_code 17 35 = some (35, .istore 4, 37, 0, 0, 0) := by decide +kernel
theorem s17_35i {L : Nat} {xs : Nat → Int32} {d x : Nat} {M : qxM} {st : List Value} {a0 a1 a2 a4 a5 a6 : Option Value} {z : Int32} {y : Int32} : Rs L xs (d) 17 35 [a0, a1, a2, some (.int y), a4, a5, a6] (.int z :: st) M x = Rs L xs (d) 17 37 [a0, a1, a2, some (.int y), some (.int z), a5, a6] st M x := Rs_next c17_35 rfl
theorem s17_35r {L : Nat} {xs : Nat → Int32} {d x : Nat} {M : qxM} {st : List Value} {a0 a1 a2 a4 a5 a6 : Option Value} {z : Int32} {y : Nat} : Rs L xs (d) 17 35 [a0, a1, a2, some (.ref y), a4, a5, a6] (.int z :: st) M x = Rs L xs (d) 17 37 [a0, a1, a2, some (.ref y), some (.int z), a5, a6] st M x := Rs_next c17_35 rfl
theorem s17_35n {L : Nat} {xs : Nat → Int32} {d x : Nat} {M : qxM} {st : List Value} {a0 a1 a2 a4 a5 a6 : Option Value} {z : Int32} : Rs L xs (d) 17 35 [a0, a1, a2, none, a4, a5, a6] (.int z :: st) M x = Rs L xs (d) 17 37 [a0, a1, a2, none, some (.int z), a5, a6] st M x := Rs_next c17_35 rfl
theorem c17_37 : qx_code 17 37 = some (37, .iload_n 2, 38, 0, 0, 0) := by decide +kernel
theorem s17_37 {L : Nat} {xs : Nat → Int32} {d x : Nat} {M : qxM} {st : List Value} {a0 a1 a3 a4 a5 a6 : Option Value} {z : Int32} : Rs L xs (d) 17 37 [a0, a1, some (.int z), a3, a4, a5, a6] st M x = Rs L xs (d) 17 38 [a0, a1, some (.int z), a3, a4, a5, a6] (.int z :: st) M x := Rs_next c17_37 rfl
theorem c17_38 : qx_code 17 38 = some (38, .ifCond .eq 14, 41, 52, 0, 0) := by decide +kernel
theorem s17_38 {L : Nat} {xs : Nat → Int32} {d x : Nat} {M : qxM} {st : List Value} {ls : qxL} {z : Int32} : Rs L xs (d) 17 38 ls (.int z :: st) M x = if z = 0 then Rs L xs (d) 17 52 ls st M x else Rs L xs (d) 17 41 ls st M x := Rs_ite c17_38 rfl
theorem c17_41 : qx_code 17 41 = some (41, .iload 6, 43, 0, 0, 0) := by decide +kernel
theorem s17_41 {L : Nat} {xs : Nat → Int32} {d x : Nat} {M : qxM} {st : List Value} {a0 a1 a2 a3 a4 a5 : Option Value} {z : Int32} : Rs L xs (d) 17 41 [a0, a1, a2, a3, a4, a5, some (.int z)] st M x = Rs L xs (d) 17 43 [a0, a1, a2, a3, a4, a5, some (.int z)] (.int z :: st) M x := Rs_next c17_41 rfl
theorem c17_43 : qx_code 17 43 = some (43, .invokestatic 49, 46, 334, 1, 1033) := by decide +kernel
theorem s17_43 {L : Nat} {xs : Nat → Int32} {d x : Nat} {M : qxM} {st : List Value} {ls : qxL} {z0 : Int32} (hs : st.length ≤ 4) : Rs L xs (d + 1) 17 43 ls (.int z0 :: st) M x = (Rs L xs d 334 0 [some (.int z0)] [] M 0).bind (qx_kn L xs (d + 1) 17 43 46 334 ls st x) := by
  have h1 : qx_act L xs (qx_rt 17) (43, .invokestatic 49, 46, 334, 1, 1033) ls (.int z0 :: st) M = if 1 ≤ (.int z0 :: st).length ∧ st.length ≤ 4 then some (.inr (.inr (.inr (334, [.int z0], st)))) else none := rfl
  rw [if_pos ⟨by simp [List.length_cons]; try omega, hs⟩] at h1
  exact Rs_call c17_43 h1 rfl
theorem c17_46 : qx_code 17 46 = some (46, .iconst 2, 47, 0, 0, 0) := by decide +kernel
theorem s17_46 {L : Nat} {xs : Nat → Int32} {d x : Nat} {M : qxM} {st : List Value} {ls : qxL} : Rs L xs (d) 17 46 ls st M x = Rs L xs (d) 17 47 ls (.int (nI 2) :: st) M x := Rs_next c17_46 rfl
theorem c17_47 : qx_code 17 47 = some (47, .irem, 48, 0, 0, 0) := by decide +kernel
theorem s17_47 {L : Nat} {xs : Nat → Int32} {d x : Nat} {M : qxM} {st : List Value} {ls : qxL} {z y : Int32} (h : ¬ y = 0) : Rs L xs (d) 17 47 ls (.int y :: .int z :: st) M x = Rs L xs (d) 17 48 ls (.int (z - z / y * y) :: st) M x := Rs_unless h c17_47 rfl
theorem c17_48 : qx_code 17 48 = some (48, .iconst 1, 49, 0, 0, 0) := by decide +kernel
theorem s17_48 {L : Nat} {xs : Nat → Int32} {d x : Nat} {M : qxM} {st : List Value} {ls : qxL} : Rs L xs (d) 17 48 ls st M x = Rs L xs (d) 17 49 ls (.int (nI 1) :: st) M x := Rs_next c17_48 rfl
theorem c17_49 : qx_code 17 49 = some (49, .if_icmp .ne 6, 52, 55, 0, 0) := by decide +kernel
theorem s17_49 {L : Nat} {xs : Nat → Int32} {d x : Nat} {M : qxM} {st : List Value} {ls : qxL} {z y : Int32} : Rs L xs (d) 17 49 ls (.int y :: .int z :: st) M x = if z = y then Rs L xs (d) 17 52 ls st M x else Rs L xs (d) 17 55 ls st M x := Rs_ite c17_49 rfl
theorem c17_52 : qx_code 17 52 = some (52, .iinc 3 1, 55, 0, 0, 0) := by decide +kernel
theorem s17_52i {L : Nat} {xs : Nat → Int32} {d x : Nat} {M : qxM} {st : List Value} {a0 a1 a4 a5 a6 : Option Value} {z : Int32} {y : Int32} : Rs L xs (d) 17 52 [a0, a1, some (.int y), some (.int z), a4, a5, a6] st M x = Rs L xs (d) 17 55 [a0, a1, some (.int y), some (.int (z + (nI 1))), a4, a5, a6] st M x := Rs_next c17_52 rfl
theorem s17_52r {L : Nat} {xs : Nat → Int32} {d x : Nat} {M : qxM} {st : List Value} {a0 a1 a4 a5 a6 : Option Value} {z : Int32} {y : Nat} : Rs L xs (d) 17 52 [a0, a1, some (.ref y), some (.int z), a4, a5, a6] st M x = Rs L xs (d) 17 55 [a0, a1, some (.ref y), some (.int (z + (nI 1))), a4, a5, a6] st M x := Rs_next c17_52 rfl
theorem s17_52n {L : Nat} {xs : Nat → Int32} {d x : Nat} {M : qxM} {st : List Value} {a0 a1 a4 a5 a6 : Option Value} {z : Int32} : Rs L xs (d) 17 52 [a0, a1, none, some (.int z), a4, a5, a6] st M x = Rs L xs (d) 17 55 [a0, a1, none, some (.int (z + (nI 1))), a4, a5, a6] st M x := Rs_next c17_52 rfl
theorem c17_55 : qx_code 17 55 = some (55, .iinc 5 1, 58, 0, 0, 0) := by decide +kernel
theorem s17_55i {L : Nat} {xs : Nat → Int32} {d x : Nat} {M : qxM} {st : List Value} {a0 a1 a2 a3 a6 : Option Value} {z : Int32} {y : Int32} : Rs L xs (d) 17 55 [a0, a1, a2, a3, some (.int y), some (.int z), a6] st M x = Rs L xs (d) 17 58 [a0, a1, a2, a3, some (.int y), some (.int (z + (nI 1))), a6] st M x := Rs_next c17_55 rfl
theorem s17_55r {L : Nat} {xs : Nat → Int32} {d x : Nat} {M : qxM} {st : List Value} {a0 a1 a2 a3 a6 : Option Value} {z : Int32} {y : Nat} : Rs L xs (d) 17 55 [a0, a1, a2, a3, some (.ref y), some (.int z), a6] st M x = Rs L xs (d) 17 58 [a0, a1, a2, a3, some (.ref y), some (.int (z + (nI 1))), a6] st M x := Rs_next c17_55 rfl
theorem s17_55n {L : Nat} {xs : Nat → Int32} {d x : Nat} {M : qxM} {st : List Value} {a0 a1 a2 a3 a6 : Option Value} {z : Int32} : Rs L xs (d) 17 55 [a0, a1, a2, a3, none, some (.int z), a6] st M x = Rs L xs (d) 17 58 [a0, a1, a2, a3, none, some (.int (z + (nI 1))), a6] st M x := Rs_next c17_55 rfl
theorem c17_58 : qx_code 17 58 = some (58, .goto (-50), 61, 8, 0, 0) := by decide +kernel
theorem s17_58 {L : Nat} {xs : Nat → Int32} {d x : Nat} {M : qxM} {st : List Value} {ls : qxL} : Rs L xs (d) 17 58 ls st M x = Rs L xs (d) 17 8 ls st M x := Rs_next c17_58 rfl
theorem c17_61 : qx_code 17 61 = some (61, .iload_n 3, 62, 0, 0, 0) := by decide +kernel
theorem s17_61 {L : Nat} {xs : Nat → Int32} {d x : Nat} {M : qxM} {st : List Value} {a0 a1 a2 a4 a5 a6 : Option Value} {z : Int32} : Rs L xs (d) 17 61 [a0, a1, a2, some (.int z), a4, a5, a6] st M x = Rs L xs (d) 17 62 [a0, a1, a2, some (.int z), a4, a5, a6] (.int z :: st) M x := Rs_next c17_61 rfl
theorem c17_62 : qx_code 17 62 = some (62, .ireturn, 63, 0, 0, 0) := by decide +kernel
theorem s17_62 {L : Nat} {xs : Nat → Int32} {d x : Nat} {M : qxM} {ls : qxL} {z : Int32} : Rs L xs (d) 17 62 ls [.int z] M x = some (.inl (some (.int z)), M, x) := Rs_ret c17_62 rfl
theorem c18_0 : qx_code 18 0 = some (0, .iload_n 1, 1, 0, 0, 0) := by decide +kernel
theorem s18_0 {L : Nat} {xs : Nat → Int32} {d x : Nat} {M : qxM} {st : List Value} {a0 a2 a3 a4 a5 : Option Value} {z : Int32} : Rs L xs (d) 18 0 [a0, some (.int z), a2, a3, a4, a5] st M x = Rs L xs (d) 18 1 [a0, some (.int z), a2, a3, a4, a5] (.int z :: st) M x := Rs_next c18_0 rfl
theorem c18_1 : qx_code 18 1 = some (1, .iload_n 1, 2, 0, 0, 0) := by decide +kernel
theorem s18_1 {L : Nat} {xs : Nat → Int32} {d x : Nat} {M : qxM} {st : List Value} {a0 a2 a3 a4 a5 : Option Value} {z : Int32} : Rs L xs (d) 18 1 [a0, some (.int z), a2, a3, a4, a5] st M x = Rs L xs (d) 18 2 [a0, some (.int z), a2, a3, a4, a5] (.int z :: st) M x := Rs_next c18_1 rfl
theorem c18_2 : qx_code 18 2 = some (2, .ineg, 3, 0, 0, 0) := by decide +kernel
theorem s18_2 {L : Nat} {xs : Nat → Int32} {d x : Nat} {M : qxM} {st : List Value} {ls : qxL} {z : Int32} : Rs L xs (d) 18 2 ls (.int z :: st) M x = Rs L xs (d) 18 3 ls (.int (-z) :: st) M x := Rs_next c18_2 rfl
theorem c18_3 : qx_code 18 3 = some (3, .iand, 4, 0, 0, 0) := by decide +kernel
theorem s18_3 {L : Nat} {xs : Nat → Int32} {d x : Nat} {M : qxM} {st : List Value} {ls : qxL} {z y : Int32} : Rs L xs (d) 18 3 ls (.int y :: .int z :: st) M x = Rs L xs (d) 18 4 ls (.int (z &&& y) :: st) M x := Rs_next c18_3 rfl
theorem c18_4 : qx_code 18 4 = some (4, .istore_n 2, 5, 0, 0, 0) := by decide +kernel
theorem s18_4i {L : Nat} {xs : Nat → Int32} {d x : Nat} {M : qxM} {st : List Value} {a0 a2 a3 a4 a5 : Option Value} {z : Int32} {y : Int32} : Rs L xs (d) 18 4 [a0, some (.int y), a2, a3, a4, a5] (.int z :: st) M x = Rs L xs (d) 18 5 [a0, some (.int y), some (.int z), a3, a4, a5] st M x := Rs_next c18_4 rfl
theorem s18_4r {L : Nat} {xs : Nat → Int32} {d x : Nat} {M : qxM} {st : List Value} {a0 a2 a3 a4 a5 : Option Value} {z : Int32} {y : Nat} : Rs L xs (d) 18 4 [a0, some (.ref y), a2, a3, a4, a5] (.int z :: st) M x = Rs L xs (d) 18 5 [a0, some (.ref y), some (.int z), a3, a4, a5] st M x := Rs_next c18_4 rfl
theorem s18_4n {L : Nat} {xs : Nat → Int32} {d x : Nat} {M : qxM} {st : List Value} {a0 a2 a3 a4 a5 : Option Value} {z : Int32} : Rs L xs (d) 18 4 [a0, none, a2, a3, a4, a5] (.int z :: st) M x = Rs L xs (d) 18 5 [a0, none, some (.int z), a3, a4, a5] st M x := Rs_next c18_4 rfl
theorem c18_5 : qx_code 18 5 = some (5, .iload_n 2, 6, 0, 0, 0) := by decide +kernel
theorem s18_5 {L : Nat} {xs : Nat → Int32} {d x : Nat} {M : qxM} {st : List Value} {a0 a1 a3 a4 a5 : Option Value} {z : Int32} : Rs L xs (d) 18 5 [a0, a1, some (.int z), a3, a4, a5] st M x = Rs L xs (d) 18 6 [a0, a1, some (.int z), a3, a4, a5] (.int z :: st) M x := Rs_next c18_5 rfl
theorem c18_6 : qx_code 18 6 = some (6, .istore_n 3, 7, 0, 0, 0) := by decide +kernel
theorem s18_6i {L : Nat} {xs : Nat → Int32} {d x : Nat} {M : qxM} {st : List Value} {a0 a1 a3 a4 a5 : Option Value} {z : Int32} {y : Int32} : Rs L xs (d) 18 6 [a0, a1, some (.int y), a3, a4, a5] (.int z :: st) M x = Rs L xs (d) 18 7 [a0, a1, some (.int y), some (.int z), a4, a5] st M x := Rs_next c18_6 rfl
theorem s18_6r {L : Nat} {xs : Nat → Int32} {d x : Nat} {M : qxM} {st : List Value} {a0 a1 a3 a4 a5 : Option Value} {z : Int32} {y : Nat} : Rs L xs (d) 18 6 [a0, a1, some (.ref y), a3, a4, a5] (.int z :: st) M x = Rs L xs (d) 18 7 [a0, a1, some (.ref y), some (.int z), a4, a5] st M x := Rs_next c18_6 rfl
theorem s18_6n {L : Nat} {xs : Nat → Int32} {d x : Nat} {M : qxM} {st : List Value} {a0 a1 a3 a4 a5 : Option Value} {z : Int32} : Rs L xs (d) 18 6 [a0, a1, none, a3, a4, a5] (.int z :: st) M x = Rs L xs (d) 18 7 [a0, a1, none, some (.int z), a4, a5] st M x := Rs_next c18_6 rfl
theorem c18_7 : qx_code 18 7 = some (7, .iconst 0, 8, 0, 0, 0) := by decide +kernel
theorem s18_7 {L : Nat} {xs : Nat → Int32} {d x : Nat} {M : qxM} {st : List Value} {ls : qxL} : Rs L xs (d) 18 7 ls st M x = Rs L xs (d) 18 8 ls (.int (nI 0) :: st) M x := Rs_next c18_7 rfl
theorem c18_8 : qx_code 18 8 = some (8, .istore 4, 10, 0, 0, 0) := by decide +kernel
theorem s18_8i {L : Nat} {xs : Nat → Int32} {d x : Nat} {M : qxM} {st : List Value} {a0 a1 a2 a4 a5 : Option Value} {z : Int32} {y : Int32} : Rs L xs (d) 18 8 [a0, a1, a2, some (.int y), a4, a5] (.int z :: st) M x = Rs L xs (d) 18 10 [a0, a1, a2, some (.int y), some (.int z), a5] st M x := Rs_next c18_8 rfl
theorem s18_8r {L : Nat} {xs : Nat → Int32} {d x : Nat} {M : qxM} {st : List Value} {a0 a1 a2 a4 a5 : Option Value} {z : Int32} {y : Nat} : Rs L xs (d) 18 8 [a0, a1, a2, some (.ref y), a4, a5] (.int z :: st) M x = Rs L xs (d) 18 10 [a0, a1, a2, some (.ref y), some (.int z), a5] st M x := Rs_next c18_8 rfl
theorem s18_8n {L : Nat} {xs : Nat → Int32} {d x : Nat} {M : qxM} {st : List Value} {a0 a1 a2 a4 a5 : Option Value} {z : Int32} : Rs L xs (d) 18 8 [a0, a1, a2, none, a4, a5] (.int z :: st) M x = Rs L xs (d) 18 10 [a0, a1, a2, none, some (.int z), a5] st M x := Rs_next c18_8 rfl
theorem c18_10 : qx_code 18 10 = some (10, .iload 4, 12, 0, 0, 0) := by decide +kernel
theorem s18_10 {L : Nat} {xs : Nat → Int32} {d x : Nat} {M : qxM} {st : List Value} {a0 a1 a2 a3 a5 : Option Value} {z : Int32} : Rs L xs (d) 18 10 [a0, a1, a2, a3, some (.int z), a5] st M x = Rs L xs (d) 18 12 [a0, a1, a2, a3, some (.int z), a5] (.int z :: st) M x := Rs_next c18_10 rfl
theorem c18_12 : qx_code 18 12 = some (12, .bipush 14, 14, 0, 0, 0) := by decide +kernel
theorem s18_12 {L : Nat} {xs : Nat → Int32} {d x : Nat} {M : qxM} {st : List Value} {ls : qxL} : Rs L xs (d) 18 12 ls st M x = Rs L xs (d) 18 14 ls (.int (nI 14) :: st) M x := Rs_next c18_12 rfl
theorem c18_14 : qx_code 18 14 = some (14, .if_icmp .ge 43, 17, 57, 0, 0) := by decide +kernel
theorem s18_14 {L : Nat} {xs : Nat → Int32} {d x : Nat} {M : qxM} {st : List Value} {ls : qxL} {z y : Int32} : Rs L xs (d) 18 14 ls (.int y :: .int z :: st) M x = if y ≤ z then Rs L xs (d) 18 57 ls st M x else Rs L xs (d) 18 17 ls st M x := Rs_ite c18_14 rfl
theorem c18_17 : qx_code 18 17 = some (17, .iload_n 3, 18, 0, 0, 0) := by decide +kernel
theorem s18_17 {L : Nat} {xs : Nat → Int32} {d x : Nat} {M : qxM} {st : List Value} {a0 a1 a2 a4 a5 : Option Value} {z : Int32} : Rs L xs (d) 18 17 [a0, a1, a2, some (.int z), a4, a5] st M x = Rs L xs (d) 18 18 [a0, a1, a2, some (.int z), a4, a5] (.int z :: st) M x := Rs_next c18_17 rfl
theorem c18_18 : qx_code 18 18 = some (18, .ifCond .eq 39, 21, 57, 0, 0) := by decide +kernel
theorem s18_18 {L : Nat} {xs : Nat → Int32} {d x : Nat} {M : qxM} {st : List Value} {ls : qxL} {z : Int32} : Rs L xs (d) 18 18 ls (.int z :: st) M x = if z = 0 then Rs L xs (d) 18 57 ls st M x else Rs L xs (d) 18 21 ls st M x := Rs_ite c18_18 rfl
theorem c18_21 : qx_code 18 21 = some (21, .aload_n 0, 22, 0, 0, 0) := by decide +kernel
theorem s18_21 {L : Nat} {xs : Nat → Int32} {d x : Nat} {M : qxM} {st : List Value} {a1 a2 a3 a4 a5 : Option Value} {z : Nat} : Rs L xs (d) 18 21 [some (.ref z), a1, a2, a3, a4, a5] st M x = Rs L xs (d) 18 22 [some (.ref z), a1, a2, a3, a4, a5] (.ref z :: st) M x := Rs_next c18_21 rfl
theorem c18_22 : qx_code 18 22 = some (22, .iload_n 3, 23, 0, 0, 0) := by decide +kernel
theorem s18_22 {L : Nat} {xs : Nat → Int32} {d x : Nat} {M : qxM} {st : List Value} {a0 a1 a2 a4 a5 : Option Value} {z : Int32} : Rs L xs (d) 18 22 [a0, a1, a2, some (.int z), a4, a5] st M x = Rs L xs (d) 18 23 [a0, a1, a2, some (.int z), a4, a5] (.int z :: st) M x := Rs_next c18_22 rfl
theorem c18_23 : qx_code 18 23 = some (23, .invokestatic 72, 26, 171, 1, 1006) := by decide +kernel
theorem s18_23 {L : Nat} {xs : Nat → Int32} {d x : Nat} {M : qxM} {st : List Value} {ls : qxL} {z0 : Int32} (hs : st.length ≤ 4) : Rs L xs (d + 1) 18 23 ls (.int z0 :: st) M x = (Rs L xs d 171 0 [some (.int z0)] [] M 0).bind (qx_kn L xs (d + 1) 18 23 26 171 ls st x) := by
  have h1 : qx_act L xs (qx_rt 18) (23, .invokestatic 72, 26, 171, 1, 1006) ls (.int z0 :: st) M = if 1 ≤ (.int z0 :: st).length ∧ st.length ≤ 4 then some (.inr (.inr (.inr (171, [.int z0], st)))) else none := rfl
  rw [if_pos ⟨by simp [List.length_cons]; try omega, hs⟩] at h1
  exact Rs_call c18_23 h1 rfl
theorem c18_26 : qx_code 18 26 = some (26, .invokevirtual 38, 29, 9, 2, 989) := by decide +kernel
theorem s18_26 {L : Nat} {xs : Nat → Int32} {d x : Nat} {M : qxM} {st : List Value} {ls : qxL} {t : Nat} {z0 : Int32} (hk : qx_kd t = 10) (hs : st.length ≤ 4) : Rs L xs (d + 1) 18 26 ls (.int z0 :: .ref t :: st) M x = (Rs L xs d 9 0 [some (.ref t), some (.int z0)] [] M 0).bind (qx_kn L xs (d + 1) 18 26 29 9 ls st x) := by
  have h1 : qx_act L xs (qx_rt 18) (26, .invokevirtual 38, 29, 9, 2, 989) ls (.int z0 :: .ref t :: st) M = if 2 ≤ (.int z0 :: .ref t :: st).length ∧ st.length ≤ 4 then some (.inr (.inr (.inr (9, [.ref t, .int z0], st)))) else none := rfl
  rw [if_pos ⟨by simp [List.length_cons]; try omega, hs⟩] at h1
  have h2 := qx_kd_obj (k := 0) (by decide) hk
  exact Rs_call c18_26 h1 (by rw [show qx_args 9 [.ref t, .int z0] = decide (qx_sh t = some (.inl 0)) from rfl]; exact decide_eq_true h2)
theorem c18_29 : qx_code 18 29 = some (29, .iload_n 1, 30, 0, 0, 0) := by decide +kernel
theorem s18_29 {L : Nat} {xs : Nat → Int32} {d x : Nat} {M : qxM} {st : List Value} {a0 a2 a3 a4 a5 : Option Value} {z : Int32} : Rs L xs (d) 18 29 [a0, some (.int z), a2, a3, a4, a5] st M x = Rs L xs (d) 18 30 [a0, some (.int z), a2, a3, a4, a5] (.int z :: st) M x := Rs_next c18_29 rfl
theorem c18_30 : qx_code 18 30 = some (30, .iand, 31, 0, 0, 0) := by decide +kernel
theorem s18_30 {L : Nat} {xs : Nat → Int32} {d x : Nat} {M : qxM} {st : List Value} {ls : qxL} {z y : Int32} : Rs L xs (d) 18 30 ls (.int y :: .int z :: st) M x = Rs L xs (d) 18 31 ls (.int (z &&& y) :: st) M x := Rs_next c18_30 rfl
theorem c18_31 : qx_code 18 31 = some (31, .iload_n 2, 32, 0, 0, 0) := by decide +kernel
theorem s18_31 {L : Nat} {xs : Nat → Int32} {d x : Nat} {M : qxM} {st : List Value} {a0 a1 a3 a4 a5 : Option Value} {z : Int32} : Rs L xs (d) 18 31 [a0, a1, some (.int z), a3, a4, a5] st M x = Rs L xs (d) 18 32 [a0, a1, some (.int z), a3, a4, a5] (.int z :: st) M x := Rs_next c18_31 rfl
theorem c18_32 : qx_code 18 32 = some (32, .iconst (-1), 33, 0, 0, 0) := by decide +kernel
theorem s18_32 {L : Nat} {xs : Nat → Int32} {d x : Nat} {M : qxM} {st : List Value} {ls : qxL} : Rs L xs (d) 18 32 ls st M x = Rs L xs (d) 18 33 ls (.int (-1) :: st) M x := Rs_next c18_32 rfl
theorem c18_33 : qx_code 18 33 = some (33, .ixor, 34, 0, 0, 0) := by decide +kernel
theorem s18_33 {L : Nat} {xs : Nat → Int32} {d x : Nat} {M : qxM} {st : List Value} {ls : qxL} {z y : Int32} : Rs L xs (d) 18 33 ls (.int y :: .int z :: st) M x = Rs L xs (d) 18 34 ls (.int (z ^^^ y) :: st) M x := Rs_next c18_33 rfl
theorem c18_34 : qx_code 18 34 = some (34, .iand, 35, 0, 0, 0) := by decide +kernel
theorem s18_34 {L : Nat} {xs : Nat → Int32} {d x : Nat} {M : qxM} {st : List Value} {ls : qxL} {z y : Int32} : Rs L xs (d) 18 34 ls (.int y :: .int z :: st) M x = Rs L xs (d) 18 35 ls (.int (z &&& y) :: st) M x := Rs_next c18_34 rfl
theorem c18_35 : qx_code 18 35 = some (35, .istore 5, 37, 0, 0, 0) := by decide +kernel
theorem s18_35i {L : Nat} {xs : Nat → Int32} {d x : Nat} {M : qxM} {st : List Value} {a0 a1 a2 a3 a5 : Option Value} {z : Int32} {y : Int32} : Rs L xs (d) 18 35 [a0, a1, a2, a3, some (.int y), a5] (.int z :: st) M x = Rs L xs (d) 18 37 [a0, a1, a2, a3, some (.int y), some (.int z)] st M x := Rs_next c18_35 rfl
theorem s18_35r {L : Nat} {xs : Nat → Int32} {d x : Nat} {M : qxM} {st : List Value} {a0 a1 a2 a3 a5 : Option Value} {z : Int32} {y : Nat} : Rs L xs (d) 18 35 [a0, a1, a2, a3, some (.ref y), a5] (.int z :: st) M x = Rs L xs (d) 18 37 [a0, a1, a2, a3, some (.ref y), some (.int z)] st M x := Rs_next c18_35 rfl
theorem s18_35n {L : Nat} {xs : Nat → Int32} {d x : Nat} {M : qxM} {st : List Value} {a0 a1 a2 a3 a5 : Option Value} {z : Int32} : Rs L xs (d) 18 35 [a0, a1, a2, a3, none, a5] (.int z :: st) M x = Rs L xs (d) 18 37 [a0, a1, a2, a3, none, some (.int z)] st M x := Rs_next c18_35 rfl
theorem c18_37 : qx_code 18 37 = some (37, .iload_n 3, 38, 0, 0, 0) := by decide +kernel
theorem s18_37 {L : Nat} {xs : Nat → Int32} {d x : Nat} {M : qxM} {st : List Value} {a0 a1 a2 a4 a5 : Option Value} {z : Int32} : Rs L xs (d) 18 37 [a0, a1, a2, some (.int z), a4, a5] st M x = Rs L xs (d) 18 38 [a0, a1, a2, some (.int z), a4, a5] (.int z :: st) M x := Rs_next c18_37 rfl
theorem c18_38 : qx_code 18 38 = some (38, .iload_n 3, 39, 0, 0, 0) := by decide +kernel
theorem s18_38 {L : Nat} {xs : Nat → Int32} {d x : Nat} {M : qxM} {st : List Value} {a0 a1 a2 a4 a5 : Option Value} {z : Int32} : Rs L xs (d) 18 38 [a0, a1, a2, some (.int z), a4, a5] st M x = Rs L xs (d) 18 39 [a0, a1, a2, some (.int z), a4, a5] (.int z :: st) M x := Rs_next c18_38 rfl
theorem c18_39 : qx_code 18 39 = some (39, .iconst 1, 40, 0, 0, 0) := by decide +kernel
theorem s18_39 {L : Nat} {xs : Nat → Int32} {d x : Nat} {M : qxM} {st : List Value} {ls : qxL} : Rs L xs (d) 18 39 ls st M x = Rs L xs (d) 18 40 ls (.int (nI 1) :: st) M x := Rs_next c18_39 rfl
theorem c18_40 : qx_code 18 40 = some (40, .isub, 41, 0, 0, 0) := by decide +kernel
theorem s18_40 {L : Nat} {xs : Nat → Int32} {d x : Nat} {M : qxM} {st : List Value} {ls : qxL} {z y : Int32} : Rs L xs (d) 18 40 ls (.int y :: .int z :: st) M x = Rs L xs (d) 18 41 ls (.int (z - y) :: st) M x := Rs_next c18_40 rfl
theorem c18_41 : qx_code 18 41 = some (41, .iand, 42, 0, 0, 0) := by decide +kernel
theorem s18_41 {L : Nat} {xs : Nat → Int32} {d x : Nat} {M : qxM} {st : List Value} {ls : qxL} {z y : Int32} : Rs L xs (d) 18 41 ls (.int y :: .int z :: st) M x = Rs L xs (d) 18 42 ls (.int (z &&& y) :: st) M x := Rs_next c18_41 rfl
theorem c18_42 : qx_code 18 42 = some (42, .iload 5, 44, 0, 0, 0) := by decide +kernel
theorem s18_42 {L : Nat} {xs : Nat → Int32} {d x : Nat} {M : qxM} {st : List Value} {a0 a1 a2 a3 a4 : Option Value} {z : Int32} : Rs L xs (d) 18 42 [a0, a1, a2, a3, a4, some (.int z)] st M x = Rs L xs (d) 18 44 [a0, a1, a2, a3, a4, some (.int z)] (.int z :: st) M x := Rs_next c18_42 rfl
theorem c18_44 : qx_code 18 44 = some (44, .ior, 45, 0, 0, 0) := by decide +kernel
theorem s18_44 {L : Nat} {xs : Nat → Int32} {d x : Nat} {M : qxM} {st : List Value} {ls : qxL} {z y : Int32} : Rs L xs (d) 18 44 ls (.int y :: .int z :: st) M x = Rs L xs (d) 18 45 ls (.int (z ||| y) :: st) M x := Rs_next c18_44 rfl
theorem c18_45 : qx_code 18 45 = some (45, .istore_n 3, 46, 0, 0, 0) := by decide +kernel
theorem s18_45i {L : Nat} {xs : Nat → Int32} {d x : Nat} {M : qxM} {st : List Value} {a0 a1 a3 a4 a5 : Option Value} {z : Int32} {y : Int32} : Rs L xs (d) 18 45 [a0, a1, some (.int y), a3, a4, a5] (.int z :: st) M x = Rs L xs (d) 18 46 [a0, a1, some (.int y), some (.int z), a4, a5] st M x := Rs_next c18_45 rfl
theorem s18_45r {L : Nat} {xs : Nat → Int32} {d x : Nat} {M : qxM} {st : List Value} {a0 a1 a3 a4 a5 : Option Value} {z : Int32} {y : Nat} : Rs L xs (d) 18 45 [a0, a1, some (.ref y), a3, a4, a5] (.int z :: st) M x = Rs L xs (d) 18 46 [a0, a1, some (.ref y), some (.int z), a4, a5] st M x := Rs_next c18_45 rfl
theorem s18_45n {L : Nat} {xs : Nat → Int32} {d x : Nat} {M : qxM} {st : List Value} {a0 a1 a3 a4 a5 : Option Value} {z : Int32} : Rs L xs (d) 18 45 [a0, a1, none, a3, a4, a5] (.int z :: st) M x = Rs L xs (d) 18 46 [a0, a1, none, some (.int z), a4, a5] st M x := Rs_next c18_45 rfl
theorem c18_46 : qx_code 18 46 = some (46, .iload_n 2, 47, 0, 0, 0) := by decide +kernel
theorem s18_46 {L : Nat} {xs : Nat → Int32} {d x : Nat} {M : qxM} {st : List Value} {a0 a1 a3 a4 a5 : Option Value} {z : Int32} : Rs L xs (d) 18 46 [a0, a1, some (.int z), a3, a4, a5] st M x = Rs L xs (d) 18 47 [a0, a1, some (.int z), a3, a4, a5] (.int z :: st) M x := Rs_next c18_46 rfl
theorem c18_47 : qx_code 18 47 = some (47, .iload 5, 49, 0, 0, 0) := by decide +kernel
theorem s18_47 {L : Nat} {xs : Nat → Int32} {d x : Nat} {M : qxM} {st : List Value} {a0 a1 a2 a3 a4 : Option Value} {z : Int32} : Rs L xs (d) 18 47 [a0, a1, a2, a3, a4, some (.int z)] st M x = Rs L xs (d) 18 49 [a0, a1, a2, a3, a4, some (.int z)] (.int z :: st) M x := Rs_next c18_47 rfl
theorem c18_49 : qx_code 18 49 = some (49, .ior, 50, 0, 0, 0) := by decide +kernel
theorem s18_49 {L : Nat} {xs : Nat → Int32} {d x : Nat} {M : qxM} {st : List Value} {ls : qxL} {z y : Int32} : Rs L xs (d) 18 49 ls (.int y :: .int z :: st) M x = Rs L xs (d) 18 50 ls (.int (z ||| y) :: st) M x := Rs_next c18_49 rfl
theorem c18_50 : qx_code 18 50 = some (50, .istore_n 2, 51, 0, 0, 0) := by decide +kernel
theorem s18_50i {L : Nat} {xs : Nat → Int32} {d x : Nat} {M : qxM} {st : List Value} {a0 a2 a3 a4 a5 : Option Value} {z : Int32} {y : Int32} : Rs L xs (d) 18 50 [a0, some (.int y), a2, a3, a4, a5] (.int z :: st) M x = Rs L xs (d) 18 51 [a0, some (.int y), some (.int z), a3, a4, a5] st M x := Rs_next c18_50 rfl
theorem s18_50r {L : Nat} {xs : Nat → Int32} {d x : Nat} {M : qxM} {st : List Value} {a0 a2 a3 a4 a5 : Option Value} {z : Int32} {y : Nat} : Rs L xs (d) 18 50 [a0, some (.ref y), a2, a3, a4, a5] (.int z :: st) M x = Rs L xs (d) 18 51 [a0, some (.ref y), some (.int z), a3, a4, a5] st M x := Rs_next c18_50 rfl
theorem s18_50n {L : Nat} {xs : Nat → Int32} {d x : Nat} {M : qxM} {st : List Value} {a0 a2 a3 a4 a5 : Option Value} {z : Int32} : Rs L xs (d) 18 50 [a0, none, a2, a3, a4, a5] (.int z :: st) M x = Rs L xs (d) 18 51 [a0, none, some (.int z), a3, a4, a5] st M x := Rs_next c18_50 rfl
theorem c18_51 : qx_code 18 51 = some (51, .iinc 4 1, 54, 0, 0, 0) := by decide +kernel
theorem s18_51i {L : Nat} {xs : Nat → Int32} {d x : Nat} {M : qxM} {st : List Value} {a0 a1 a2 a5 : Option Value} {z : Int32} {y : Int32} : Rs L xs (d) 18 51 [a0, a1, a2, some (.int y), some (.int z), a5] st M x = Rs L xs (d) 18 54 [a0, a1, a2, some (.int y), some (.int (z + (nI 1))), a5] st M x := Rs_next c18_51 rfl
theorem s18_51r {L : Nat} {xs : Nat → Int32} {d x : Nat} {M : qxM} {st : List Value} {a0 a1 a2 a5 : Option Value} {z : Int32} {y : Nat} : Rs L xs (d) 18 51 [a0, a1, a2, some (.ref y), some (.int z), a5] st M x = Rs L xs (d) 18 54 [a0, a1, a2, some (.ref y), some (.int (z + (nI 1))), a5] st M x := Rs_next c18_51 rfl
theorem s18_51n {L : Nat} {xs : Nat → Int32} {d x : Nat} {M : qxM} {st : List Value} {a0 a1 a2 a5 : Option Value} {z : Int32} : Rs L xs (d) 18 51 [a0, a1, a2, none, some (.int z), a5] st M x = Rs L xs (d) 18 54 [a0, a1, a2, none, some (.int (z + (nI 1))), a5] st M x := Rs_next c18_51 rfl
theorem c18_54 : qx_code 18 54 = some (54, .goto (-44), 57, 10, 0, 0) := by decide +kernel
theorem s18_54 {L : Nat} {xs : Nat → Int32} {d x : Nat} {M : qxM} {st : List Value} {ls : qxL} : Rs L xs (d) 18 54 ls st M x = Rs L xs (d) 18 10 ls st M x := Rs_next c18_54 rfl
theorem c18_57 : qx_code 18 57 = some (57, .iload_n 2, 58, 0, 0, 0) := by decide +kernel
theorem s18_57 {L : Nat} {xs : Nat → Int32} {d x : Nat} {M : qxM} {st : List Value} {a0 a1 a3 a4 a5 : Option Value} {z : Int32} : Rs L xs (d) 18 57 [a0, a1, some (.int z), a3, a4, a5] st M x = Rs L xs (d) 18 58 [a0, a1, some (.int z), a3, a4, a5] (.int z :: st) M x := Rs_next c18_57 rfl
theorem c18_58 : qx_code 18 58 = some (58, .ireturn, 59, 0, 0, 0) := by decide +kernel
theorem s18_58 {L : Nat} {xs : Nat → Int32} {d x : Nat} {M : qxM} {ls : qxL} {z : Int32} : Rs L xs (d) 18 58 ls [.int z] M x = some (.inl (some (.int z)), M, x) := Rs_ret c18_58 rfl
theorem c19_0 : qx_code 19 0 = some (0, .aload_n 0, 1, 0, 0, 0) := by decide +kernel
theorem s19_0 {L : Nat} {xs : Nat → Int32} {d x : Nat} {M : qxM} {st : List Value} {z : Nat} : Rs L xs (d) 19 0 [some (.ref z)] st M x = Rs L xs (d) 19 1 [some (.ref z)] (.ref z :: st) M x := Rs_next c19_0 rfl
theorem c19_1 : qx_code 19 1 = some (1, .getfield 26, 4, 1, 2, 191) := by decide +kernel
theorem s19_1 {L : Nat} {xs : Nat → Int32} {d x : Nat} {M : qxM} {st : List Value} {ls : qxL} {t : Nat} (hk : qx_kd t = 11) : Rs L xs (d) 19 1 ls (.ref t :: st) M x = Rs L xs (d) 19 4 ls (.int (M.1 t 2) :: st) M x := Rs_when (qx_kd_obj (k := 1) (by decide) hk) c19_1 rfl
theorem c19_4 : qx_code 19 4 = some (4, .bipush 20, 6, 0, 0, 0) := by decide +kernel
theorem s19_4 {L : Nat} {xs : Nat → Int32} {d x : Nat} {M : qxM} {st : List Value} {ls : qxL} : Rs L xs (d) 19 4 ls st M x = Rs L xs (d) 19 6 ls (.int (nI 20) :: st) M x := Rs_next c19_4 rfl
theorem c19_6 : qx_code 19 6 = some (6, .iadd, 7, 0, 0, 0) := by decide +kernel
theorem s19_6 {L : Nat} {xs : Nat → Int32} {d x : Nat} {M : qxM} {st : List Value} {ls : qxL} {z y : Int32} : Rs L xs (d) 19 6 ls (.int y :: .int z :: st) M x = Rs L xs (d) 19 7 ls (.int (z + y) :: st) M x := Rs_next c19_6 rfl
theorem c19_7 : qx_code 19 7 = some (7, .sipush 500, 10, 0, 0, 0) := by decide +kernel
theorem s19_7 {L : Nat} {xs : Nat → Int32} {d x : Nat} {M : qxM} {st : List Value} {ls : qxL} : Rs L xs (d) 19 7 ls st M x = Rs L xs (d) 19 10 ls (.int (nI 500) :: st) M x := Rs_next c19_7 rfl
theorem c19_10 : qx_code 19 10 = some (10, .if_icmp .gt 7, 13, 17, 0, 0) := by decide +kernel
theorem s19_10 {L : Nat} {xs : Nat → Int32} {d x : Nat} {M : qxM} {st : List Value} {ls : qxL} {z y : Int32} : Rs L xs (d) 19 10 ls (.int y :: .int z :: st) M x = if y < z then Rs L xs (d) 19 17 ls st M x else Rs L xs (d) 19 13 ls st M x := Rs_ite c19_10 rfl
theorem c19_13 : qx_code 19 13 = some (13, .iconst 1, 14, 0, 0, 0) := by decide +kernel
theorem s19_13 {L : Nat} {xs : Nat → Int32} {d x : Nat} {M : qxM} {st : List Value} {ls : qxL} : Rs L xs (d) 19 13 ls st M x = Rs L xs (d) 19 14 ls (.int (nI 1) :: st) M x := Rs_next c19_13 rfl
theorem c19_14 : qx_code 19 14 = some (14, .goto 4, 17, 18, 0, 0) := by decide +kernel
theorem s19_14 {L : Nat} {xs : Nat → Int32} {d x : Nat} {M : qxM} {st : List Value} {ls : qxL} : Rs L xs (d) 19 14 ls st M x = Rs L xs (d) 19 18 ls st M x := Rs_next c19_14 rfl
theorem c19_17 : qx_code 19 17 = some (17, .iconst 0, 18, 0, 0, 0) := by decide +kernel
theorem s19_17 {L : Nat} {xs : Nat → Int32} {d x : Nat} {M : qxM} {st : List Value} {ls : qxL} : Rs L xs (d) 19 17 ls st M x = Rs L xs (d) 19 18 ls (.int (nI 0) :: st) M x := Rs_next c19_17 rfl
theorem c19_18 : qx_code 19 18 = some (18, .ireturn, 19, 0, 0, 0) := by decide +kernel
theorem s19_18 {L : Nat} {xs : Nat → Int32} {d x : Nat} {M : qxM} {ls : qxL} {z : Int32} (h01 : z = 0 ∨ z = 1) : Rs L xs (d) 19 18 ls [.int z] M x = some (.inl (some (.int z)), M, x) := Rs_retw h01 c19_18 rfl
theorem c20_0 : qx_code 20 0 = some (0, .bipush 24, 2, 0, 0, 0) := by decide +kernel
theorem s20_0 {L : Nat} {xs : Nat → Int32} {d x : Nat} {M : qxM} {st : List Value} {ls : qxL} : Rs L xs (d) 20 0 ls st M x = Rs L xs (d) 20 2 ls (.int (nI 24) :: st) M x := Rs_next c20_0 rfl
theorem c20_2 : qx_code 20 2 = some (2, .istore_n 2, 3, 0, 0, 0) := by decide +kernel
theorem s20_2i {L : Nat} {xs : Nat → Int32} {d x : Nat} {M : qxM} {st : List Value} {a0 a2 : Option Value} {z : Int32} {y : Int32} : Rs L xs (d) 20 2 [a0, some (.int y), a2] (.int z :: st) M x = Rs L xs (d) 20 3 [a0, some (.int y), some (.int z)] st M x := Rs_next c20_2 rfl
theorem s20_2r {L : Nat} {xs : Nat → Int32} {d x : Nat} {M : qxM} {st : List Value} {a0 a2 : Option Value} {z : Int32} {y : Nat} : Rs L xs (d) 20 2 [a0, some (.ref y), a2] (.int z :: st) M x = Rs L xs (d) 20 3 [a0, some (.ref y), some (.int z)] st M x := Rs_next c20_2 rfl
theorem s20_2n {L : Nat} {xs : Nat → Int32} {d x : Nat} {M : qxM} {st : List Value} {a0 a2 : Option Value} {z : Int32} : Rs L xs (d) 20 2 [a0, none, a2] (.int z :: st) M x = Rs L xs (d) 20 3 [a0, none, some (.int z)] st M x := Rs_next c20_2 rfl
theorem c20_3 : qx_code 20 3 = some (3, .iload_n 2, 4, 0, 0, 0) := by decide +kernel
theorem s20_3 {L : Nat} {xs : Nat → Int32} {d x : Nat} {M : qxM} {st : List Value} {a0 a1 : Option Value} {z : Int32} : Rs L xs (d) 20 3 [a0, a1, some (.int z)] st M x = Rs L xs (d) 20 4 [a0, a1, some (.int z)] (.int z :: st) M x := Rs_next c20_3 rfl
theorem c20_4 : qx_code 20 4 = some (4, .ifCond .lt 51, 7, 55, 0, 0) := by decide +kernel
theorem s20_4 {L : Nat} {xs : Nat → Int32} {d x : Nat} {M : qxM} {st : List Value} {ls : qxL} {z : Int32} : Rs L xs (d) 20 4 ls (.int z :: st) M x = if z < 0 then Rs L xs (d) 20 55 ls st M x else Rs L xs (d) 20 7 ls st M x := Rs_ite c20_4 rfl
theorem c20_7 : qx_code 20 7 = some (7, .aload_n 0, 8, 0, 0, 0) := by decide +kernel
theorem s20_7 {L : Nat} {xs : Nat → Int32} {d x : Nat} {M : qxM} {st : List Value} {a1 a2 : Option Value} {z : Nat} : Rs L xs (d) 20 7 [some (.ref z), a1, a2] st M x = Rs L xs (d) 20 8 [some (.ref z), a1, a2] (.ref z :: st) M x := Rs_next c20_7 rfl
theorem c20_8 : qx_code 20 8 = some (8, .getfield 26, 11, 1, 2, 191) := by decide +kernel
theorem s20_8 {L : Nat} {xs : Nat → Int32} {d x : Nat} {M : qxM} {st : List Value} {ls : qxL} {t : Nat} (hk : qx_kd t = 11) : Rs L xs (d) 20 8 ls (.ref t :: st) M x = Rs L xs (d) 20 11 ls (.int (M.1 t 2) :: st) M x := Rs_when (qx_kd_obj (k := 1) (by decide) hk) c20_8 rfl
theorem c20_11 : qx_code 20 11 = some (11, .ifCond .lt 38, 14, 49, 0, 0) := by decide +kernel
theorem s20_11 {L : Nat} {xs : Nat → Int32} {d x : Nat} {M : qxM} {st : List Value} {ls : qxL} {z : Int32} : Rs L xs (d) 20 11 ls (.int z :: st) M x = if z < 0 then Rs L xs (d) 20 49 ls st M x else Rs L xs (d) 20 14 ls st M x := Rs_ite c20_11 rfl
theorem c20_14 : qx_code 20 14 = some (14, .aload_n 0, 15, 0, 0, 0) := by decide +kernel
theorem s20_14 {L : Nat} {xs : Nat → Int32} {d x : Nat} {M : qxM} {st : List Value} {a1 a2 : Option Value} {z : Nat} : Rs L xs (d) 20 14 [some (.ref z), a1, a2] st M x = Rs L xs (d) 20 15 [some (.ref z), a1, a2] (.ref z :: st) M x := Rs_next c20_14 rfl
theorem c20_15 : qx_code 20 15 = some (15, .getfield 26, 18, 1, 2, 191) := by decide +kernel
theorem s20_15 {L : Nat} {xs : Nat → Int32} {d x : Nat} {M : qxM} {st : List Value} {ls : qxL} {t : Nat} (hk : qx_kd t = 11) : Rs L xs (d) 20 15 ls (.ref t :: st) M x = Rs L xs (d) 20 18 ls (.int (M.1 t 2) :: st) M x := Rs_when (qx_kd_obj (k := 1) (by decide) hk) c20_15 rfl
theorem c20_18 : qx_code 20 18 = some (18, .aload_n 0, 19, 0, 0, 0) := by decide +kernel
theorem s20_18 {L : Nat} {xs : Nat → Int32} {d x : Nat} {M : qxM} {st : List Value} {a1 a2 : Option Value} {z : Nat} : Rs L xs (d) 20 18 [some (.ref z), a1, a2] st M x = Rs L xs (d) 20 19 [some (.ref z), a1, a2] (.ref z :: st) M x := Rs_next c20_18 rfl
theorem c20_19 : qx_code 20 19 = some (19, .getfield 9, 22, 1, 0, 188) := by decide +kernel
theorem s20_19 {L : Nat} {xs : Nat → Int32} {d x : Nat} {M : qxM} {st : List Value} {ls : qxL} {t : Nat} (hk : qx_kd t = 11) : Rs L xs (d) 20 19 ls (.ref t :: st) M x = Rs L xs (d) 20 22 ls (.ref (t + 1) :: st) M x := Rs_when (qx_kd_obj (k := 1) (by decide) hk) c20_19 rfl
theorem c20_22 : qx_code 20 22 = some (22, .arraylength, 23, 0, 0, 0) := by decide +kernel
theorem s20_22 {L : Nat} {xs : Nat → Int32} {d x : Nat} {M : qxM} {st : List Value} {ls : qxL} {t : Nat} (hk : qx_kd t < 6) : Rs L xs (d) 20 22 ls (.ref t :: st) M x = Rs L xs (d) 20 23 ls (.int (nI (qx_ln t)) :: st) M x := by
  have h1 := qx_kd_row hk rfl
  exact Rs_next c20_22 (by unfold qx_act; dsimp only; rw [h1]; rfl)
theorem c20_23 : qx_code 20 23 = some (23, .if_icmp .ge 26, 26, 49, 0, 0) := by decide +kernel
theorem s20_23 {L : Nat} {xs : Nat → Int32} {d x : Nat} {M : qxM} {st : List Value} {ls : qxL} {z y : Int32} : Rs L xs (d) 20 23 ls (.int y :: .int z :: st) M x = if y ≤ z then Rs L xs (d) 20 49 ls st M x else Rs L xs (d) 20 26 ls st M x := Rs_ite c20_23 rfl
theorem c20_26 : qx_code 20 26 = some (26, .aload_n 0, 27, 0, 0, 0) := by decide +kernel
theorem s20_26 {L : Nat} {xs : Nat → Int32} {d x : Nat} {M : qxM} {st : List Value} {a1 a2 : Option Value} {z : Nat} : Rs L xs (d) 20 26 [some (.ref z), a1, a2] st M x = Rs L xs (d) 20 27 [some (.ref z), a1, a2] (.ref z :: st) M x := Rs_next c20_26 rfl
theorem c20_27 : qx_code 20 27 = some (27, .getfield 9, 30, 1, 0, 188) := by decide +kernel
theorem s20_27 {L : Nat} {xs : Nat → Int32} {d x : Nat} {M : qxM} {st : List Value} {ls : qxL} {t : Nat} (hk : qx_kd t = 11) : Rs L xs (d) 20 27 ls (.ref t :: st) M x = Rs L xs (d) 20 30 ls (.ref (t + 1) :: st) M x := Rs_when (qx_kd_obj (k := 1) (by decide) hk) c20_27 rfl
theorem c20_30 : qx_code 20 30 = some (30, .aload_n 0, 31, 0, 0, 0) := by decide +kernel
theorem s20_30 {L : Nat} {xs : Nat → Int32} {d x : Nat} {M : qxM} {st : List Value} {a1 a2 : Option Value} {z : Nat} : Rs L xs (d) 20 30 [some (.ref z), a1, a2] st M x = Rs L xs (d) 20 31 [some (.ref z), a1, a2] (.ref z :: st) M x := Rs_next c20_30 rfl
theorem c20_31 : qx_code 20 31 = some (31, .getfield 26, 34, 1, 2, 191) := by decide +kernel
theorem s20_31 {L : Nat} {xs : Nat → Int32} {d x : Nat} {M : qxM} {st : List Value} {ls : qxL} {t : Nat} (hk : qx_kd t = 11) : Rs L xs (d) 20 31 ls (.ref t :: st) M x = Rs L xs (d) 20 34 ls (.int (M.1 t 2) :: st) M x := Rs_when (qx_kd_obj (k := 1) (by decide) hk) c20_31 rfl
theorem c20_34 : qx_code 20 34 = some (34, .iload_n 1, 35, 0, 0, 0) := by decide +kernel
theorem s20_34 {L : Nat} {xs : Nat → Int32} {d x : Nat} {M : qxM} {st : List Value} {a0 a2 : Option Value} {z : Int32} : Rs L xs (d) 20 34 [a0, some (.int z), a2] st M x = Rs L xs (d) 20 35 [a0, some (.int z), a2] (.int z :: st) M x := Rs_next c20_34 rfl
theorem c20_35 : qx_code 20 35 = some (35, .iload_n 2, 36, 0, 0, 0) := by decide +kernel
theorem s20_35 {L : Nat} {xs : Nat → Int32} {d x : Nat} {M : qxM} {st : List Value} {a0 a1 : Option Value} {z : Int32} : Rs L xs (d) 20 35 [a0, a1, some (.int z)] st M x = Rs L xs (d) 20 36 [a0, a1, some (.int z)] (.int z :: st) M x := Rs_next c20_35 rfl
theorem c20_36 : qx_code 20 36 = some (36, .ishr, 37, 0, 0, 0) := by decide +kernel
theorem s20_36 {L : Nat} {xs : Nat → Int32} {d x : Nat} {M : qxM} {st : List Value} {ls : qxL} {z y : Int32} : Rs L xs (d) 20 36 ls (.int y :: .int z :: st) M x = Rs L xs (d) 20 37 ls (.int (z >>> (y &&& 31)) :: st) M x := Rs_next c20_36 rfl
theorem c20_37 : qx_code 20 37 = some (37, .i2b, 38, 0, 0, 0) := by decide +kernel
theorem s20_37 {L : Nat} {xs : Nat → Int32} {d x : Nat} {M : qxM} {st : List Value} {ls : qxL} {z : Int32} : Rs L xs (d) 20 37 ls (.int z :: st) M x = Rs L xs (d) 20 38 ls (.int z.toInt8.toInt32 :: st) M x := Rs_next c20_37 rfl
theorem c20_38 : qx_code 20 38 = some (38, .bastore, 39, 0, 0, 0) := by decide +kernel
theorem s20_38 {L : Nat} {xs : Nat → Int32} {d x : Nat} {M : qxM} {st : List Value} {ls : qxL} {t : Nat} {j : Int32} {z : Int32} (hk : qx_kd t = 1) (hj : qx_ib j (qx_ln t) = true) : Rs L xs (d) 20 38 ls (.int z :: .int j :: .ref t :: st) M x = Rs L xs (d) 20 39 ls st (qx_up M t j.toNatClampNeg z.toInt8.toInt32) x := by
  have h1 := qx_kd_row (k := 1) (by decide) hk
  exact Rs_unless (qx_ib_not hj) c20_38 (by unfold qx_act; dsimp only; rw [h1]; rfl)
theorem s20_38z {L : Nat} {xs : Nat → Int32} {d x : Nat} {M : qxM} {st : List Value} {ls : qxL} {t : Nat} {j : Int32} {z : Int32} (hk : qx_kd t = 2) (hj : qx_ib j (qx_ln t) = true) (h01 : z = 0 ∨ z = 1) : Rs L xs (d) 20 38 ls (.int z :: .int j :: .ref t :: st) M x = Rs L xs (d) 20 39 ls st (qx_up M t j.toNatClampNeg z) x := by
  have h1 := qx_kd_row (k := 2) (by decide) hk
  exact Rs_unless (qx_ib_not hj) c20_38 (by unfold qx_act; dsimp only; rw [h1]; first | (rw [if_pos h01]; rfl) | (simp only [if_pos h01]; rfl) | rfl)
theorem c20_39 : qx_code 20 39 = some (39, .aload_n 0, 40, 0, 0, 0) := by decide +kernel
theorem s20_39 {L : Nat} {xs : Nat → Int32} {d x : Nat} {M : qxM} {st : List Value} {a1 a2 : Option Value} {z : Nat} : Rs L xs (d) 20 39 [some (.ref z), a1, a2] st M x = Rs L xs (d) 20 40 [some (.ref z), a1, a2] (.ref z :: st) M x := Rs_next c20_39 rfl
theorem c20_40 : qx_code 20 40 = some (40, .dup, 41, 0, 0, 0) := by decide +kernel
theorem s20_40r {L : Nat} {xs : Nat → Int32} {d x : Nat} {M : qxM} {st : List Value} {ls : qxL} {z : Nat} : Rs L xs (d) 20 40 ls (.ref z :: st) M x = Rs L xs (d) 20 41 ls (.ref z :: .ref z :: st) M x := Rs_next c20_40 rfl
theorem s20_40i {L : Nat} {xs : Nat → Int32} {d x : Nat} {M : qxM} {st : List Value} {ls : qxL} {z : Int32} : Rs L xs (d) 20 40 ls (.int z :: st) M x = Rs L xs (d) 20 41 ls (.int z :: .int z :: st) M x := Rs_next c20_40 rfl
theorem c20_41 : qx_code 20 41 = some (41, .getfield 26, 44, 1, 2, 191) := by decide +kernel
theorem s20_41 {L : Nat} {xs : Nat → Int32} {d x : Nat} {M : qxM} {st : List Value} {ls : qxL} {t : Nat} (hk : qx_kd t = 11) : Rs L xs (d) 20 41 ls (.ref t :: st) M x = Rs L xs (d) 20 44 ls (.int (M.1 t 2) :: st) M x := Rs_when (qx_kd_obj (k := 1) (by decide) hk) c20_41 rfl
theorem c20_44 : qx_code 20 44 = some (44, .iconst 1, 45, 0, 0, 0) := by decide +kernel
theorem s20_44 {L : Nat} {xs : Nat → Int32} {d x : Nat} {M : qxM} {st : List Value} {ls : qxL} : Rs L xs (d) 20 44 ls st M x = Rs L xs (d) 20 45 ls (.int (nI 1) :: st) M x := Rs_next c20_44 rfl
theorem c20_45 : qx_code 20 45 = some (45, .iadd, 46, 0, 0, 0) := by decide +kernel
theorem s20_45 {L : Nat} {xs : Nat → Int32} {d x : Nat} {M : qxM} {st : List Value} {ls : qxL} {z y : Int32} : Rs L xs (d) 20 45 ls (.int y :: .int z :: st) M x = Rs L xs (d) 20 46 ls (.int (z + y) :: st) M x := Rs_next c20_45 rfl
theorem c20_46 : qx_code 20 46 = some (46, .putfield 26, 49, 1, 2, 191) := by decide +kernel
theorem s20_46 {L : Nat} {xs : Nat → Int32} {d x : Nat} {M : qxM} {st : List Value} {ls : qxL} {t : Nat} {z : Int32} (hk : qx_kd t = 11) : Rs L xs (d) 20 46 ls (.int z :: .ref t :: st) M x = Rs L xs (d) 20 49 ls st (qx_up M t 2 z) x := Rs_when (cnd := qx_sh t = some (.inl 1) ∧ qx_fo 1 2 = none ∧ (qx_bf 1 2 = true → z = 0 ∨ z = 1)) ⟨qx_kd_obj (k := 1) (by decide) hk, rfl, fun h => nomatch h⟩ c20_46 rfl
theorem c20_49 : qx_code 20 49 = some (49, .iinc 2 (-8), 52, 0, 0, 0) := by decide +kernel
theorem s20_49i {L : Nat} {xs : Nat → Int32} {d x : Nat} {M : qxM} {st : List Value} {a0 : Option Value} {z : Int32} {y : Int32} : Rs L xs (d) 20 49 [a0, some (.int y), some (.int z)] st M x = Rs L xs (d) 20 52 [a0, some (.int y), some (.int (z + (-8)))] st M x := Rs_next c20_49 rfl
theorem s20_49r {L : Nat} {xs : Nat → Int32} {d x : Nat} {M : qxM} {st : List Value} {a0 : Option Value} {z : Int32} {y : Nat} : Rs L xs (d) 20 49 [a0, some (.ref y), some (.int z)] st M x = Rs L xs (d) 20 52 [a0, some (.ref y), some (.int (z + (-8)))] st M x := Rs_next c20_49 rfl
theorem s20_49n {L : Nat} {xs : Nat → Int32} {d x : Nat} {M : qxM} {st : List Value} {a0 : Option Value} {z : Int32} : Rs L xs (d) 20 49 [a0, none, some (.int z)] st M x = Rs L xs (d) 20 52 [a0, none, some (.int (z + (-8)))] st M x := Rs_next c20_49 rfl
theorem c20_52 : qx_code 20 52 = some (52, .goto (-49), 55, 3, 0, 0) := by decide +kernel
theorem s20_52 {L : Nat} {xs : Nat → Int32} {d x : Nat} {M : qxM} {st : List Value} {ls : qxL} : Rs L xs (d) 20 52 ls st M x = Rs L xs (d) 20 3 ls st M x := Rs_next c20_52 rfl
theorem c20_55 : qx_code 20 55 = some (55, .return_, 56, 0, 0, 0) := by decide +kernel
theorem s20_55 {L : Nat} {xs : Nat → Int32} {d x : Nat} {M : qxM} {ls : qxL} : Rs L xs (d) 20 55 ls [] M x = some (.inl none, M, x) := Rs_ret c20_55 rfl
theorem c21_0 : qx_code 21 0 = some (0, .aload_n 0, 1, 0, 0, 0) := by decide +kernel
theorem s21_0 {L : Nat} {xs : Nat → Int32} {d x : Nat} {M : qxM} {st : List Value} {a1 a2 : Option Value} {z : Nat} : Rs L xs (d) 21 0 [some (.ref z), a1, a2] st M x = Rs L xs (d) 21 1 [some (.ref z), a1, a2] (.ref z :: st) M x := Rs_next c21_0 rfl
theorem c21_1 : qx_code 21 1 = some (1, .iload_n 1, 2, 0, 0, 0) := by decide +kernel
theorem s21_1 {L : Nat} {xs : Nat → Int32} {d x : Nat} {M : qxM} {st : List Value} {a0 a2 : Option Value} {z : Int32} : Rs L xs (d) 21 1 [a0, some (.int z), a2] st M x = Rs L xs (d) 21 2 [a0, some (.int z), a2] (.int z :: st) M x := Rs_next c21_1 rfl
theorem c21_2 : qx_code 21 2 = some (2, .putfield 29, 5, 1, 5, 197) := by decide +kernel
theorem s21_2 {L : Nat} {xs : Nat → Int32} {d x : Nat} {M : qxM} {st : List Value} {ls : qxL} {t : Nat} {z : Int32} (hk : qx_kd t = 11) : Rs L xs (d) 21 2 ls (.int z :: .ref t :: st) M x = Rs L xs (d) 21 5 ls st (qx_up M t 5 z) x := Rs_when (cnd := qx_sh t = some (.inl 1) ∧ qx_fo 1 5 = none ∧ (qx_bf 1 5 = true → z = 0 ∨ z = 1)) ⟨qx_kd_obj (k := 1) (by decide) hk, rfl, fun h => nomatch h⟩ c21_2 rfl
theorem c21_5 : qx_code 21 5 = some (5, .aload_n 0, 6, 0, 0, 0) := by decide +kernel
theorem s21_5 {L : Nat} {xs : Nat → Int32} {d x : Nat} {M : qxM} {st : List Value} {a1 a2 : Option Value} {z : Nat} : Rs L xs (d) 21 5 [some (.ref z), a1, a2] st M x = Rs L xs (d) 21 6 [some (.ref z), a1, a2] (.ref z :: st) M x := Rs_next c21_5 rfl
theorem c21_6 : qx_code 21 6 = some (6, .iconst 0, 7, 0, 0, 0) := by decide +kernel
theorem s21_6 {L : Nat} {xs : Nat → Int32} {d x : Nat} {M : qxM} {st : List Value} {ls : qxL} : Rs L xs (d) 21 6 ls st M x = Rs L xs (d) 21 7 ls (.int (nI 0) :: st) M x := Rs_next c21_6 rfl
theorem c21_7 : qx_code 21 7 = some (7, .putfield 32, 10, 1, 6, 198) := by decide +kernel
theorem s21_7 {L : Nat} {xs : Nat → Int32} {d x : Nat} {M : qxM} {st : List Value} {ls : qxL} {t : Nat} {z : Int32} (hk : qx_kd t = 11) : Rs L xs (d) 21 7 ls (.int z :: .ref t :: st) M x = Rs L xs (d) 21 10 ls st (qx_up M t 6 z) x := Rs_when (cnd := qx_sh t = some (.inl 1) ∧ qx_fo 1 6 = none ∧ (qx_bf 1 6 = true → z = 0 ∨ z = 1)) ⟨qx_kd_obj (k := 1) (by decide) hk, rfl, fun h => nomatch h⟩ c21_7 rfl
theorem c21_10 : qx_code 21 10 = some (10, .aload_n 0, 11, 0, 0, 0) := by decide +kernel
theorem s21_10 {L : Nat} {xs : Nat → Int32} {d x : Nat} {M : qxM} {st : List Value} {a1 a2 : Option Value} {z : Nat} : Rs L xs (d) 21 10 [some (.ref z), a1, a2] st M x = Rs L xs (d) 21 11 [some (.ref z), a1, a2] (.ref z :: st) M x := Rs_next c21_10 rfl
theorem c21_11 : qx_code 21 11 = some (11, .getfield 18, 14, 1, 1, 189) := by decide +kernel
theorem s21_11 {L : Nat} {xs : Nat → Int32} {d x : Nat} {M : qxM} {st : List Value} {ls : qxL} {t : Nat} (hk : qx_kd t = 11) : Rs L xs (d) 21 11 ls (.ref t :: st) M x = Rs L xs (d) 21 14 ls (.ref (t + 2) :: st) M x := Rs_when (qx_kd_obj (k := 1) (by decide) hk) c21_11 rfl
theorem c21_14 : qx_code 21 14 = some (14, .invokevirtual 35, 17, 34, 1, 523) := by decide +kernel
theorem s21_14 {L : Nat} {xs : Nat → Int32} {d x : Nat} {M : qxM} {st : List Value} {ls : qxL} {t : Nat} (hk : qx_kd t = 12) (hs : st.length ≤ 4) : Rs L xs (d + 1) 21 14 ls (.ref t :: st) M x = (Rs L xs d 34 0 [some (.ref t)] [] M 0).bind (qx_kn L xs (d + 1) 21 14 17 34 ls st x) := by
  have h1 : qx_act L xs (qx_rt 21) (14, .invokevirtual 35, 17, 34, 1, 523) ls (.ref t :: st) M = if 1 ≤ (.ref t :: st).length ∧ st.length ≤ 4 then some (.inr (.inr (.inr (34, [.ref t], st)))) else none := rfl
  rw [if_pos ⟨by simp [List.length_cons]; try omega, hs⟩] at h1
  have h2 := qx_kd_obj (k := 2) (by decide) hk
  exact Rs_call c21_14 h1 (by rw [show qx_args 34 [.ref t] = decide (qx_sh t = some (.inl 2)) from rfl]; exact decide_eq_true h2)
theorem c21_17 : qx_code 21 17 = some (17, .aload_n 0, 18, 0, 0, 0) := by decide +kernel
theorem s21_17 {L : Nat} {xs : Nat → Int32} {d x : Nat} {M : qxM} {st : List Value} {a1 a2 : Option Value} {z : Nat} : Rs L xs (d) 21 17 [some (.ref z), a1, a2] st M x = Rs L xs (d) 21 18 [some (.ref z), a1, a2] (.ref z :: st) M x := Rs_next c21_17 rfl
theorem c21_18 : qx_code 21 18 = some (18, .aload_n 0, 19, 0, 0, 0) := by decide +kernel
theorem s21_18 {L : Nat} {xs : Nat → Int32} {d x : Nat} {M : qxM} {st : List Value} {a1 a2 : Option Value} {z : Nat} : Rs L xs (d) 21 18 [some (.ref z), a1, a2] st M x = Rs L xs (d) 21 19 [some (.ref z), a1, a2] (.ref z :: st) M x := Rs_next c21_18 rfl
theorem c21_19 : qx_code 21 19 = some (19, .invokevirtual 38, 22, 22, 1, 530) := by decide +kernel
theorem s21_19 {L : Nat} {xs : Nat → Int32} {d x : Nat} {M : qxM} {st : List Value} {ls : qxL} {t : Nat} (hk : qx_kd t = 11) (hs : st.length ≤ 4) : Rs L xs (d + 1) 21 19 ls (.ref t :: st) M x = (Rs L xs d 22 0 [some (.ref t), none] [] M 0).bind (qx_kn L xs (d + 1) 21 19 22 22 ls st x) := by
  have h1 : qx_act L xs (qx_rt 21) (19, .invokevirtual 38, 22, 22, 1, 530) ls (.ref t :: st) M = if 1 ≤ (.ref t :: st).length ∧ st.length ≤ 4 then some (.inr (.inr (.inr (22, [.ref t], st)))) else none := rfl
  rw [if_pos ⟨by simp [List.length_cons]; try omega, hs⟩] at h1
  have h2 := qx_kd_obj (k := 1) (by decide) hk
  exact Rs_call c21_19 h1 (by rw [show qx_args 22 [.ref t] = decide (qx_sh t = some (.inl 1)) from rfl]; exact decide_eq_true h2)
theorem c21_22 : qx_code 21 22 = some (22, .putfield 42, 25, 1, 3, 194) := by decide +kernel
theorem s21_22 {L : Nat} {xs : Nat → Int32} {d x : Nat} {M : qxM} {st : List Value} {ls : qxL} {t : Nat} {z : Int32} (hk : qx_kd t = 11) : Rs L xs (d) 21 22 ls (.int z :: .ref t :: st) M x = Rs L xs (d) 21 25 ls st (qx_up M t 3 z) x := Rs_when (cnd := qx_sh t = some (.inl 1) ∧ qx_fo 1 3 = none ∧ (qx_bf 1 3 = true → z = 0 ∨ z = 1)) ⟨qx_kd_obj (k := 1) (by decide) hk, rfl, fun h => nomatch h⟩ c21_22 rfl
theorem c21_25 : qx_code 21 25 = some (25, .iconst 0, 26, 0, 0, 0) := by decide +kernel
theorem s21_25 {L : Nat} {xs : Nat → Int32} {d x : Nat} {M : qxM} {st : List Value} {ls : qxL} : Rs L xs (d) 21 25 ls st M x = Rs L xs (d) 21 26 ls (.int (nI 0) :: st) M x := Rs_next c21_25 rfl
theorem c21_26 : qx_code 21 26 = some (26, .istore_n 2, 27, 0, 0, 0) := by decide +kernel
theorem s21_26i {L : Nat} {xs : Nat → Int32} {d x : Nat} {M : qxM} {st : List Value} {a0 a2 : Option Value} {z : Int32} {y : Int32} : Rs L xs (d) 21 26 [a0, some (.int y), a2] (.int z :: st) M x = Rs L xs (d) 21 27 [a0, some (.int y), some (.int z)] st M x := Rs_next c21_26 rfl
theorem s21_26r {L : Nat} {xs : Nat → Int32} {d x : Nat} {M : qxM} {st : List Value} {a0 a2 : Option Value} {z : Int32} {y : Nat} : Rs L xs (d) 21 26 [a0, some (.ref y), a2] (.int z :: st) M x = Rs L xs (d) 21 27 [a0, some (.ref y), some (.int z)] st M x := Rs_next c21_26 rfl
theorem s21_26n {L : Nat} {xs : Nat → Int32} {d x : Nat} {M : qxM} {st : List Value} {a0 a2 : Option Value} {z : Int32} : Rs L xs (d) 21 26 [a0, none, a2] (.int z :: st) M x = Rs L xs (d) 21 27 [a0, none, some (.int z)] st M x := Rs_next c21_26 rfl
theorem c21_27 : qx_code 21 27 = some (27, .iload_n 2, 28, 0, 0, 0) := by decide +kernel
theorem s21_27 {L : Nat} {xs : Nat → Int32} {d x : Nat} {M : qxM} {st : List Value} {a0 a1 : Option Value} {z : Int32} : Rs L xs (d) 21 27 [a0, a1, some (.int z)] st M x = Rs L xs (d) 21 28 [a0, a1, some (.int z)] (.int z :: st) M x := Rs_next c21_27 rfl
theorem c21_28 : qx_code 21 28 = some (28, .sipush 500, 31, 0, 0, 0) := by decide +kernel
theorem s21_28 {L : Nat} {xs : Nat → Int32} {d x : Nat} {M : qxM} {st : List Value} {ls : qxL} : Rs L xs (d) 21 28 ls st M x = Rs L xs (d) 21 31 ls (.int (nI 500) :: st) M x := Rs_next c21_28 rfl
theorem c21_31 : qx_code 21 31 = some (31, .if_icmp .ge 32, 34, 63, 0, 0) := by decide +kernel
theorem s21_31 {L : Nat} {xs : Nat → Int32} {d x : Nat} {M : qxM} {st : List Value} {ls : qxL} {z y : Int32} : Rs L xs (d) 21 31 ls (.int y :: .int z :: st) M x = if y ≤ z then Rs L xs (d) 21 63 ls st M x else Rs L xs (d) 21 34 ls st M x := Rs_ite c21_31 rfl
theorem c21_34 : qx_code 21 34 = some (34, .aload_n 0, 35, 0, 0, 0) := by decide +kernel
theorem s21_34 {L : Nat} {xs : Nat → Int32} {d x : Nat} {M : qxM} {st : List Value} {a1 a2 : Option Value} {z : Nat} : Rs L xs (d) 21 34 [some (.ref z), a1, a2] st M x = Rs L xs (d) 21 35 [some (.ref z), a1, a2] (.ref z :: st) M x := Rs_next c21_34 rfl
theorem c21_35 : qx_code 21 35 = some (35, .getfield 42, 38, 1, 3, 194) := by decide +kernel
theorem s21_35 {L : Nat} {xs : Nat → Int32} {d x : Nat} {M : qxM} {st : List Value} {ls : qxL} {t : Nat} (hk : qx_kd t = 11) : Rs L xs (d) 21 35 ls (.ref t :: st) M x = Rs L xs (d) 21 38 ls (.int (M.1 t 3) :: st) M x := Rs_when (qx_kd_obj (k := 1) (by decide) hk) c21_35 rfl
theorem c21_38 : qx_code 21 38 = some (38, .ifCond .ne 25, 41, 63, 0, 0) := by decide +kernel
theorem s21_38 {L : Nat} {xs : Nat → Int32} {d x : Nat} {M : qxM} {st : List Value} {ls : qxL} {z : Int32} : Rs L xs (d) 21 38 ls (.int z :: st) M x = if z = 0 then Rs L xs (d) 21 41 ls st M x else Rs L xs (d) 21 63 ls st M x := Rs_ite c21_38 rfl
theorem c21_41 : qx_code 21 41 = some (41, .aload_n 0, 42, 0, 0, 0) := by decide +kernel
theorem s21_41 {L : Nat} {xs : Nat → Int32} {d x : Nat} {M : qxM} {st : List Value} {a1 a2 : Option Value} {z : Nat} : Rs L xs (d) 21 41 [some (.ref z), a1, a2] st M x = Rs L xs (d) 21 42 [some (.ref z), a1, a2] (.ref z :: st) M x := Rs_next c21_41 rfl
theorem c21_42 : qx_code 21 42 = some (42, .getfield 45, 45, 1, 7, 199) := by decide +kernel
theorem s21_42 {L : Nat} {xs : Nat → Int32} {d x : Nat} {M : qxM} {st : List Value} {ls : qxL} {t : Nat} (hk : qx_kd t = 11) : Rs L xs (d) 21 42 ls (.ref t :: st) M x = Rs L xs (d) 21 45 ls (.int (M.1 t 7) :: st) M x := Rs_when (qx_kd_obj (k := 1) (by decide) hk) c21_42 rfl
theorem c21_45 : qx_code 21 45 = some (45, .iconst 3, 46, 0, 0, 0) := by decide +kernel
theorem s21_45 {L : Nat} {xs : Nat → Int32} {d x : Nat} {M : qxM} {st : List Value} {ls : qxL} : Rs L xs (d) 21 45 ls st M x = Rs L xs (d) 21 46 ls (.int (nI 3) :: st) M x := Rs_next c21_45 rfl
theorem c21_46 : qx_code 21 46 = some (46, .if_icmp .ne 17, 49, 63, 0, 0) := by decide +kernel
theorem s21_46 {L : Nat} {xs : Nat → Int32} {d x : Nat} {M : qxM} {st : List Value} {ls : qxL} {z y : Int32} : Rs L xs (d) 21 46 ls (.int y :: .int z :: st) M x = if z = y then Rs L xs (d) 21 49 ls st M x else Rs L xs (d) 21 63 ls st M x := Rs_ite c21_46 rfl
theorem c21_49 : qx_code 21 49 = some (49, .aload_n 0, 50, 0, 0, 0) := by decide +kernel
theorem s21_49 {L : Nat} {xs : Nat → Int32} {d x : Nat} {M : qxM} {st : List Value} {a1 a2 : Option Value} {z : Nat} : Rs L xs (d) 21 49 [some (.ref z), a1, a2] st M x = Rs L xs (d) 21 50 [some (.ref z), a1, a2] (.ref z :: st) M x := Rs_next c21_49 rfl
theorem c21_50 : qx_code 21 50 = some (50, .aload_n 0, 51, 0, 0, 0) := by decide +kernel
theorem s21_50 {L : Nat} {xs : Nat → Int32} {d x : Nat} {M : qxM} {st : List Value} {a1 a2 : Option Value} {z : Nat} : Rs L xs (d) 21 50 [some (.ref z), a1, a2] st M x = Rs L xs (d) 21 51 [some (.ref z), a1, a2] (.ref z :: st) M x := Rs_next c21_50 rfl
theorem c21_51 : qx_code 21 51 = some (51, .invokevirtual 48, 54, 23, 1, 611) := by decide +kernel
theorem s21_51 {L : Nat} {xs : Nat → Int32} {d x : Nat} {M : qxM} {st : List Value} {ls : qxL} {t : Nat} (hk : qx_kd t = 11) (hs : st.length ≤ 4) : Rs L xs (d + 1) 21 51 ls (.ref t :: st) M x = (Rs L xs d 23 0 [some (.ref t), none, none, none, none, none, none] [] M 0).bind (qx_kn L xs (d + 1) 21 51 54 23 ls st x) := by
  have h1 : qx_act L xs (qx_rt 21) (51, .invokevirtual 48, 54, 23, 1, 611) ls (.ref t :: st) M = if 1 ≤ (.ref t :: st).length ∧ st.length ≤ 4 then some (.inr (.inr (.inr (23, [.ref t], st)))) else none := rfl
  rw [if_pos ⟨by simp [List.length_cons]; try omega, hs⟩] at h1
  have h2 := qx_kd_obj (k := 1) (by decide) hk
  exact Rs_call c21_51 h1 (by rw [show qx_args 23 [.ref t] = decide (qx_sh t = some (.inl 1)) from rfl]; exact decide_eq_true h2)
theorem c21_54 : qx_code 21 54 = some (54, .putfield 42, 57, 1, 3, 194) := by decide +kernel
theorem s21_54 {L : Nat} {xs : Nat → Int32} {d x : Nat} {M : qxM} {st : List Value} {ls : qxL} {t : Nat} {z : Int32} (hk : qx_kd t = 11) : Rs L xs (d) 21 54 ls (.int z :: .ref t :: st) M x = Rs L xs (d) 21 57 ls st (qx_up M t 3 z) x := Rs_when (cnd := qx_sh t = some (.inl 1) ∧ qx_fo 1 3 = none ∧ (qx_bf 1 3 = true → z = 0 ∨ z = 1)) ⟨qx_kd_obj (k := 1) (by decide) hk, rfl, fun h => nomatch h⟩ c21_54 rfl
theorem c21_57 : qx_code 21 57 = some (57, .iinc 2 1, 60, 0, 0, 0) := by decide +kernel
theorem s21_57i {L : Nat} {xs : Nat → Int32} {d x : Nat} {M : qxM} {st : List Value} {a0 : Option Value} {z : Int32} {y : Int32} : Rs L xs (d) 21 57 [a0, some (.int y), some (.int z)] st M x = Rs L xs (d) 21 60 [a0, some (.int y), some (.int (z + (nI 1)))] st M x := Rs_next c21_57 rfl
theorem s21_57r {L : Nat} {xs : Nat → Int32} {d x : Nat} {M : qxM} {st : List Value} {a0 : Option Value} {z : Int32} {y : Nat} : Rs L xs (d) 21 57 [a0, some (.ref y), some (.int z)] st M x = Rs L xs (d) 21 60 [a0, some (.ref y), some (.int (z + (nI 1)))] st M x := Rs_next c21_57 rfl
theorem s21_57n {L : Nat} {xs : Nat → Int32} {d x : Nat} {M : qxM} {st : List Value} {a0 : Option Value} {z : Int32} : Rs L xs (d) 21 57 [a0, none, some (.int z)] st M x = Rs L xs (d) 21 60 [a0, none, some (.int (z + (nI 1)))] st M x := Rs_next c21_57 rfl
theorem c21_60 : qx_code 21 60 = some (60, .goto (-33), 63, 27, 0, 0) := by decide +kernel
theorem s21_60 {L : Nat} {xs : Nat → Int32} {d x : Nat} {M : qxM} {st : List Value} {ls : qxL} : Rs L xs (d) 21 60 ls st M x = Rs L xs (d) 21 27 ls st M x := Rs_next c21_60 rfl
theorem c21_63 : qx_code 21 63 = some (63, .aload_n 0, 64, 0, 0, 0) := by decide +kernel
theorem s21_63 {L : Nat} {xs : Nat → Int32} {d x : Nat} {M : qxM} {st : List Value} {a1 a2 : Option Value} {z : Nat} : Rs L xs (d) 21 63 [some (.ref z), a1, a2] st M x = Rs L xs (d) 21 64 [some (.ref z), a1, a2] (.ref z :: st) M x := Rs_next c21_63 rfl
theorem c21_64 : qx_code 21 64 = some (64, .getfield 42, 67, 1, 3, 194) := by decide +kernel
theorem s21_64 {L : Nat} {xs : Nat → Int32} {d x : Nat} {M : qxM} {st : List Value} {ls : qxL} {t : Nat} (hk : qx_kd t = 11) : Rs L xs (d) 21 64 ls (.ref t :: st) M x = Rs L xs (d) 21 67 ls (.int (M.1 t 3) :: st) M x := Rs_when (qx_kd_obj (k := 1) (by decide) hk) c21_64 rfl
theorem c21_67 : qx_code 21 67 = some (67, .ifCond .ne 16, 70, 83, 0, 0) := by decide +kernel
theorem s21_67 {L : Nat} {xs : Nat → Int32} {d x : Nat} {M : qxM} {st : List Value} {ls : qxL} {z : Int32} : Rs L xs (d) 21 67 ls (.int z :: st) M x = if z = 0 then Rs L xs (d) 21 70 ls st M x else Rs L xs (d) 21 83 ls st M x := Rs_ite c21_67 rfl
theorem c21_70 : qx_code 21 70 = some (70, .aload_n 0, 71, 0, 0, 0) := by decide +kernel
theorem s21_70 {L : Nat} {xs : Nat → Int32} {d x : Nat} {M : qxM} {st : List Value} {a1 a2 : Option Value} {z : Nat} : Rs L xs (d) 21 70 [some (.ref z), a1, a2] st M x = Rs L xs (d) 21 71 [some (.ref z), a1, a2] (.ref z :: st) M x := Rs_next c21_70 rfl
theorem c21_71 : qx_code 21 71 = some (71, .getfield 45, 74, 1, 7, 199) := by decide +kernel
theorem s21_71 {L : Nat} {xs : Nat → Int32} {d x : Nat} {M : qxM} {st : List Value} {ls : qxL} {t : Nat} (hk : qx_kd t = 11) : Rs L xs (d) 21 71 ls (.ref t :: st) M x = Rs L xs (d) 21 74 ls (.int (M.1 t 7) :: st) M x := Rs_when (qx_kd_obj (k := 1) (by decide) hk) c21_71 rfl
theorem c21_74 : qx_code 21 74 = some (74, .iconst 4, 75, 0, 0, 0) := by decide +kernel
theorem s21_74 {L : Nat} {xs : Nat → Int32} {d x : Nat} {M : qxM} {st : List Value} {ls : qxL} : Rs L xs (d) 21 74 ls st M x = Rs L xs (d) 21 75 ls (.int (nI 4) :: st) M x := Rs_next c21_74 rfl
theorem c21_75 : qx_code 21 75 = some (75, .if_icmp .eq 8, 78, 83, 0, 0) := by decide +kernel
theorem s21_75 {L : Nat} {xs : Nat → Int32} {d x : Nat} {M : qxM} {st : List Value} {ls : qxL} {z y : Int32} : Rs L xs (d) 21 75 ls (.int y :: .int z :: st) M x = if z = y then Rs L xs (d) 21 83 ls st M x else Rs L xs (d) 21 78 ls st M x := Rs_ite c21_75 rfl
theorem c21_78 : qx_code 21 78 = some (78, .aload_n 0, 79, 0, 0, 0) := by decide +kernel
theorem s21_78 {L : Nat} {xs : Nat → Int32} {d x : Nat} {M : qxM} {st : List Value} {a1 a2 : Option Value} {z : Nat} : Rs L xs (d) 21 78 [some (.ref z), a1, a2] st M x = Rs L xs (d) 21 79 [some (.ref z), a1, a2] (.ref z :: st) M x := Rs_next c21_78 rfl
theorem c21_79 : qx_code 21 79 = some (79, .iconst 1, 80, 0, 0, 0) := by decide +kernel
theorem s21_79 {L : Nat} {xs : Nat → Int32} {d x : Nat} {M : qxM} {st : List Value} {ls : qxL} : Rs L xs (d) 21 79 ls st M x = Rs L xs (d) 21 80 ls (.int (nI 1) :: st) M x := Rs_next c21_79 rfl
theorem c21_80 : qx_code 21 80 = some (80, .putfield 42, 83, 1, 3, 194) := by decide +kernel
theorem s21_80 {L : Nat} {xs : Nat → Int32} {d x : Nat} {M : qxM} {st : List Value} {ls : qxL} {t : Nat} {z : Int32} (hk : qx_kd t = 11) : Rs L xs (d) 21 80 ls (.int z :: .ref t :: st) M x = Rs L xs (d) 21 83 ls st (qx_up M t 3 z) x := Rs_when (cnd := qx_sh t = some (.inl 1) ∧ qx_fo 1 3 = none ∧ (qx_bf 1 3 = true → z = 0 ∨ z = 1)) ⟨qx_kd_obj (k := 1) (by decide) hk, rfl, fun h => nomatch h⟩ c21_80 rfl
theorem c21_83 : qx_code 21 83 = some (83, .aload_n 0, 84, 0, 0, 0) := by decide +kernel
theorem s21_83 {L : Nat} {xs : Nat → Int32} {d x : Nat} {M : qxM} {st : List Value} {a1 a2 : Option Value} {z : Nat} : Rs L xs (d) 21 83 [some (.ref z), a1, a2] st M x = Rs L xs (d) 21 84 [some (.ref z), a1, a2] (.ref z :: st) M x := Rs_next c21_83 rfl
theorem c21_84 : qx_code 21 84 = some (84, .aload_n 0, 85, 0, 0, 0) := by decide +kernel
theorem s21_84 {L : Nat} {xs : Nat → Int32} {d x : Nat} {M : qxM} {st : List Value} {a1 a2 : Option Value} {z : Nat} : Rs L xs (d) 21 84 [some (.ref z), a1, a2] st M x = Rs L xs (d) 21 85 [some (.ref z), a1, a2] (.ref z :: st) M x := Rs_next c21_84 rfl
theorem c21_85 : qx_code 21 85 = some (85, .getfield 42, 88, 1, 3, 194) := by decide +kernel
theorem s21_85 {L : Nat} {xs : Nat → Int32} {d x : Nat} {M : qxM} {st : List Value} {ls : qxL} {t : Nat} (hk : qx_kd t = 11) : Rs L xs (d) 21 85 ls (.ref t :: st) M x = Rs L xs (d) 21 88 ls (.int (M.1 t 3) :: st) M x := Rs_when (qx_kd_obj (k := 1) (by decide) hk) c21_85 rfl
theorem c21_88 : qx_code 21 88 = some (88, .ifCond .ne 7, 91, 95, 0, 0) := by decide +kernel
theorem s21_88 {L : Nat} {xs : Nat → Int32} {d x : Nat} {M : qxM} {st : List Value} {ls : qxL} {z : Int32} : Rs L xs (d) 21 88 ls (.int z :: st) M x = if z = 0 then Rs L xs (d) 21 91 ls st M x else Rs L xs (d) 21 95 ls st M x := Rs_ite c21_88 rfl
theorem c21_91 : qx_code 21 91 = some (91, .iconst (-1), 92, 0, 0, 0) := by decide +kernel
theorem s21_91 {L : Nat} {xs : Nat → Int32} {d x : Nat} {M : qxM} {st : List Value} {ls : qxL} : Rs L xs (d) 21 91 ls st M x = Rs L xs (d) 21 92 ls (.int (-1) :: st) M x := Rs_next c21_91 rfl
theorem c21_92 : qx_code 21 92 = some (92, .goto 7, 95, 99, 0, 0) := by decide +kernel
theorem s21_92 {L : Nat} {xs : Nat → Int32} {d x : Nat} {M : qxM} {st : List Value} {ls : qxL} : Rs L xs (d) 21 92 ls st M x = Rs L xs (d) 21 99 ls st M x := Rs_next c21_92 rfl
theorem c21_95 : qx_code 21 95 = some (95, .aload_n 0, 96, 0, 0, 0) := by decide +kernel
theorem s21_95 {L : Nat} {xs : Nat → Int32} {d x : Nat} {M : qxM} {st : List Value} {a1 a2 : Option Value} {z : Nat} : Rs L xs (d) 21 95 [some (.ref z), a1, a2] st M x = Rs L xs (d) 21 96 [some (.ref z), a1, a2] (.ref z :: st) M x := Rs_next c21_95 rfl
theorem c21_96 : qx_code 21 96 = some (96, .getfield 51, 99, 1, 8, 200) := by decide +kernel
theorem s21_96 {L : Nat} {xs : Nat → Int32} {d x : Nat} {M : qxM} {st : List Value} {ls : qxL} {t : Nat} (hk : qx_kd t = 11) : Rs L xs (d) 21 96 ls (.ref t :: st) M x = Rs L xs (d) 21 99 ls (.int (M.1 t 8) :: st) M x := Rs_when (qx_kd_obj (k := 1) (by decide) hk) c21_96 rfl
theorem c21_99 : qx_code 21 99 = some (99, .putfield 22, 102, 1, 4, 195) := by decide +kernel
theorem s21_99 {L : Nat} {xs : Nat → Int32} {d x : Nat} {M : qxM} {st : List Value} {ls : qxL} {t : Nat} {z : Int32} (hk : qx_kd t = 11) : Rs L xs (d) 21 99 ls (.int z :: .ref t :: st) M x = Rs L xs (d) 21 102 ls st (qx_up M t 4 z) x := Rs_when (cnd := qx_sh t = some (.inl 1) ∧ qx_fo 1 4 = none ∧ (qx_bf 1 4 = true → z = 0 ∨ z = 1)) ⟨qx_kd_obj (k := 1) (by decide) hk, rfl, fun h => nomatch h⟩ c21_99 rfl
theorem c21_102 : qx_code 21 102 = some (102, .aload_n 0, 103, 0, 0, 0) := by decide +kernel
theorem s21_102 {L : Nat} {xs : Nat → Int32} {d x : Nat} {M : qxM} {st : List Value} {a1 a2 : Option Value} {z : Nat} : Rs L xs (d) 21 102 [some (.ref z), a1, a2] st M x = Rs L xs (d) 21 103 [some (.ref z), a1, a2] (.ref z :: st) M x := Rs_next c21_102 rfl
theorem c21_103 : qx_code 21 103 = some (103, .getfield 18, 106, 1, 1, 189) := by decide +kernel
theorem s21_103 {L : Nat} {xs : Nat → Int32} {d x : Nat} {M : qxM} {st : List Value} {ls : qxL} {t : Nat} (hk : qx_kd t = 11) : Rs L xs (d) 21 103 ls (.ref t :: st) M x = Rs L xs (d) 21 106 ls (.ref (t + 2) :: st) M x := Rs_when (qx_kd_obj (k := 1) (by decide) hk) c21_103 rfl
theorem c21_106 : qx_code 21 106 = some (106, .invokevirtual 54, 109, 51, 1, 674) := by decide +kernel
theorem s21_106 {L : Nat} {xs : Nat → Int32} {d x : Nat} {M : qxM} {st : List Value} {ls : qxL} {t : Nat} (hk : qx_kd t = 12) (hs : st.length ≤ 4) : Rs L xs (d + 1) 21 106 ls (.ref t :: st) M x = (Rs L xs d 51 0 [some (.ref t), none, none, none] [] M 0).bind (qx_kn L xs (d + 1) 21 106 109 51 ls st x) := by
  have h1 : qx_act L xs (qx_rt 21) (106, .invokevirtual 54, 109, 51, 1, 674) ls (.ref t :: st) M = if 1 ≤ (.ref t :: st).length ∧ st.length ≤ 4 then some (.inr (.inr (.inr (51, [.ref t], st)))) else none := rfl
  rw [if_pos ⟨by simp [List.length_cons]; try omega, hs⟩] at h1
  have h2 := qx_kd_obj (k := 2) (by decide) hk
  exact Rs_call c21_106 h1 (by rw [show qx_args 51 [.ref t] = decide (qx_sh t = some (.inl 2)) from rfl]; exact decide_eq_true h2)
theorem c21_109 : qx_code 21 109 = some (109, .pop, 110, 0, 0, 0) := by decide +kernel
theorem s21_109 {L : Nat} {xs : Nat → Int32} {d x : Nat} {M : qxM} {st : List Value} {ls : qxL} {z : Int32} : Rs L xs (d) 21 109 ls (.int z :: st) M x = Rs L xs (d) 21 110 ls st M x := Rs_next c21_109 rfl
theorem c21_110 : qx_code 21 110 = some (110, .aload_n 0, 111, 0, 0, 0) := by decide +kernel
theorem s21_110 {L : Nat} {xs : Nat → Int32} {d x : Nat} {M : qxM} {st : List Value} {a1 a2 : Option Value} {z : Nat} : Rs L xs (d) 21 110 [some (.ref z), a1, a2] st M x = Rs L xs (d) 21 111 [some (.ref z), a1, a2] (.ref z :: st) M x := Rs_next c21_110 rfl
theorem c21_111 : qx_code 21 111 = some (111, .iconst 0, 112, 0, 0, 0) := by decide +kernel
theorem s21_111 {L : Nat} {xs : Nat → Int32} {d x : Nat} {M : qxM} {st : List Value} {ls : qxL} : Rs L xs (d) 21 111 ls st M x = Rs L xs (d) 21 112 ls (.int (nI 0) :: st) M x := Rs_next c21_111 rfl
theorem c21_112 : qx_code 21 112 = some (112, .putfield 26, 115, 1, 2, 191) := by decide +kernel
theorem s21_112 {L : Nat} {xs : Nat → Int32} {d x : Nat} {M : qxM} {st : List Value} {ls : qxL} {t : Nat} {z : Int32} (hk : qx_kd t = 11) : Rs L xs (d) 21 112 ls (.int z :: .ref t :: st) M x = Rs L xs (d) 21 115 ls st (qx_up M t 2 z) x := Rs_when (cnd := qx_sh t = some (.inl 1) ∧ qx_fo 1 2 = none ∧ (qx_bf 1 2 = true → z = 0 ∨ z = 1)) ⟨qx_kd_obj (k := 1) (by decide) hk, rfl, fun h => nomatch h⟩ c21_112 rfl
theorem c21_115 : qx_code 21 115 = some (115, .aload_n 0, 116, 0, 0, 0) := by decide +kernel
theorem s21_115 {L : Nat} {xs : Nat → Int32} {d x : Nat} {M : qxM} {st : List Value} {a1 a2 : Option Value} {z : Nat} : Rs L xs (d) 21 115 [some (.ref z), a1, a2] st M x = Rs L xs (d) 21 116 [some (.ref z), a1, a2] (.ref z :: st) M x := Rs_next c21_115 rfl
theorem c21_116 : qx_code 21 116 = some (116, .getfield 42, 119, 1, 3, 194) := by decide +kernel
theorem s21_116 {L : Nat} {xs : Nat → Int32} {d x : Nat} {M : qxM} {st : List Value} {ls : qxL} {t : Nat} (hk : qx_kd t = 11) : Rs L xs (d) 21 116 ls (.ref t :: st) M x = Rs L xs (d) 21 119 ls (.int (M.1 t 3) :: st) M x := Rs_when (qx_kd_obj (k := 1) (by decide) hk) c21_116 rfl
theorem c21_119 : qx_code 21 119 = some (119, .ifCond .ne 7, 122, 126, 0, 0) := by decide +kernel
theorem s21_119 {L : Nat} {xs : Nat → Int32} {d x : Nat} {M : qxM} {st : List Value} {ls : qxL} {z : Int32} : Rs L xs (d) 21 119 ls (.int z :: st) M x = if z = 0 then Rs L xs (d) 21 122 ls st M x else Rs L xs (d) 21 126 ls st M x := Rs_ite c21_119 rfl
theorem c21_122 : qx_code 21 122 = some (122, .iconst 1, 123, 0, 0, 0) := by decide +kernel
theorem s21_122 {L : Nat} {xs : Nat → Int32} {d x : Nat} {M : qxM} {st : List Value} {ls : qxL} : Rs L xs (d) 21 122 ls st M x = Rs L xs (d) 21 123 ls (.int (nI 1) :: st) M x := Rs_next c21_122 rfl
theorem c21_123 : qx_code 21 123 = some (123, .goto 4, 126, 127, 0, 0) := by decide +kernel
theorem s21_123 {L : Nat} {xs : Nat → Int32} {d x : Nat} {M : qxM} {st : List Value} {ls : qxL} : Rs L xs (d) 21 123 ls st M x = Rs L xs (d) 21 127 ls st M x := Rs_next c21_123 rfl
theorem c21_126 : qx_code 21 126 = some (126, .iconst 0, 127, 0, 0, 0) := by decide +kernel
theorem s21_126 {L : Nat} {xs : Nat → Int32} {d x : Nat} {M : qxM} {st : List Value} {ls : qxL} : Rs L xs (d) 21 126 ls st M x = Rs L xs (d) 21 127 ls (.int (nI 0) :: st) M x := Rs_next c21_126 rfl
theorem c21_127 : qx_code 21 127 = some (127, .ireturn, 128, 0, 0, 0) := by decide +kernel
theorem s21_127 {L : Nat} {xs : Nat → Int32} {d x : Nat} {M : qxM} {ls : qxL} {z : Int32} (h01 : z = 0 ∨ z = 1) : Rs L xs (d) 21 127 ls [.int z] M x = some (.inl (some (.int z)), M, x) := Rs_retw h01 c21_127 rfl
theorem c22_0 : qx_code 22 0 = some (0, .aload_n 0, 1, 0, 0, 0) := by decide +kernel
theorem s22_0 {L : Nat} {xs : Nat → Int32} {d x : Nat} {M : qxM} {st : List Value} {a1 : Option Value} {z : Nat} : Rs L xs (d) 22 0 [some (.ref z), a1] st M x = Rs L xs (d) 22 1 [some (.ref z), a1] (.ref z :: st) M x := Rs_next c22_0 rfl
theorem c22_1 : qx_code 22 1 = some (1, .invokevirtual 57, 4, 28, 1, 534) := by decide +kernel
theorem s22_1 {L : Nat} {xs : Nat → Int32} {d x : Nat} {M : qxM} {st : List Value} {ls : qxL} {t : Nat} (hk : qx_kd t = 11) (hs : st.length ≤ 4) : Rs L xs (d + 1) 22 1 ls (.ref t :: st) M x = (Rs L xs d 28 0 [some (.ref t)] [] M 0).bind (qx_kn L xs (d + 1) 22 1 4 28 ls st x) := by
  have h1 : qx_act L xs (qx_rt 22) (1, .invokevirtual 57, 4, 28, 1, 534) ls (.ref t :: st) M = if 1 ≤ (.ref t :: st).length ∧ st.length ≤ 4 then some (.inr (.inr (.inr (28, [.ref t], st)))) else none := rfl
  rw [if_pos ⟨by simp [List.length_cons]; try omega, hs⟩] at h1
  have h2 := qx_kd_obj (k := 1) (by decide) hk
  exact Rs_call c22_1 h1 (by rw [show qx_args 28 [.ref t] = decide (qx_sh t = some (.inl 1)) from rfl]; exact decide_eq_true h2)
theorem c22_4 : qx_code 22 4 = some (4, .aload_n 0, 5, 0, 0, 0) := by decide +kernel
theorem s22_4 {L : Nat} {xs : Nat → Int32} {d x : Nat} {M : qxM} {st : List Value} {a1 : Option Value} {z : Nat} : Rs L xs (d) 22 4 [some (.ref z), a1] st M x = Rs L xs (d) 22 5 [some (.ref z), a1] (.ref z :: st) M x := Rs_next c22_4 rfl
theorem c22_5 : qx_code 22 5 = some (5, .ldc 60, 7, 1, 1, 0) := by decide +kernel
theorem s22_5 {L : Nat} {xs : Nat → Int32} {d x : Nat} {M : qxM} {st : List Value} {ls : qxL} : Rs L xs (d) 22 5 ls st M x = Rs L xs (d) 22 7 ls (.ref (500 + 1) :: st) M x := Rs_next c22_5 rfl
theorem c22_7 : qx_code 22 7 = some (7, .invokevirtual 62, 10, 31, 2, 555) := by decide +kernel
theorem s22_7 {L : Nat} {xs : Nat → Int32} {d x : Nat} {M : qxM} {st : List Value} {ls : qxL} {t : Nat} {z0 : Nat} (hk : qx_kd t = 11) (hs : st.length ≤ 4) : Rs L xs (d + 1) 22 7 ls (.ref z0 :: .ref t :: st) M x = (Rs L xs d 31 0 [some (.ref t), some (.ref z0), none] [] M 0).bind (qx_kn L xs (d + 1) 22 7 10 31 ls st x) := by
  have h1 : qx_act L xs (qx_rt 22) (7, .invokevirtual 62, 10, 31, 2, 555) ls (.ref z0 :: .ref t :: st) M = if 2 ≤ (.ref z0 :: .ref t :: st).length ∧ st.length ≤ 4 then some (.inr (.inr (.inr (31, [.ref t, .ref z0], st)))) else none := rfl
  rw [if_pos ⟨by simp [List.length_cons]; try omega, hs⟩] at h1
  have h2 := qx_kd_obj (k := 1) (by decide) hk
  exact Rs_call c22_7 h1 (by rw [show qx_args 31 [.ref t, .ref z0] = decide (qx_sh t = some (.inl 1)) from rfl]; exact decide_eq_true h2)
theorem c22_10 : qx_code 22 10 = some (10, .ifCond .ne 5, 13, 15, 0, 0) := by decide +kernel
theorem s22_10 {L : Nat} {xs : Nat → Int32} {d x : Nat} {M : qxM} {st : List Value} {ls : qxL} {z : Int32} : Rs L xs (d) 22 10 ls (.int z :: st) M x = if z = 0 then Rs L xs (d) 22 13 ls st M x else Rs L xs (d) 22 15 ls st M x := Rs_ite c22_10 rfl
theorem c22_13 : qx_code 22 13 = some (13, .iconst 1, 14, 0, 0, 0) := by decide +kernel
theorem s22_13 {L : Nat} {xs : Nat → Int32} {d x : Nat} {M : qxM} {st : List Value} {ls : qxL} : Rs L xs (d) 22 13 ls st M x = Rs L xs (d) 22 14 ls (.int (nI 1) :: st) M x := Rs_next c22_13 rfl
theorem c22_14 : qx_code 22 14 = some (14, .ireturn, 15, 0, 0, 0) := by decide +kernel
theorem s22_14 {L : Nat} {xs : Nat → Int32} {d x : Nat} {M : qxM} {ls : qxL} {z : Int32} : Rs L xs (d) 22 14 ls [.int z] M x = some (.inl (some (.int z)), M, x) := Rs_ret c22_14 rfl
theorem c22_15 : qx_code 22 15 = some (15, .aload_n 0, 16, 0, 0, 0) := by decide +kernel
theorem s22_15 {L : Nat} {xs : Nat → Int32} {d x : Nat} {M : qxM} {st : List Value} {a1 : Option Value} {z : Nat} : Rs L xs (d) 22 15 [some (.ref z), a1] st M x = Rs L xs (d) 22 16 [some (.ref z), a1] (.ref z :: st) M x := Rs_next c22_15 rfl
theorem c22_16 : qx_code 22 16 = some (16, .invokevirtual 57, 19, 28, 1, 534) := by decide +kernel
theorem s22_16 {L : Nat} {xs : Nat → Int32} {d x : Nat} {M : qxM} {st : List Value} {ls : qxL} {t : Nat} (hk : qx_kd t = 11) (hs : st.length ≤ 4) : Rs L xs (d + 1) 22 16 ls (.ref t :: st) M x = (Rs L xs d 28 0 [some (.ref t)] [] M 0).bind (qx_kn L xs (d + 1) 22 16 19 28 ls st x) := by
  have h1 : qx_act L xs (qx_rt 22) (16, .invokevirtual 57, 19, 28, 1, 534) ls (.ref t :: st) M = if 1 ≤ (.ref t :: st).length ∧ st.length ≤ 4 then some (.inr (.inr (.inr (28, [.ref t], st)))) else none := rfl
  rw [if_pos ⟨by simp [List.length_cons]; try omega, hs⟩] at h1
  have h2 := qx_kd_obj (k := 1) (by decide) hk
  exact Rs_call c22_16 h1 (by rw [show qx_args 28 [.ref t] = decide (qx_sh t = some (.inl 1)) from rfl]; exact decide_eq_true h2)
theorem c22_19 : qx_code 22 19 = some (19, .aload_n 0, 20, 0, 0, 0) := by decide +kernel
theorem s22_19 {L : Nat} {xs : Nat → Int32} {d x : Nat} {M : qxM} {st : List Value} {a1 : Option Value} {z : Nat} : Rs L xs (d) 22 19 [some (.ref z), a1] st M x = Rs L xs (d) 22 20 [some (.ref z), a1] (.ref z :: st) M x := Rs_next c22_19 rfl
theorem c22_20 : qx_code 22 20 = some (20, .iconst 1, 21, 0, 0, 0) := by decide +kernel
theorem s22_20 {L : Nat} {xs : Nat → Int32} {d x : Nat} {M : qxM} {st : List Value} {ls : qxL} : Rs L xs (d) 22 20 ls st M x = Rs L xs (d) 22 21 ls (.int (nI 1) :: st) M x := Rs_next c22_20 rfl
theorem c22_21 : qx_code 22 21 = some (21, .bipush 14, 23, 0, 0, 0) := by decide +kernel
theorem s22_21 {L : Nat} {xs : Nat → Int32} {d x : Nat} {M : qxM} {st : List Value} {ls : qxL} : Rs L xs (d) 22 21 ls st M x = Rs L xs (d) 22 23 ls (.int (nI 14) :: st) M x := Rs_next c22_21 rfl
theorem c22_23 : qx_code 22 23 = some (23, .invokevirtual 66, 26, 27, 3, 607) := by decide +kernel
theorem s22_23 {L : Nat} {xs : Nat → Int32} {d x : Nat} {M : qxM} {st : List Value} {ls : qxL} {t : Nat} {z0 : Int32} {z1 : Int32} (hk : qx_kd t = 11) (hs : st.length ≤ 4) : Rs L xs (d + 1) 22 23 ls (.int z1 :: .int z0 :: .ref t :: st) M x = (Rs L xs d 27 0 [some (.ref t), some (.int z0), some (.int z1)] [] M 0).bind (qx_kn L xs (d + 1) 22 23 26 27 ls st x) := by
  have h1 : qx_act L xs (qx_rt 22) (23, .invokevirtual 66, 26, 27, 3, 607) ls (.int z1 :: .int z0 :: .ref t :: st) M = if 3 ≤ (.int z1 :: .int z0 :: .ref t :: st).length ∧ st.length ≤ 4 then some (.inr (.inr (.inr (27, [.ref t, .int z0, .int z1], st)))) else none := rfl
  rw [if_pos ⟨by simp [List.length_cons]; try omega, hs⟩] at h1
  have h2 := qx_kd_obj (k := 1) (by decide) hk
  exact Rs_call c22_23 h1 (by rw [show qx_args 27 [.ref t, .int z0, .int z1] = decide (qx_sh t = some (.inl 1)) from rfl]; exact decide_eq_true h2)
theorem c22_26 : qx_code 22 26 = some (26, .istore_n 1, 27, 0, 0, 0) := by decide +kernel
theorem s22_26i {L : Nat} {xs : Nat → Int32} {d x : Nat} {M : qxM} {st : List Value} {a1 : Option Value} {z : Int32} {y : Int32} : Rs L xs (d) 22 26 [some (.int y), a1] (.int z :: st) M x = Rs L xs (d) 22 27 [some (.int y), some (.int z)] st M x := Rs_next c22_26 rfl
theorem s22_26r {L : Nat} {xs : Nat → Int32} {d x : Nat} {M : qxM} {st : List Value} {a1 : Option Value} {z : Int32} {y : Nat} : Rs L xs (d) 22 26 [some (.ref y), a1] (.int z :: st) M x = Rs L xs (d) 22 27 [some (.ref y), some (.int z)] st M x := Rs_next c22_26 rfl
theorem s22_26n {L : Nat} {xs : Nat → Int32} {d x : Nat} {M : qxM} {st : List Value} {a1 : Option Value} {z : Int32} : Rs L xs (d) 22 26 [none, a1] (.int z :: st) M x = Rs L xs (d) 22 27 [none, some (.int z)] st M x := Rs_next c22_26 rfl
theorem c22_27 : qx_code 22 27 = some (27, .iload_n 1, 28, 0, 0, 0) := by decide +kernel
theorem s22_27 {L : Nat} {xs : Nat → Int32} {d x : Nat} {M : qxM} {st : List Value} {a0 : Option Value} {z : Int32} : Rs L xs (d) 22 27 [a0, some (.int z)] st M x = Rs L xs (d) 22 28 [a0, some (.int z)] (.int z :: st) M x := Rs_next c22_27 rfl
theorem c22_28 : qx_code 22 28 = some (28, .ifCond .eq 5, 31, 33, 0, 0) := by decide +kernel
theorem s22_28 {L : Nat} {xs : Nat → Int32} {d x : Nat} {M : qxM} {st : List Value} {ls : qxL} {z : Int32} : Rs L xs (d) 22 28 ls (.int z :: st) M x = if z = 0 then Rs L xs (d) 22 33 ls st M x else Rs L xs (d) 22 31 ls st M x := Rs_ite c22_28 rfl
theorem c22_31 : qx_code 22 31 = some (31, .iload_n 1, 32, 0, 0, 0) := by decide +kernel
theorem s22_31 {L : Nat} {xs : Nat → Int32} {d x : Nat} {M : qxM} {st : List Value} {a0 : Option Value} {z : Int32} : Rs L xs (d) 22 31 [a0, some (.int z)] st M x = Rs L xs (d) 22 32 [a0, some (.int z)] (.int z :: st) M x := Rs_next c22_31 rfl
theorem c22_32 : qx_code 22 32 = some (32, .ireturn, 33, 0, 0, 0) := by decide +kernel
theorem s22_32 {L : Nat} {xs : Nat → Int32} {d x : Nat} {M : qxM} {ls : qxL} {z : Int32} : Rs L xs (d) 22 32 ls [.int z] M x = some (.inl (some (.int z)), M, x) := Rs_ret c22_32 rfl
theorem c22_33 : qx_code 22 33 = some (33, .aload_n 0, 34, 0, 0, 0) := by decide +kernel
theorem s22_33 {L : Nat} {xs : Nat → Int32} {d x : Nat} {M : qxM} {st : List Value} {a1 : Option Value} {z : Nat} : Rs L xs (d) 22 33 [some (.ref z), a1] st M x = Rs L xs (d) 22 34 [some (.ref z), a1] (.ref z :: st) M x := Rs_next c22_33 rfl
theorem c22_34 : qx_code 22 34 = some (34, .getfield 18, 37, 1, 1, 189) := by decide +kernel
theorem s22_34 {L : Nat} {xs : Nat → Int32} {d x : Nat} {M : qxM} {st : List Value} {ls : qxL} {t : Nat} (hk : qx_kd t = 11) : Rs L xs (d) 22 34 ls (.ref t :: st) M x = Rs L xs (d) 22 37 ls (.ref (t + 2) :: st) M x := Rs_when (qx_kd_obj (k := 1) (by decide) hk) c22_34 rfl
theorem c22_37 : qx_code 22 37 = some (37, .aload_n 0, 38, 0, 0, 0) := by decide +kernel
theorem s22_37 {L : Nat} {xs : Nat → Int32} {d x : Nat} {M : qxM} {st : List Value} {a1 : Option Value} {z : Nat} : Rs L xs (d) 22 37 [some (.ref z), a1] st M x = Rs L xs (d) 22 38 [some (.ref z), a1] (.ref z :: st) M x := Rs_next c22_37 rfl
theorem c22_38 : qx_code 22 38 = some (38, .getfield 70, 41, 1, 9, 201) := by decide +kernel
theorem s22_38 {L : Nat} {xs : Nat → Int32} {d x : Nat} {M : qxM} {st : List Value} {ls : qxL} {t : Nat} (hk : qx_kd t = 11) : Rs L xs (d) 22 38 ls (.ref t :: st) M x = Rs L xs (d) 22 41 ls (.int (M.1 t 9) :: st) M x := Rs_when (qx_kd_obj (k := 1) (by decide) hk) c22_38 rfl
theorem c22_41 : qx_code 22 41 = some (41, .putfield 73, 44, 2, 0, 167) := by decide +kernel
theorem s22_41 {L : Nat} {xs : Nat → Int32} {d x : Nat} {M : qxM} {st : List Value} {ls : qxL} {t : Nat} {z : Int32} (hk : qx_kd t = 12) : Rs L xs (d) 22 41 ls (.int z :: .ref t :: st) M x = Rs L xs (d) 22 44 ls st (qx_up M t 0 z) x := Rs_when (cnd := qx_sh t = some (.inl 2) ∧ qx_fo 2 0 = none ∧ (qx_bf 2 0 = true → z = 0 ∨ z = 1)) ⟨qx_kd_obj (k := 2) (by decide) hk, rfl, fun h => nomatch h⟩ c22_41 rfl
theorem c22_44 : qx_code 22 44 = some (44, .aload_n 0, 45, 0, 0, 0) := by decide +kernel
theorem s22_44 {L : Nat} {xs : Nat → Int32} {d x : Nat} {M : qxM} {st : List Value} {a1 : Option Value} {z : Nat} : Rs L xs (d) 22 44 [some (.ref z), a1] st M x = Rs L xs (d) 22 45 [some (.ref z), a1] (.ref z :: st) M x := Rs_next c22_44 rfl
theorem c22_45 : qx_code 22 45 = some (45, .invokevirtual 57, 48, 28, 1, 534) := by decide +kernel
theorem s22_45 {L : Nat} {xs : Nat → Int32} {d x : Nat} {M : qxM} {st : List Value} {ls : qxL} {t : Nat} (hk : qx_kd t = 11) (hs : st.length ≤ 4) : Rs L xs (d + 1) 22 45 ls (.ref t :: st) M x = (Rs L xs d 28 0 [some (.ref t)] [] M 0).bind (qx_kn L xs (d + 1) 22 45 48 28 ls st x) := by
  have h1 : qx_act L xs (qx_rt 22) (45, .invokevirtual 57, 48, 28, 1, 534) ls (.ref t :: st) M = if 1 ≤ (.ref t :: st).length ∧ st.length ≤ 4 then some (.inr (.inr (.inr (28, [.ref t], st)))) else none := rfl
  rw [if_pos ⟨by simp [List.length_cons]; try omega, hs⟩] at h1
  have h2 := qx_kd_obj (k := 1) (by decide) hk
  exact Rs_call c22_45 h1 (by rw [show qx_args 28 [.ref t] = decide (qx_sh t = some (.inl 1)) from rfl]; exact decide_eq_true h2)
theorem c22_48 : qx_code 22 48 = some (48, .aload_n 0, 49, 0, 0, 0) := by decide +kernel
theorem s22_48 {L : Nat} {xs : Nat → Int32} {d x : Nat} {M : qxM} {st : List Value} {a1 : Option Value} {z : Nat} : Rs L xs (d) 22 48 [some (.ref z), a1] st M x = Rs L xs (d) 22 49 [some (.ref z), a1] (.ref z :: st) M x := Rs_next c22_48 rfl
theorem c22_49 : qx_code 22 49 = some (49, .iconst 0, 50, 0, 0, 0) := by decide +kernel
theorem s22_49 {L : Nat} {xs : Nat → Int32} {d x : Nat} {M : qxM} {st : List Value} {ls : qxL} : Rs L xs (d) 22 49 ls st M x = Rs L xs (d) 22 50 ls (.int (nI 0) :: st) M x := Rs_next c22_49 rfl
theorem c22_50 : qx_code 22 50 = some (50, .iconst 2, 51, 0, 0, 0) := by decide +kernel
theorem s22_50 {L : Nat} {xs : Nat → Int32} {d x : Nat} {M : qxM} {st : List Value} {ls : qxL} : Rs L xs (d) 22 50 ls st M x = Rs L xs (d) 22 51 ls (.int (nI 2) :: st) M x := Rs_next c22_50 rfl
theorem c22_51 : qx_code 22 51 = some (51, .invokevirtual 66, 54, 27, 3, 607) := by decide +kernel
theorem s22_51 {L : Nat} {xs : Nat → Int32} {d x : Nat} {M : qxM} {st : List Value} {ls : qxL} {t : Nat} {z0 : Int32} {z1 : Int32} (hk : qx_kd t = 11) (hs : st.length ≤ 4) : Rs L xs (d + 1) 22 51 ls (.int z1 :: .int z0 :: .ref t :: st) M x = (Rs L xs d 27 0 [some (.ref t), some (.int z0), some (.int z1)] [] M 0).bind (qx_kn L xs (d + 1) 22 51 54 27 ls st x) := by
  have h1 : qx_act L xs (qx_rt 22) (51, .invokevirtual 66, 54, 27, 3, 607) ls (.int z1 :: .int z0 :: .ref t :: st) M = if 3 ≤ (.int z1 :: .int z0 :: .ref t :: st).length ∧ st.length ≤ 4 then some (.inr (.inr (.inr (27, [.ref t, .int z0, .int z1], st)))) else none := rfl
  rw [if_pos ⟨by simp [List.length_cons]; try omega, hs⟩] at h1
  have h2 := qx_kd_obj (k := 1) (by decide) hk
  exact Rs_call c22_51 h1 (by rw [show qx_args 27 [.ref t, .int z0, .int z1] = decide (qx_sh t = some (.inl 1)) from rfl]; exact decide_eq_true h2)
theorem c22_54 : qx_code 22 54 = some (54, .istore_n 1, 55, 0, 0, 0) := by decide +kernel
theorem s22_54i {L : Nat} {xs : Nat → Int32} {d x : Nat} {M : qxM} {st : List Value} {a1 : Option Value} {z : Int32} {y : Int32} : Rs L xs (d) 22 54 [some (.int y), a1] (.int z :: st) M x = Rs L xs (d) 22 55 [some (.int y), some (.int z)] st M x := Rs_next c22_54 rfl
theorem s22_54r {L : Nat} {xs : Nat → Int32} {d x : Nat} {M : qxM} {st : List Value} {a1 : Option Value} {z : Int32} {y : Nat} : Rs L xs (d) 22 54 [some (.ref y), a1] (.int z :: st) M x = Rs L xs (d) 22 55 [some (.ref y), some (.int z)] st M x := Rs_next c22_54 rfl
theorem s22_54n {L : Nat} {xs : Nat → Int32} {d x : Nat} {M : qxM} {st : List Value} {a1 : Option Value} {z : Int32} : Rs L xs (d) 22 54 [none, a1] (.int z :: st) M x = Rs L xs (d) 22 55 [none, some (.int z)] st M x := Rs_next c22_54 rfl
theorem c22_55 : qx_code 22 55 = some (55, .aload_n 0, 56, 0, 0, 0) := by decide +kernel
theorem s22_55 {L : Nat} {xs : Nat → Int32} {d x : Nat} {M : qxM} {st : List Value} {a1 : Option Value} {z : Nat} : Rs L xs (d) 22 55 [some (.ref z), a1] st M x = Rs L xs (d) 22 56 [some (.ref z), a1] (.ref z :: st) M x := Rs_next c22_55 rfl
theorem c22_56 : qx_code 22 56 = some (56, .getfield 18, 59, 1, 1, 189) := by decide +kernel
theorem s22_56 {L : Nat} {xs : Nat → Int32} {d x : Nat} {M : qxM} {st : List Value} {ls : qxL} {t : Nat} (hk : qx_kd t = 11) : Rs L xs (d) 22 56 ls (.ref t :: st) M x = Rs L xs (d) 22 59 ls (.ref (t + 2) :: st) M x := Rs_when (qx_kd_obj (k := 1) (by decide) hk) c22_56 rfl
theorem c22_59 : qx_code 22 59 = some (59, .aload_n 0, 60, 0, 0, 0) := by decide +kernel
theorem s22_59 {L : Nat} {xs : Nat → Int32} {d x : Nat} {M : qxM} {st : List Value} {a1 : Option Value} {z : Nat} : Rs L xs (d) 22 59 [some (.ref z), a1] st M x = Rs L xs (d) 22 60 [some (.ref z), a1] (.ref z :: st) M x := Rs_next c22_59 rfl
theorem c22_60 : qx_code 22 60 = some (60, .getfield 70, 63, 1, 9, 201) := by decide +kernel
theorem s22_60 {L : Nat} {xs : Nat → Int32} {d x : Nat} {M : qxM} {st : List Value} {ls : qxL} {t : Nat} (hk : qx_kd t = 11) : Rs L xs (d) 22 60 ls (.ref t :: st) M x = Rs L xs (d) 22 63 ls (.int (M.1 t 9) :: st) M x := Rs_when (qx_kd_obj (k := 1) (by decide) hk) c22_60 rfl
theorem c22_63 : qx_code 22 63 = some (63, .putfield 76, 66, 2, 1, 169) := by decide +kernel
theorem s22_63 {L : Nat} {xs : Nat → Int32} {d x : Nat} {M : qxM} {st : List Value} {ls : qxL} {t : Nat} {z : Int32} (hk : qx_kd t = 12) : Rs L xs (d) 22 63 ls (.int z :: .ref t :: st) M x = Rs L xs (d) 22 66 ls st (qx_up M t 1 z) x := Rs_when (cnd := qx_sh t = some (.inl 2) ∧ qx_fo 2 1 = none ∧ (qx_bf 2 1 = true → z = 0 ∨ z = 1)) ⟨qx_kd_obj (k := 2) (by decide) hk, rfl, fun h => nomatch h⟩ c22_63 rfl
theorem c22_66 : qx_code 22 66 = some (66, .iload_n 1, 67, 0, 0, 0) := by decide +kernel
theorem s22_66 {L : Nat} {xs : Nat → Int32} {d x : Nat} {M : qxM} {st : List Value} {a0 : Option Value} {z : Int32} : Rs L xs (d) 22 66 [a0, some (.int z)] st M x = Rs L xs (d) 22 67 [a0, some (.int z)] (.int z :: st) M x := Rs_next c22_66 rfl
theorem c22_67 : qx_code 22 67 = some (67, .ifCond .ne 7, 70, 74, 0, 0) := by decide +kernel
theorem s22_67 {L : Nat} {xs : Nat → Int32} {d x : Nat} {M : qxM} {st : List Value} {ls : qxL} {z : Int32} : Rs L xs (d) 22 67 ls (.int z :: st) M x = if z = 0 then Rs L xs (d) 22 70 ls st M x else Rs L xs (d) 22 74 ls st M x := Rs_ite c22_67 rfl
theorem c22_70 : qx_code 22 70 = some (70, .aload_n 0, 71, 0, 0, 0) := by decide +kernel
theorem s22_70 {L : Nat} {xs : Nat → Int32} {d x : Nat} {M : qxM} {st : List Value} {a1 : Option Value} {z : Nat} : Rs L xs (d) 22 70 [some (.ref z), a1] st M x = Rs L xs (d) 22 71 [some (.ref z), a1] (.ref z :: st) M x := Rs_next c22_70 rfl
theorem c22_71 : qx_code 22 71 = some (71, .invokevirtual 57, 74, 28, 1, 534) := by decide +kernel
theorem s22_71 {L : Nat} {xs : Nat → Int32} {d x : Nat} {M : qxM} {st : List Value} {ls : qxL} {t : Nat} (hk : qx_kd t = 11) (hs : st.length ≤ 4) : Rs L xs (d + 1) 22 71 ls (.ref t :: st) M x = (Rs L xs d 28 0 [some (.ref t)] [] M 0).bind (qx_kn L xs (d + 1) 22 71 74 28 ls st x) := by
  have h1 : qx_act L xs (qx_rt 22) (71, .invokevirtual 57, 74, 28, 1, 534) ls (.ref t :: st) M = if 1 ≤ (.ref t :: st).length ∧ st.length ≤ 4 then some (.inr (.inr (.inr (28, [.ref t], st)))) else none := rfl
  rw [if_pos ⟨by simp [List.length_cons]; try omega, hs⟩] at h1
  have h2 := qx_kd_obj (k := 1) (by decide) hk
  exact Rs_call c22_71 h1 (by rw [show qx_args 28 [.ref t] = decide (qx_sh t = some (.inl 1)) from rfl]; exact decide_eq_true h2)
theorem c22_74 : qx_code 22 74 = some (74, .iload_n 1, 75, 0, 0, 0) := by decide +kernel
theorem s22_74 {L : Nat} {xs : Nat → Int32} {d x : Nat} {M : qxM} {st : List Value} {a0 : Option Value} {z : Int32} : Rs L xs (d) 22 74 [a0, some (.int z)] st M x = Rs L xs (d) 22 75 [a0, some (.int z)] (.int z :: st) M x := Rs_next c22_74 rfl
theorem c22_75 : qx_code 22 75 = some (75, .ireturn, 76, 0, 0, 0) := by decide +kernel
theorem s22_75 {L : Nat} {xs : Nat → Int32} {d x : Nat} {M : qxM} {ls : qxL} {z : Int32} : Rs L xs (d) 22 75 ls [.int z] M x = some (.inl (some (.int z)), M, x) := Rs_ret c22_75 rfl
theorem c23_0 : qx_code 23 0 = some (0, .aload_n 0, 1, 0, 0, 0) := by decide +kernel
theorem s23_0 {L : Nat} {xs : Nat → Int32} {d x : Nat} {M : qxM} {st : List Value} {a1 a2 a3 a4 a5 a6 : Option Value} {z : Nat} : Rs L xs (d) 23 0 [some (.ref z), a1, a2, a3, a4, a5, a6] st M x = Rs L xs (d) 23 1 [some (.ref z), a1, a2, a3, a4, a5, a6] (.ref z :: st) M x := Rs_next c23_0 rfl
theorem c23_1 : qx_code 23 1 = some (1, .invokevirtual 57, 4, 28, 1, 534) := by decide +kernel
theorem s23_1 {L : Nat} {xs : Nat → Int32} {d x : Nat} {M : qxM} {st : List Value} {ls : qxL} {t : Nat} (hk : qx_kd t = 11) (hs : st.length ≤ 4) : Rs L xs (d + 1) 23 1 ls (.ref t :: st) M x = (Rs L xs d 28 0 [some (.ref t)] [] M 0).bind (qx_kn L xs (d + 1) 23 1 4 28 ls st x) := by
  have h1 : qx_act L xs (qx_rt 23) (1, .invokevirtual 57, 4, 28, 1, 534) ls (.ref t :: st) M = if 1 ≤ (.ref t :: st).length ∧ st.length ≤ 4 then some (.inr (.inr (.inr (28, [.ref t], st)))) else none := rfl
  rw [if_pos ⟨by simp [List.length_cons]; try omega, hs⟩] at h1
  have h2 := qx_kd_obj (k := 1) (by decide) hk
  exact Rs_call c23_1 h1 (by rw [show qx_args 28 [.ref t] = decide (qx_sh t = some (.inl 1)) from rfl]; exact decide_eq_true h2)
theorem c23_4 : qx_code 23 4 = some (4, .aload_n 0, 5, 0, 0, 0) := by decide +kernel
theorem s23_4 {L : Nat} {xs : Nat → Int32} {d x : Nat} {M : qxM} {st : List Value} {a1 a2 a3 a4 a5 a6 : Option Value} {z : Nat} : Rs L xs (d) 23 4 [some (.ref z), a1, a2, a3, a4, a5, a6] st M x = Rs L xs (d) 23 5 [some (.ref z), a1, a2, a3, a4, a5, a6] (.ref z :: st) M x := Rs_next c23_4 rfl
theorem c23_5 : qx_code 23 5 = some (5, .invokevirtual 79, 8, 24, 1, 615) := by decide +kernel
theorem s23_5 {L : Nat} {xs : Nat → Int32} {d x : Nat} {M : qxM} {st : List Value} {ls : qxL} {t : Nat} (hk : qx_kd t = 11) (hs : st.length ≤ 4) : Rs L xs (d + 1) 23 5 ls (.ref t :: st) M x = (Rs L xs d 24 0 [some (.ref t)] [] M 0).bind (qx_kn L xs (d + 1) 23 5 8 24 ls st x) := by
  have h1 : qx_act L xs (qx_rt 23) (5, .invokevirtual 79, 8, 24, 1, 615) ls (.ref t :: st) M = if 1 ≤ (.ref t :: st).length ∧ st.length ≤ 4 then some (.inr (.inr (.inr (24, [.ref t], st)))) else none := rfl
  rw [if_pos ⟨by simp [List.length_cons]; try omega, hs⟩] at h1
  have h2 := qx_kd_obj (k := 1) (by decide) hk
  exact Rs_call c23_5 h1 (by rw [show qx_args 24 [.ref t] = decide (qx_sh t = some (.inl 1)) from rfl]; exact decide_eq_true h2)
theorem c23_8 : qx_code 23 8 = some (8, .istore_n 1, 9, 0, 0, 0) := by decide +kernel
theorem s23_8i {L : Nat} {xs : Nat → Int32} {d x : Nat} {M : qxM} {st : List Value} {a1 a2 a3 a4 a5 a6 : Option Value} {z : Int32} {y : Int32} : Rs L xs (d) 23 8 [some (.int y), a1, a2, a3, a4, a5, a6] (.int z :: st) M x = Rs L xs (d) 23 9 [some (.int y), some (.int z), a2, a3, a4, a5, a6] st M x := Rs_next c23_8 rfl
theorem s23_8r {L : Nat} {xs : Nat → Int32} {d x : Nat} {M : qxM} {st : List Value} {a1 a2 a3 a4 a5 a6 : Option Value} {z : Int32} {y : Nat} : Rs L xs (d) 23 8 [some (.ref y), a1, a2, a3, a4, a5, a6] (.int z :: st) M x = Rs L xs (d) 23 9 [some (.ref y), some (.int z), a2, a3, a4, a5, a6] st M x := Rs_next c23_8 rfl
theorem s23_8n {L : Nat} {xs : Nat → Int32} {d x : Nat} {M : qxM} {st : List Value} {a1 a2 a3 a4 a5 a6 : Option Value} {z : Int32} : Rs L xs (d) 23 8 [none, a1, a2, a3, a4, a5, a6] (.int z :: st) M x = Rs L xs (d) 23 9 [none, some (.int z), a2, a3, a4, a5, a6] st M x := Rs_next c23_8 rfl
theorem c23_9 : qx_code 23 9 = some (9, .iload_n 1, 10, 0, 0, 0) := by decide +kernel
theorem s23_9 {L : Nat} {xs : Nat → Int32} {d x : Nat} {M : qxM} {st : List Value} {a0 a2 a3 a4 a5 a6 : Option Value} {z : Int32} : Rs L xs (d) 23 9 [a0, some (.int z), a2, a3, a4, a5, a6] st M x = Rs L xs (d) 23 10 [a0, some (.int z), a2, a3, a4, a5, a6] (.int z :: st) M x := Rs_next c23_9 rfl
theorem c23_10 : qx_code 23 10 = some (10, .iconst (-1), 11, 0, 0, 0) := by decide +kernel
theorem s23_10 {L : Nat} {xs : Nat → Int32} {d x : Nat} {M : qxM} {st : List Value} {ls : qxL} : Rs L xs (d) 23 10 ls st M x = Rs L xs (d) 23 11 ls (.int (-1) :: st) M x := Rs_next c23_10 rfl
theorem c23_11 : qx_code 23 11 = some (11, .if_icmp .ne 5, 14, 16, 0, 0) := by decide +kernel
theorem s23_11 {L : Nat} {xs : Nat → Int32} {d x : Nat} {M : qxM} {st : List Value} {ls : qxL} {z y : Int32} : Rs L xs (d) 23 11 ls (.int y :: .int z :: st) M x = if z = y then Rs L xs (d) 23 14 ls st M x else Rs L xs (d) 23 16 ls st M x := Rs_ite c23_11 rfl
theorem c23_14 : qx_code 23 14 = some (14, .iconst 1, 15, 0, 0, 0) := by decide +kernel
theorem s23_14 {L : Nat} {xs : Nat → Int32} {d x : Nat} {M : qxM} {st : List Value} {ls : qxL} : Rs L xs (d) 23 14 ls st M x = Rs L xs (d) 23 15 ls (.int (nI 1) :: st) M x := Rs_next c23_14 rfl
theorem c23_15 : qx_code 23 15 = some (15, .ireturn, 16, 0, 0, 0) := by decide +kernel
theorem s23_15 {L : Nat} {xs : Nat → Int32} {d x : Nat} {M : qxM} {ls : qxL} {z : Int32} : Rs L xs (d) 23 15 ls [.int z] M x = some (.inl (some (.int z)), M, x) := Rs_ret c23_15 rfl
theorem c23_16 : qx_code 23 16 = some (16, .iload_n 1, 17, 0, 0, 0) := by decide +kernel
theorem s23_16 {L : Nat} {xs : Nat → Int32} {d x : Nat} {M : qxM} {st : List Value} {a0 a2 a3 a4 a5 a6 : Option Value} {z : Int32} : Rs L xs (d) 23 16 [a0, some (.int z), a2, a3, a4, a5, a6] st M x = Rs L xs (d) 23 17 [a0, some (.int z), a2, a3, a4, a5, a6] (.int z :: st) M x := Rs_next c23_16 rfl
theorem c23_17 : qx_code 23 17 = some (17, .ifCond .ne 7, 20, 24, 0, 0) := by decide +kernel
theorem s23_17 {L : Nat} {xs : Nat → Int32} {d x : Nat} {M : qxM} {st : List Value} {ls : qxL} {z : Int32} : Rs L xs (d) 23 17 ls (.int z :: st) M x = if z = 0 then Rs L xs (d) 23 20 ls st M x else Rs L xs (d) 23 24 ls st M x := Rs_ite c23_17 rfl
theorem c23_20 : qx_code 23 20 = some (20, .iconst 1, 21, 0, 0, 0) := by decide +kernel
theorem s23_20 {L : Nat} {xs : Nat → Int32} {d x : Nat} {M : qxM} {st : List Value} {ls : qxL} : Rs L xs (d) 23 20 ls st M x = Rs L xs (d) 23 21 ls (.int (nI 1) :: st) M x := Rs_next c23_20 rfl
theorem c23_21 : qx_code 23 21 = some (21, .goto 13, 24, 34, 0, 0) := by decide +kernel
theorem s23_21 {L : Nat} {xs : Nat → Int32} {d x : Nat} {M : qxM} {st : List Value} {ls : qxL} : Rs L xs (d) 23 21 ls st M x = Rs L xs (d) 23 34 ls st M x := Rs_next c23_21 rfl
theorem c23_24 : qx_code 23 24 = some (24, .iload_n 1, 25, 0, 0, 0) := by decide +kernel
theorem s23_24 {L : Nat} {xs : Nat → Int32} {d x : Nat} {M : qxM} {st : List Value} {a0 a2 a3 a4 a5 a6 : Option Value} {z : Int32} : Rs L xs (d) 23 24 [a0, some (.int z), a2, a3, a4, a5, a6] st M x = Rs L xs (d) 23 25 [a0, some (.int z), a2, a3, a4, a5, a6] (.int z :: st) M x := Rs_next c23_24 rfl
theorem c23_25 : qx_code 23 25 = some (25, .iconst 2, 26, 0, 0, 0) := by decide +kernel
theorem s23_25 {L : Nat} {xs : Nat → Int32} {d x : Nat} {M : qxM} {st : List Value} {ls : qxL} : Rs L xs (d) 23 25 ls st M x = Rs L xs (d) 23 26 ls (.int (nI 2) :: st) M x := Rs_next c23_25 rfl
theorem c23_26 : qx_code 23 26 = some (26, .if_icmp .ne 7, 29, 33, 0, 0) := by decide +kernel
theorem s23_26 {L : Nat} {xs : Nat → Int32} {d x : Nat} {M : qxM} {st : List Value} {ls : qxL} {z y : Int32} : Rs L xs (d) 23 26 ls (.int y :: .int z :: st) M x = if z = y then Rs L xs (d) 23 29 ls st M x else Rs L xs (d) 23 33 ls st M x := Rs_ite c23_26 rfl
theorem c23_29 : qx_code 23 29 = some (29, .iconst 3, 30, 0, 0, 0) := by decide +kernel
theorem s23_29 {L : Nat} {xs : Nat → Int32} {d x : Nat} {M : qxM} {st : List Value} {ls : qxL} : Rs L xs (d) 23 29 ls st M x = Rs L xs (d) 23 30 ls (.int (nI 3) :: st) M x := Rs_next c23_29 rfl
theorem c23_30 : qx_code 23 30 = some (30, .goto 4, 33, 34, 0, 0) := by decide +kernel
theorem s23_30 {L : Nat} {xs : Nat → Int32} {d x : Nat} {M : qxM} {st : List Value} {ls : qxL} : Rs L xs (d) 23 30 ls st M x = Rs L xs (d) 23 34 ls st M x := Rs_next c23_30 rfl
theorem c23_33 : qx_code 23 33 = some (33, .iconst 2, 34, 0, 0, 0) := by decide +kernel
theorem s23_33 {L : Nat} {xs : Nat → Int32} {d x : Nat} {M : qxM} {st : List Value} {ls : qxL} : Rs L xs (d) 23 33 ls st M x = Rs L xs (d) 23 34 ls (.int (nI 2) :: st) M x := Rs_next c23_33 rfl
theorem c23_34 : qx_code 23 34 = some (34, .istore_n 2, 35, 0, 0, 0) := by decide +kernel
theorem s23_34i {L : Nat} {xs : Nat → Int32} {d x : Nat} {M : qxM} {st : List Value} {a0 a2 a3 a4 a5 a6 : Option Value} {z : Int32} {y : Int32} : Rs L xs (d) 23 34 [a0, some (.int y), a2, a3, a4, a5, a6] (.int z :: st) M x = Rs L xs (d) 23 35 [a0, some (.int y), some (.int z), a3, a4, a5, a6] st M x := Rs_next c23_34 rfl
theorem s23_34r {L : Nat} {xs : Nat → Int32} {d x : Nat} {M : qxM} {st : List Value} {a0 a2 a3 a4 a5 a6 : Option Value} {z : Int32} {y : Nat} : Rs L xs (d) 23 34 [a0, some (.ref y), a2, a3, a4, a5, a6] (.int z :: st) M x = Rs L xs (d) 23 35 [a0, some (.ref y), some (.int z), a3, a4, a5, a6] st M x := Rs_next c23_34 rfl
theorem s23_34n {L : Nat} {xs : Nat → Int32} {d x : Nat} {M : qxM} {st : List Value} {a0 a2 a3 a4 a5 a6 : Option Value} {z : Int32} : Rs L xs (d) 23 34 [a0, none, a2, a3, a4, a5, a6] (.int z :: st) M x = Rs L xs (d) 23 35 [a0, none, some (.int z), a3, a4, a5, a6] st M x := Rs_next c23_34 rfl
theorem c23_35 : qx_code 23 35 = some (35, .iload_n 1, 36, 0, 0, 0) := by decide +kernel
theorem s23_35 {L : Nat} {xs : Nat → Int32} {d x : Nat} {M : qxM} {st : List Value} {a0 a2 a3 a4 a5 a6 : Option Value} {z : Int32} : Rs L xs (d) 23 35 [a0, some (.int z), a2, a3, a4, a5, a6] st M x = Rs L xs (d) 23 36 [a0, some (.int z), a2, a3, a4, a5, a6] (.int z :: st) M x := Rs_next c23_35 rfl
theorem c23_36 : qx_code 23 36 = some (36, .iconst 3, 37, 0, 0, 0) := by decide +kernel
theorem s23_36 {L : Nat} {xs : Nat → Int32} {d x : Nat} {M : qxM} {st : List Value} {ls : qxL} : Rs L xs (d) 23 36 ls st M x = Rs L xs (d) 23 37 ls (.int (nI 3) :: st) M x := Rs_next c23_36 rfl
theorem c23_37 : qx_code 23 37 = some (37, .if_icmp .ne 7, 40, 44, 0, 0) := by decide +kernel
theorem s23_37 {L : Nat} {xs : Nat → Int32} {d x : Nat} {M : qxM} {st : List Value} {ls : qxL} {z y : Int32} : Rs L xs (d) 23 37 ls (.int y :: .int z :: st) M x = if z = y then Rs L xs (d) 23 40 ls st M x else Rs L xs (d) 23 44 ls st M x := Rs_ite c23_37 rfl
theorem c23_40 : qx_code 23 40 = some (40, .iconst 2, 41, 0, 0, 0) := by decide +kernel
theorem s23_40 {L : Nat} {xs : Nat → Int32} {d x : Nat} {M : qxM} {st : List Value} {ls : qxL} : Rs L xs (d) 23 40 ls st M x = Rs L xs (d) 23 41 ls (.int (nI 2) :: st) M x := Rs_next c23_40 rfl
theorem c23_41 : qx_code 23 41 = some (41, .goto 6, 44, 47, 0, 0) := by decide +kernel
theorem s23_41 {L : Nat} {xs : Nat → Int32} {d x : Nat} {M : qxM} {st : List Value} {ls : qxL} : Rs L xs (d) 23 41 ls st M x = Rs L xs (d) 23 47 ls st M x := Rs_next c23_41 rfl
theorem c23_44 : qx_code 23 44 = some (44, .sipush 500, 47, 0, 0, 0) := by decide +kernel
theorem s23_44 {L : Nat} {xs : Nat → Int32} {d x : Nat} {M : qxM} {st : List Value} {ls : qxL} : Rs L xs (d) 23 44 ls st M x = Rs L xs (d) 23 47 ls (.int (nI 500) :: st) M x := Rs_next c23_44 rfl
theorem c23_47 : qx_code 23 47 = some (47, .istore_n 3, 48, 0, 0, 0) := by decide +kernel
theorem s23_47i {L : Nat} {xs : Nat → Int32} {d x : Nat} {M : qxM} {st : List Value} {a0 a1 a3 a4 a5 a6 : Option Value} {z : Int32} {y : Int32} : Rs L xs (d) 23 47 [a0, a1, some (.int y), a3, a4, a5, a6] (.int z :: st) M x = Rs L xs (d) 23 48 [a0, a1, some (.int y), some (.int z), a4, a5, a6] st M x := Rs_next c23_47 rfl
theorem s23_47r {L : Nat} {xs : Nat → Int32} {d x : Nat} {M : qxM} {st : List Value} {a0 a1 a3 a4 a5 a6 : Option Value} {z : Int32} {y : Nat} : Rs L xs (d) 23 47 [a0, a1, some (.ref y), a3, a4, a5, a6] (.int z :: st) M x = Rs L xs (d) 23 48 [a0, a1, some (.ref y), some (.int z), a4, a5, a6] st M x := Rs_next c23_47 rfl
theorem s23_47n {L : Nat} {xs : Nat → Int32} {d x : Nat} {M : qxM} {st : List Value} {a0 a1 a3 a4 a5 a6 : Option Value} {z : Int32} : Rs L xs (d) 23 47 [a0, a1, none, a3, a4, a5, a6] (.int z :: st) M x = Rs L xs (d) 23 48 [a0, a1, none, some (.int z), a4, a5, a6] st M x := Rs_next c23_47 rfl
theorem c23_48 : qx_code 23 48 = some (48, .iconst 0, 49, 0, 0, 0) := by decide +kernel
theorem s23_48 {L : Nat} {xs : Nat → Int32} {d x : Nat} {M : qxM} {st : List Value} {ls : qxL} : Rs L xs (d) 23 48 ls st M x = Rs L xs (d) 23 49 ls (.int (nI 0) :: st) M x := Rs_next c23_48 rfl
theorem c23_49 : qx_code 23 49 = some (49, .istore 4, 51, 0, 0, 0) := by decide +kernel
theorem s23_49i {L : Nat} {xs : Nat → Int32} {d x : Nat} {M : qxM} {st : List Value} {a0 a1 a2 a4 a5 a6 : Option Value} {z : Int32} {y : Int32} : Rs L xs (d) 23 49 [a0, a1, a2, some (.int y), a4, a5, a6] (.int z :: st) M x = Rs L xs (d) 23 51 [a0, a1, a2, some (.int y), some (.int z), a5, a6] st M x := Rs_next c23_49 rfl
theorem s23_49r {L : Nat} {xs : Nat → Int32} {d x : Nat} {M : qxM} {st : List Value} {a0 a1 a2 a4 a5 a6 : Option Value} {z : Int32} {y : Nat} : Rs L xs (d) 23 49 [a0, a1, a2, some (.ref y), a4, a5, a6] (.int z :: st) M x = Rs L xs (d) 23 51 [a0, a1, a2, some (.ref y), some (.int z), a5, a6] st M x := Rs_next c23_49 rfl
theorem s23_49n {L : Nat} {xs : Nat → Int32} {d x : Nat} {M : qxM} {st : List Value} {a0 a1 a2 a4 a5 a6 : Option Value} {z : Int32} : Rs L xs (d) 23 49 [a0, a1, a2, none, a4, a5, a6] (.int z :: st) M x = Rs L xs (d) 23 51 [a0, a1, a2, none, some (.int z), a5, a6] st M x := Rs_next c23_49 rfl
theorem c23_51 : qx_code 23 51 = some (51, .aload_n 0, 52, 0, 0, 0) := by decide +kernel
theorem s23_51 {L : Nat} {xs : Nat → Int32} {d x : Nat} {M : qxM} {st : List Value} {a1 a2 a3 a4 a5 a6 : Option Value} {z : Nat} : Rs L xs (d) 23 51 [some (.ref z), a1, a2, a3, a4, a5, a6] st M x = Rs L xs (d) 23 52 [some (.ref z), a1, a2, a3, a4, a5, a6] (.ref z :: st) M x := Rs_next c23_51 rfl
theorem c23_52 : qx_code 23 52 = some (52, .iconst 0, 53, 0, 0, 0) := by decide +kernel
theorem s23_52 {L : Nat} {xs : Nat → Int32} {d x : Nat} {M : qxM} {st : List Value} {ls : qxL} : Rs L xs (d) 23 52 ls st M x = Rs L xs (d) 23 53 ls (.int (nI 0) :: st) M x := Rs_next c23_52 rfl
theorem c23_53 : qx_code 23 53 = some (53, .putfield 82, 56, 1, 12, 204) := by decide +kernel
theorem s23_53 {L : Nat} {xs : Nat → Int32} {d x : Nat} {M : qxM} {st : List Value} {ls : qxL} {t : Nat} {z : Int32} (hk : qx_kd t = 11) : Rs L xs (d) 23 53 ls (.int z :: .ref t :: st) M x = Rs L xs (d) 23 56 ls st (qx_up M t 12 z) x := Rs_when (cnd := qx_sh t = some (.inl 1) ∧ qx_fo 1 12 = none ∧ (qx_bf 1 12 = true → z = 0 ∨ z = 1)) ⟨qx_kd_obj (k := 1) (by decide) hk, rfl, fun h => nomatch h⟩ c23_53 rfl
theorem c23_56 : qx_code 23 56 = some (56, .aload_n 0, 57, 0, 0, 0) := by decide +kernel
theorem s23_56 {L : Nat} {xs : Nat → Int32} {d x : Nat} {M : qxM} {st : List Value} {a1 a2 a3 a4 a5 a6 : Option Value} {z : Nat} : Rs L xs (d) 23 56 [some (.ref z), a1, a2, a3, a4, a5, a6] st M x = Rs L xs (d) 23 57 [some (.ref z), a1, a2, a3, a4, a5, a6] (.ref z :: st) M x := Rs_next c23_56 rfl
theorem c23_57 : qx_code 23 57 = some (57, .invokevirtual 57, 60, 28, 1, 534) := by decide +kernel
theorem s23_57 {L : Nat} {xs : Nat → Int32} {d x : Nat} {M : qxM} {st : List Value} {ls : qxL} {t : Nat} (hk : qx_kd t = 11) (hs : st.length ≤ 4) : Rs L xs (d + 1) 23 57 ls (.ref t :: st) M x = (Rs L xs d 28 0 [some (.ref t)] [] M 0).bind (qx_kn L xs (d + 1) 23 57 60 28 ls st x) := by
  have h1 : qx_act L xs (qx_rt 23) (57, .invokevirtual 57, 60, 28, 1, 534) ls (.ref t :: st) M = if 1 ≤ (.ref t :: st).length ∧ st.length ≤ 4 then some (.inr (.inr (.inr (28, [.ref t], st)))) else none := rfl
  rw [if_pos ⟨by simp [List.length_cons]; try omega, hs⟩] at h1
  have h2 := qx_kd_obj (k := 1) (by decide) hk
  exact Rs_call c23_57 h1 (by rw [show qx_args 28 [.ref t] = decide (qx_sh t = some (.inl 1)) from rfl]; exact decide_eq_true h2)
theorem c23_60 : qx_code 23 60 = some (60, .iconst 0, 61, 0, 0, 0) := by decide +kernel
theorem s23_60 {L : Nat} {xs : Nat → Int32} {d x : Nat} {M : qxM} {st : List Value} {ls : qxL} : Rs L xs (d) 23 60 ls st M x = Rs L xs (d) 23 61 ls (.int (nI 0) :: st) M x := Rs_next c23_60 rfl
theorem c23_61 : qx_code 23 61 = some (61, .istore 5, 63, 0, 0, 0) := by decide +kernel
theorem s23_61i {L : Nat} {xs : Nat → Int32} {d x : Nat} {M : qxM} {st : List Value} {a0 a1 a2 a3 a5 a6 : Option Value} {z : Int32} {y : Int32} : Rs L xs (d) 23 61 [a0, a1, a2, a3, some (.int y), a5, a6] (.int z :: st) M x = Rs L xs (d) 23 63 [a0, a1, a2, a3, some (.int y), some (.int z), a6] st M x := Rs_next c23_61 rfl
theorem s23_61r {L : Nat} {xs : Nat → Int32} {d x : Nat} {M : qxM} {st : List Value} {a0 a1 a2 a3 a5 a6 : Option Value} {z : Int32} {y : Nat} : Rs L xs (d) 23 61 [a0, a1, a2, a3, some (.ref y), a5, a6] (.int z :: st) M x = Rs L xs (d) 23 63 [a0, a1, a2, a3, some (.ref y), some (.int z), a6] st M x := Rs_next c23_61 rfl
theorem s23_61n {L : Nat} {xs : Nat → Int32} {d x : Nat} {M : qxM} {st : List Value} {a0 a1 a2 a3 a5 a6 : Option Value} {z : Int32} : Rs L xs (d) 23 61 [a0, a1, a2, a3, none, a5, a6] (.int z :: st) M x = Rs L xs (d) 23 63 [a0, a1, a2, a3, none, some (.int z), a6] st M x := Rs_next c23_61 rfl
theorem c23_63 : qx_code 23 63 = some (63, .iload 5, 65, 0, 0, 0) := by decide +kernel
theorem s23_63 {L : Nat} {xs : Nat → Int32} {d x : Nat} {M : qxM} {st : List Value} {a0 a1 a2 a3 a4 a6 : Option Value} {z : Int32} : Rs L xs (d) 23 63 [a0, a1, a2, a3, a4, some (.int z), a6] st M x = Rs L xs (d) 23 65 [a0, a1, a2, a3, a4, some (.int z), a6] (.int z :: st) M x := Rs_next c23_63 rfl
theorem c23_65 : qx_code 23 65 = some (65, .iload_n 3, 66, 0, 0, 0) := by decide +kernel
theorem s23_65 {L : Nat} {xs : Nat → Int32} {d x : Nat} {M : qxM} {st : List Value} {a0 a1 a2 a4 a5 a6 : Option Value} {z : Int32} : Rs L xs (d) 23 65 [a0, a1, a2, some (.int z), a4, a5, a6] st M x = Rs L xs (d) 23 66 [a0, a1, a2, some (.int z), a4, a5, a6] (.int z :: st) M x := Rs_next c23_65 rfl
theorem c23_66 : qx_code 23 66 = some (66, .if_icmp .ge 69, 69, 135, 0, 0) := by decide +kernel
theorem s23_66 {L : Nat} {xs : Nat → Int32} {d x : Nat} {M : qxM} {st : List Value} {ls : qxL} {z y : Int32} : Rs L xs (d) 23 66 ls (.int y :: .int z :: st) M x = if y ≤ z then Rs L xs (d) 23 135 ls st M x else Rs L xs (d) 23 69 ls st M x := Rs_ite c23_66 rfl
theorem c23_69 : qx_code 23 69 = some (69, .aload_n 0, 70, 0, 0, 0) := by decide +kernel
theorem s23_69 {L : Nat} {xs : Nat → Int32} {d x : Nat} {M : qxM} {st : List Value} {a1 a2 a3 a4 a5 a6 : Option Value} {z : Nat} : Rs L xs (d) 23 69 [some (.ref z), a1, a2, a3, a4, a5, a6] st M x = Rs L xs (d) 23 70 [some (.ref z), a1, a2, a3, a4, a5, a6] (.ref z :: st) M x := Rs_next c23_69 rfl
theorem c23_70 : qx_code 23 70 = some (70, .getfield 45, 73, 1, 7, 199) := by decide +kernel
theorem s23_70 {L : Nat} {xs : Nat → Int32} {d x : Nat} {M : qxM} {st : List Value} {ls : qxL} {t : Nat} (hk : qx_kd t = 11) : Rs L xs (d) 23 70 ls (.ref t :: st) M x = Rs L xs (d) 23 73 ls (.int (M.1 t 7) :: st) M x := Rs_when (qx_kd_obj (k := 1) (by decide) hk) c23_70 rfl
theorem c23_73 : qx_code 23 73 = some (73, .iconst 2, 74, 0, 0, 0) := by decide +kernel
theorem s23_73 {L : Nat} {xs : Nat → Int32} {d x : Nat} {M : qxM} {st : List Value} {ls : qxL} : Rs L xs (d) 23 73 ls st M x = Rs L xs (d) 23 74 ls (.int (nI 2) :: st) M x := Rs_next c23_73 rfl
theorem c23_74 : qx_code 23 74 = some (74, .if_icmp .ne 61, 77, 135, 0, 0) := by decide +kernel
theorem s23_74 {L : Nat} {xs : Nat → Int32} {d x : Nat} {M : qxM} {st : List Value} {ls : qxL} {z y : Int32} : Rs L xs (d) 23 74 ls (.int y :: .int z :: st) M x = if z = y then Rs L xs (d) 23 77 ls st M x else Rs L xs (d) 23 135 ls st M x := Rs_ite c23_74 rfl
theorem c23_77 : qx_code 23 77 = some (77, .aload_n 0, 78, 0, 0, 0) := by decide +kernel
theorem s23_77 {L : Nat} {xs : Nat → Int32} {d x : Nat} {M : qxM} {st : List Value} {a1 a2 a3 a4 a5 a6 : Option Value} {z : Nat} : Rs L xs (d) 23 77 [some (.ref z), a1, a2, a3, a4, a5, a6] st M x = Rs L xs (d) 23 78 [some (.ref z), a1, a2, a3, a4, a5, a6] (.ref z :: st) M x := Rs_next c23_77 rfl
theorem c23_78 : qx_code 23 78 = some (78, .iconst 0, 79, 0, 0, 0) := by decide +kernel
theorem s23_78 {L : Nat} {xs : Nat → Int32} {d x : Nat} {M : qxM} {st : List Value} {ls : qxL} : Rs L xs (d) 23 78 ls st M x = Rs L xs (d) 23 79 ls (.int (nI 0) :: st) M x := Rs_next c23_78 rfl
theorem c23_79 : qx_code 23 79 = some (79, .aload_n 0, 80, 0, 0, 0) := by decide +kernel
theorem s23_79 {L : Nat} {xs : Nat → Int32} {d x : Nat} {M : qxM} {st : List Value} {a1 a2 a3 a4 a5 a6 : Option Value} {z : Nat} : Rs L xs (d) 23 79 [some (.ref z), a1, a2, a3, a4, a5, a6] st M x = Rs L xs (d) 23 80 [some (.ref z), a1, a2, a3, a4, a5, a6] (.ref z :: st) M x := Rs_next c23_79 rfl
theorem c23_80 : qx_code 23 80 = some (80, .getfield 18, 83, 1, 1, 189) := by decide +kernel
theorem s23_80 {L : Nat} {xs : Nat → Int32} {d x : Nat} {M : qxM} {st : List Value} {ls : qxL} {t : Nat} (hk : qx_kd t = 11) : Rs L xs (d) 23 80 ls (.ref t :: st) M x = Rs L xs (d) 23 83 ls (.ref (t + 2) :: st) M x := Rs_when (qx_kd_obj (k := 1) (by decide) hk) c23_80 rfl
theorem c23_83 : qx_code 23 83 = some (83, .getfield 73, 86, 2, 0, 167) := by decide +kernel
theorem s23_83 {L : Nat} {xs : Nat → Int32} {d x : Nat} {M : qxM} {st : List Value} {ls : qxL} {t : Nat} (hk : qx_kd t = 12) : Rs L xs (d) 23 83 ls (.ref t :: st) M x = Rs L xs (d) 23 86 ls (.int (M.1 t 0) :: st) M x := Rs_when (qx_kd_obj (k := 2) (by decide) hk) c23_83 rfl
theorem c23_86 : qx_code 23 86 = some (86, .iconst 1, 87, 0, 0, 0) := by decide +kernel
theorem s23_86 {L : Nat} {xs : Nat → Int32} {d x : Nat} {M : qxM} {st : List Value} {ls : qxL} : Rs L xs (d) 23 86 ls st M x = Rs L xs (d) 23 87 ls (.int (nI 1) :: st) M x := Rs_next c23_86 rfl
theorem c23_87 : qx_code 23 87 = some (87, .isub, 88, 0, 0, 0) := by decide +kernel
theorem s23_87 {L : Nat} {xs : Nat → Int32} {d x : Nat} {M : qxM} {st : List Value} {ls : qxL} {z y : Int32} : Rs L xs (d) 23 87 ls (.int y :: .int z :: st) M x = Rs L xs (d) 23 88 ls (.int (z - y) :: st) M x := Rs_next c23_87 rfl
theorem c23_88 : qx_code 23 88 = some (88, .invokevirtual 66, 91, 27, 3, 607) := by decide +kernel
theorem s23_88 {L : Nat} {xs : Nat → Int32} {d x : Nat} {M : qxM} {st : List Value} {ls : qxL} {t : Nat} {z0 : Int32} {z1 : Int32} (hk : qx_kd t = 11) (hs : st.length ≤ 4) : Rs L xs (d + 1) 23 88 ls (.int z1 :: .int z0 :: .ref t :: st) M x = (Rs L xs d 27 0 [some (.ref t), some (.int z0), some (.int z1)] [] M 0).bind (qx_kn L xs (d + 1) 23 88 91 27 ls st x) := by
  have h1 : qx_act L xs (qx_rt 23) (88, .invokevirtual 66, 91, 27, 3, 607) ls (.int z1 :: .int z0 :: .ref t :: st) M = if 3 ≤ (.int z1 :: .int z0 :: .ref t :: st).length ∧ st.length ≤ 4 then some (.inr (.inr (.inr (27, [.ref t, .int z0, .int z1], st)))) else none := rfl
  rw [if_pos ⟨by simp [List.length_cons]; try omega, hs⟩] at h1
  have h2 := qx_kd_obj (k := 1) (by decide) hk
  exact Rs_call c23_88 h1 (by rw [show qx_args 27 [.ref t, .int z0, .int z1] = decide (qx_sh t = some (.inl 1)) from rfl]; exact decide_eq_true h2)
theorem c23_91 : qx_code 23 91 = some (91, .istore 6, 93, 0, 0, 0) := by decide +kernel
theorem s23_91i {L : Nat} {xs : Nat → Int32} {d x : Nat} {M : qxM} {st : List Value} {a0 a1 a2 a3 a4 a6 : Option Value} {z : Int32} {y : Int32} : Rs L xs (d) 23 91 [a0, a1, a2, a3, a4, some (.int y), a6] (.int z :: st) M x = Rs L xs (d) 23 93 [a0, a1, a2, a3, a4, some (.int y), some (.int z)] st M x := Rs_next c23_91 rfl
theorem s23_91r {L : Nat} {xs : Nat → Int32} {d x : Nat} {M : qxM} {st : List Value} {a0 a1 a2 a3 a4 a6 : Option Value} {z : Int32} {y : Nat} : Rs L xs (d) 23 91 [a0, a1, a2, a3, a4, some (.ref y), a6] (.int z :: st) M x = Rs L xs (d) 23 93 [a0, a1, a2, a3, a4, some (.ref y), some (.int z)] st M x := Rs_next c23_91 rfl
theorem s23_91n {L : Nat} {xs : Nat → Int32} {d x : Nat} {M : qxM} {st : List Value} {a0 a1 a2 a3 a4 a6 : Option Value} {z : Int32} : Rs L xs (d) 23 91 [a0, a1, a2, a3, a4, none, a6] (.int z :: st) M x = Rs L xs (d) 23 93 [a0, a1, a2, a3, a4, none, some (.int z)] st M x := Rs_next c23_91 rfl
theorem c23_93 : qx_code 23 93 = some (93, .iload 6, 95, 0, 0, 0) := by decide +kernel
theorem s23_93 {L : Nat} {xs : Nat → Int32} {d x : Nat} {M : qxM} {st : List Value} {a0 a1 a2 a3 a4 a5 : Option Value} {z : Int32} : Rs L xs (d) 23 93 [a0, a1, a2, a3, a4, a5, some (.int z)] st M x = Rs L xs (d) 23 95 [a0, a1, a2, a3, a4, a5, some (.int z)] (.int z :: st) M x := Rs_next c23_93 rfl
theorem c23_95 : qx_code 23 95 = some (95, .ifCond .ne 12, 98, 107, 0, 0) := by decide +kernel
theorem s23_95 {L : Nat} {xs : Nat → Int32} {d x : Nat} {M : qxM} {st : List Value} {ls : qxL} {z : Int32} : Rs L xs (d) 23 95 ls (.int z :: st) M x = if z = 0 then Rs L xs (d) 23 98 ls st M x else Rs L xs (d) 23 107 ls st M x := Rs_ite c23_95 rfl
theorem c23_98 : qx_code 23 98 = some (98, .aload_n 0, 99, 0, 0, 0) := by decide +kernel
theorem s23_98 {L : Nat} {xs : Nat → Int32} {d x : Nat} {M : qxM} {st : List Value} {a1 a2 a3 a4 a5 a6 : Option Value} {z : Nat} : Rs L xs (d) 23 98 [some (.ref z), a1, a2, a3, a4, a5, a6] st M x = Rs L xs (d) 23 99 [some (.ref z), a1, a2, a3, a4, a5, a6] (.ref z :: st) M x := Rs_next c23_98 rfl
theorem c23_99 : qx_code 23 99 = some (99, .iload_n 1, 100, 0, 0, 0) := by decide +kernel
theorem s23_99 {L : Nat} {xs : Nat → Int32} {d x : Nat} {M : qxM} {st : List Value} {a0 a2 a3 a4 a5 a6 : Option Value} {z : Int32} : Rs L xs (d) 23 99 [a0, some (.int z), a2, a3, a4, a5, a6] st M x = Rs L xs (d) 23 100 [a0, some (.int z), a2, a3, a4, a5, a6] (.int z :: st) M x := Rs_next c23_99 rfl
theorem c23_100 : qx_code 23 100 = some (100, .iload 5, 102, 0, 0, 0) := by decide +kernel
theorem s23_100 {L : Nat} {xs : Nat → Int32} {d x : Nat} {M : qxM} {st : List Value} {a0 a1 a2 a3 a4 a6 : Option Value} {z : Int32} : Rs L xs (d) 23 100 [a0, a1, a2, a3, a4, some (.int z), a6] st M x = Rs L xs (d) 23 102 [a0, a1, a2, a3, a4, some (.int z), a6] (.int z :: st) M x := Rs_next c23_100 rfl
theorem c23_102 : qx_code 23 102 = some (102, .invokevirtual 85, 105, 25, 3, 623) := by decide +kernel
theorem s23_102 {L : Nat} {xs : Nat → Int32} {d x : Nat} {M : qxM} {st : List Value} {ls : qxL} {t : Nat} {z0 : Int32} {z1 : Int32} (hk : qx_kd t = 11) (hs : st.length ≤ 4) : Rs L xs (d + 1) 23 102 ls (.int z1 :: .int z0 :: .ref t :: st) M x = (Rs L xs d 25 0 [some (.ref t), some (.int z0), some (.int z1), none, none] [] M 0).bind (qx_kn L xs (d + 1) 23 102 105 25 ls st x) := by
  have h1 : qx_act L xs (qx_rt 23) (102, .invokevirtual 85, 105, 25, 3, 623) ls (.int z1 :: .int z0 :: .ref t :: st) M = if 3 ≤ (.int z1 :: .int z0 :: .ref t :: st).length ∧ st.length ≤ 4 then some (.inr (.inr (.inr (25, [.ref t, .int z0, .int z1], st)))) else none := rfl
  rw [if_pos ⟨by simp [List.length_cons]; try omega, hs⟩] at h1
  have h2 := qx_kd_obj (k := 1) (by decide) hk
  exact Rs_call c23_102 h1 (by rw [show qx_args 25 [.ref t, .int z0, .int z1] = decide (qx_sh t = some (.inl 1)) from rfl]; exact decide_eq_true h2)
theorem c23_105 : qx_code 23 105 = some (105, .istore 6, 107, 0, 0, 0) := by decide +kernel
theorem s23_105i {L : Nat} {xs : Nat → Int32} {d x : Nat} {M : qxM} {st : List Value} {a0 a1 a2 a3 a4 a6 : Option Value} {z : Int32} {y : Int32} : Rs L xs (d) 23 105 [a0, a1, a2, a3, a4, some (.int y), a6] (.int z :: st) M x = Rs L xs (d) 23 107 [a0, a1, a2, a3, a4, some (.int y), some (.int z)] st M x := Rs_next c23_105 rfl
theorem s23_105r {L : Nat} {xs : Nat → Int32} {d x : Nat} {M : qxM} {st : List Value} {a0 a1 a2 a3 a4 a6 : Option Value} {z : Int32} {y : Nat} : Rs L xs (d) 23 105 [a0, a1, a2, a3, a4, some (.ref y), a6] (.int z :: st) M x = Rs L xs (d) 23 107 [a0, a1, a2, a3, a4, some (.ref y), some (.int z)] st M x := Rs_next c23_105 rfl
theorem s23_105n {L : Nat} {xs : Nat → Int32} {d x : Nat} {M : qxM} {st : List Value} {a0 a1 a2 a3 a4 a6 : Option Value} {z : Int32} : Rs L xs (d) 23 105 [a0, a1, a2, a3, a4, none, a6] (.int z :: st) M x = Rs L xs (d) 23 107 [a0, a1, a2, a3, a4, none, some (.int z)] st M x := Rs_next c23_105 rfl
theorem c23_107 : qx_code 23 107 = some (107, .iload 6, 109, 0, 0, 0) := by decide +kernel
theorem s23_107 {L : Nat} {xs : Nat → Int32} {d x : Nat} {M : qxM} {st : List Value} {a0 a1 a2 a3 a4 a5 : Option Value} {z : Int32} : Rs L xs (d) 23 107 [a0, a1, a2, a3, a4, a5, some (.int z)] st M x = Rs L xs (d) 23 109 [a0, a1, a2, a3, a4, a5, some (.int z)] (.int z :: st) M x := Rs_next c23_107 rfl
theorem c23_109 : qx_code 23 109 = some (109, .ifCond .eq 6, 112, 115, 0, 0) := by decide +kernel
theorem s23_109 {L : Nat} {xs : Nat → Int32} {d x : Nat} {M : qxM} {st : List Value} {ls : qxL} {z : Int32} : Rs L xs (d) 23 109 ls (.int z :: st) M x = if z = 0 then Rs L xs (d) 23 115 ls st M x else Rs L xs (d) 23 112 ls st M x := Rs_ite c23_109 rfl
theorem c23_112 : qx_code 23 112 = some (112, .iload 6, 114, 0, 0, 0) := by decide +kernel
theorem s23_112 {L : Nat} {xs : Nat → Int32} {d x : Nat} {M : qxM} {st : List Value} {a0 a1 a2 a3 a4 a5 : Option Value} {z : Int32} : Rs L xs (d) 23 112 [a0, a1, a2, a3, a4, a5, some (.int z)] st M x = Rs L xs (d) 23 114 [a0, a1, a2, a3, a4, a5, some (.int z)] (.int z :: st) M x := Rs_next c23_112 rfl
theorem c23_114 : qx_code 23 114 = some (114, .ireturn, 115, 0, 0, 0) := by decide +kernel
theorem s23_114 {L : Nat} {xs : Nat → Int32} {d x : Nat} {M : qxM} {ls : qxL} {z : Int32} : Rs L xs (d) 23 114 ls [.int z] M x = some (.inl (some (.int z)), M, x) := Rs_ret c23_114 rfl
theorem c23_115 : qx_code 23 115 = some (115, .aload_n 0, 116, 0, 0, 0) := by decide +kernel
theorem s23_115 {L : Nat} {xs : Nat → Int32} {d x : Nat} {M : qxM} {st : List Value} {a1 a2 a3 a4 a5 a6 : Option Value} {z : Nat} : Rs L xs (d) 23 115 [some (.ref z), a1, a2, a3, a4, a5, a6] st M x = Rs L xs (d) 23 116 [some (.ref z), a1, a2, a3, a4, a5, a6] (.ref z :: st) M x := Rs_next c23_115 rfl
theorem c23_116 : qx_code 23 116 = some (116, .iload_n 1, 117, 0, 0, 0) := by decide +kernel
theorem s23_116 {L : Nat} {xs : Nat → Int32} {d x : Nat} {M : qxM} {st : List Value} {a0 a2 a3 a4 a5 a6 : Option Value} {z : Int32} : Rs L xs (d) 23 116 [a0, some (.int z), a2, a3, a4, a5, a6] st M x = Rs L xs (d) 23 117 [a0, some (.int z), a2, a3, a4, a5, a6] (.int z :: st) M x := Rs_next c23_116 rfl
theorem c23_117 : qx_code 23 117 = some (117, .iload 5, 119, 0, 0, 0) := by decide +kernel
theorem s23_117 {L : Nat} {xs : Nat → Int32} {d x : Nat} {M : qxM} {st : List Value} {a0 a1 a2 a3 a4 a6 : Option Value} {z : Int32} : Rs L xs (d) 23 117 [a0, a1, a2, a3, a4, some (.int z), a6] st M x = Rs L xs (d) 23 119 [a0, a1, a2, a3, a4, some (.int z), a6] (.int z :: st) M x := Rs_next c23_117 rfl
theorem c23_119 : qx_code 23 119 = some (119, .invokevirtual 88, 122, 26, 3, 651) := by decide +kernel
theorem s23_119 {L : Nat} {xs : Nat → Int32} {d x : Nat} {M : qxM} {st : List Value} {ls : qxL} {t : Nat} {z0 : Int32} {z1 : Int32} (hk : qx_kd t = 11) (hs : st.length ≤ 4) : Rs L xs (d + 1) 23 119 ls (.int z1 :: .int z0 :: .ref t :: st) M x = (Rs L xs d 26 0 [some (.ref t), some (.int z0), some (.int z1)] [] M 0).bind (qx_kn L xs (d + 1) 23 119 122 26 ls st x) := by
  have h1 : qx_act L xs (qx_rt 23) (119, .invokevirtual 88, 122, 26, 3, 651) ls (.int z1 :: .int z0 :: .ref t :: st) M = if 3 ≤ (.int z1 :: .int z0 :: .ref t :: st).length ∧ st.length ≤ 4 then some (.inr (.inr (.inr (26, [.ref t, .int z0, .int z1], st)))) else none := rfl
  rw [if_pos ⟨by simp [List.length_cons]; try omega, hs⟩] at h1
  have h2 := qx_kd_obj (k := 1) (by decide) hk
  exact Rs_call c23_119 h1 (by rw [show qx_args 26 [.ref t, .int z0, .int z1] = decide (qx_sh t = some (.inl 1)) from rfl]; exact decide_eq_true h2)
theorem c23_122 : qx_code 23 122 = some (122, .iinc 4 1, 125, 0, 0, 0) := by decide +kernel
theorem s23_122i {L : Nat} {xs : Nat → Int32} {d x : Nat} {M : qxM} {st : List Value} {a0 a1 a2 a5 a6 : Option Value} {z : Int32} {y : Int32} : Rs L xs (d) 23 122 [a0, a1, a2, some (.int y), some (.int z), a5, a6] st M x = Rs L xs (d) 23 125 [a0, a1, a2, some (.int y), some (.int (z + (nI 1))), a5, a6] st M x := Rs_next c23_122 rfl
theorem s23_122r {L : Nat} {xs : Nat → Int32} {d x : Nat} {M : qxM} {st : List Value} {a0 a1 a2 a5 a6 : Option Value} {z : Int32} {y : Nat} : Rs L xs (d) 23 122 [a0, a1, a2, some (.ref y), some (.int z), a5, a6] st M x = Rs L xs (d) 23 125 [a0, a1, a2, some (.ref y), some (.int (z + (nI 1))), a5, a6] st M x := Rs_next c23_122 rfl
theorem s23_122n {L : Nat} {xs : Nat → Int32} {d x : Nat} {M : qxM} {st : List Value} {a0 a1 a2 a5 a6 : Option Value} {z : Int32} : Rs L xs (d) 23 122 [a0, a1, a2, none, some (.int z), a5, a6] st M x = Rs L xs (d) 23 125 [a0, a1, a2, none, some (.int (z + (nI 1))), a5, a6] st M x := Rs_next c23_122 rfl
theorem c23_125 : qx_code 23 125 = some (125, .aload_n 0, 126, 0, 0, 0) := by decide +kernel
theorem s23_125 {L : Nat} {xs : Nat → Int32} {d x : Nat} {M : qxM} {st : List Value} {a1 a2 a3 a4 a5 a6 : Option Value} {z : Nat} : Rs L xs (d) 23 125 [some (.ref z), a1, a2, a3, a4, a5, a6] st M x = Rs L xs (d) 23 126 [some (.ref z), a1, a2, a3, a4, a5, a6] (.ref z :: st) M x := Rs_next c23_125 rfl
theorem c23_126 : qx_code 23 126 = some (126, .invokevirtual 57, 129, 28, 1, 534) := by decide +kernel
theorem s23_126 {L : Nat} {xs : Nat → Int32} {d x : Nat} {M : qxM} {st : List Value} {ls : qxL} {t : Nat} (hk : qx_kd t = 11) (hs : st.length ≤ 4) : Rs L xs (d + 1) 23 126 ls (.ref t :: st) M x = (Rs L xs d 28 0 [some (.ref t)] [] M 0).bind (qx_kn L xs (d + 1) 23 126 129 28 ls st x) := by
  have h1 : qx_act L xs (qx_rt 23) (126, .invokevirtual 57, 129, 28, 1, 534) ls (.ref t :: st) M = if 1 ≤ (.ref t :: st).length ∧ st.length ≤ 4 then some (.inr (.inr (.inr (28, [.ref t], st)))) else none := rfl
  rw [if_pos ⟨by simp [List.length_cons]; try omega, hs⟩] at h1
  have h2 := qx_kd_obj (k := 1) (by decide) hk
  exact Rs_call c23_126 h1 (by rw [show qx_args 28 [.ref t] = decide (qx_sh t = some (.inl 1)) from rfl]; exact decide_eq_true h2)
theorem c23_129 : qx_code 23 129 = some (129, .iinc 5 1, 132, 0, 0, 0) := by decide +kernel
theorem s23_129i {L : Nat} {xs : Nat → Int32} {d x : Nat} {M : qxM} {st : List Value} {a0 a1 a2 a3 a6 : Option Value} {z : Int32} {y : Int32} : Rs L xs (d) 23 129 [a0, a1, a2, a3, some (.int y), some (.int z), a6] st M x = Rs L xs (d) 23 132 [a0, a1, a2, a3, some (.int y), some (.int (z + (nI 1))), a6] st M x := Rs_next c23_129 rfl
theorem s23_129r {L : Nat} {xs : Nat → Int32} {d x : Nat} {M : qxM} {st : List Value} {a0 a1 a2 a3 a6 : Option Value} {z : Int32} {y : Nat} : Rs L xs (d) 23 129 [a0, a1, a2, a3, some (.ref y), some (.int z), a6] st M x = Rs L xs (d) 23 132 [a0, a1, a2, a3, some (.ref y), some (.int (z + (nI 1))), a6] st M x := Rs_next c23_129 rfl
theorem s23_129n {L : Nat} {xs : Nat → Int32} {d x : Nat} {M : qxM} {st : List Value} {a0 a1 a2 a3 a6 : Option Value} {z : Int32} : Rs L xs (d) 23 129 [a0, a1, a2, a3, none, some (.int z), a6] st M x = Rs L xs (d) 23 132 [a0, a1, a2, a3, none, some (.int (z + (nI 1))), a6] st M x := Rs_next c23_129 rfl
theorem c23_132 : qx_code 23 132 = some (132, .goto (-69), 135, 63, 0, 0) := by decide +kernel
theorem s23_132 {L : Nat} {xs : Nat → Int32} {d x : Nat} {M : qxM} {st : List Value} {ls : qxL} : Rs L xs (d) 23 132 ls st M x = Rs L xs (d) 23 63 ls st M x := Rs_next c23_132 rfl
theorem c23_135 : qx_code 23 135 = some (135, .iload 4, 137, 0, 0, 0) := by decide +kernel
theorem s23_135 {L : Nat} {xs : Nat → Int32} {d x : Nat} {M : qxM} {st : List Value} {a0 a1 a2 a3 a5 a6 : Option Value} {z : Int32} : Rs L xs (d) 23 135 [a0, a1, a2, a3, some (.int z), a5, a6] st M x = Rs L xs (d) 23 137 [a0, a1, a2, a3, some (.int z), a5, a6] (.int z :: st) M x := Rs_next c23_135 rfl
theorem c23_137 : qx_code 23 137 = some (137, .iload_n 2, 138, 0, 0, 0) := by decide +kernel
theorem s23_137 {L : Nat} {xs : Nat → Int32} {d x : Nat} {M : qxM} {st : List Value} {a0 a1 a3 a4 a5 a6 : Option Value} {z : Int32} : Rs L xs (d) 23 137 [a0, a1, some (.int z), a3, a4, a5, a6] st M x = Rs L xs (d) 23 138 [a0, a1, some (.int z), a3, a4, a5, a6] (.int z :: st) M x := Rs_next c23_137 rfl
theorem c23_138 : qx_code 23 138 = some (138, .if_icmp .ge 5, 141, 143, 0, 0) := by decide +kernel
theorem s23_138 {L : Nat} {xs : Nat → Int32} {d x : Nat} {M : qxM} {st : List Value} {ls : qxL} {z y : Int32} : Rs L xs (d) 23 138 ls (.int y :: .int z :: st) M x = if y ≤ z then Rs L xs (d) 23 143 ls st M x else Rs L xs (d) 23 141 ls st M x := Rs_ite c23_138 rfl
theorem c23_141 : qx_code 23 141 = some (141, .iconst 1, 142, 0, 0, 0) := by decide +kernel
theorem s23_141 {L : Nat} {xs : Nat → Int32} {d x : Nat} {M : qxM} {st : List Value} {ls : qxL} : Rs L xs (d) 23 141 ls st M x = Rs L xs (d) 23 142 ls (.int (nI 1) :: st) M x := Rs_next c23_141 rfl
theorem c23_142 : qx_code 23 142 = some (142, .ireturn, 143, 0, 0, 0) := by decide +kernel
theorem s23_142 {L : Nat} {xs : Nat → Int32} {d x : Nat} {M : qxM} {ls : qxL} {z : Int32} : Rs L xs (d) 23 142 ls [.int z] M x = some (.inl (some (.int z)), M, x) := Rs_ret c23_142 rfl
theorem c23_143 : qx_code 23 143 = some (143, .iload_n 1, 144, 0, 0, 0) := by decide +kernel
theorem s23_143 {L : Nat} {xs : Nat → Int32} {d x : Nat} {M : qxM} {st : List Value} {a0 a2 a3 a4 a5 a6 : Option Value} {z : Int32} : Rs L xs (d) 23 143 [a0, some (.int z), a2, a3, a4, a5, a6] st M x = Rs L xs (d) 23 144 [a0, some (.int z), a2, a3, a4, a5, a6] (.int z :: st) M x := Rs_next c23_143 rfl
theorem c23_144 : qx_code 23 144 = some (144, .iconst 2, 145, 0, 0, 0) := by decide +kernel
theorem s23_144 {L : Nat} {xs : Nat → Int32} {d x : Nat} {M : qxM} {st : List Value} {ls : qxL} : Rs L xs (d) 23 144 ls st M x = Rs L xs (d) 23 145 ls (.int (nI 2) :: st) M x := Rs_next c23_144 rfl
theorem c23_145 : qx_code 23 145 = some (145, .if_icmp .ne 19, 148, 164, 0, 0) := by decide +kernel
theorem s23_145 {L : Nat} {xs : Nat → Int32} {d x : Nat} {M : qxM} {st : List Value} {ls : qxL} {z y : Int32} : Rs L xs (d) 23 145 ls (.int y :: .int z :: st) M x = if z = y then Rs L xs (d) 23 148 ls st M x else Rs L xs (d) 23 164 ls st M x := Rs_ite c23_145 rfl
theorem c23_148 : qx_code 23 148 = some (148, .aload_n 0, 149, 0, 0, 0) := by decide +kernel
theorem s23_148 {L : Nat} {xs : Nat → Int32} {d x : Nat} {M : qxM} {st : List Value} {a1 a2 a3 a4 a5 a6 : Option Value} {z : Nat} : Rs L xs (d) 23 148 [some (.ref z), a1, a2, a3, a4, a5, a6] st M x = Rs L xs (d) 23 149 [some (.ref z), a1, a2, a3, a4, a5, a6] (.ref z :: st) M x := Rs_next c23_148 rfl
theorem c23_149 : qx_code 23 149 = some (149, .getfield 18, 152, 1, 1, 189) := by decide +kernel
theorem s23_149 {L : Nat} {xs : Nat → Int32} {d x : Nat} {M : qxM} {st : List Value} {ls : qxL} {t : Nat} (hk : qx_kd t = 11) : Rs L xs (d) 23 149 ls (.ref t :: st) M x = Rs L xs (d) 23 152 ls (.ref (t + 2) :: st) M x := Rs_when (qx_kd_obj (k := 1) (by decide) hk) c23_149 rfl
theorem c23_152 : qx_code 23 152 = some (152, .aload_n 0, 153, 0, 0, 0) := by decide +kernel
theorem s23_152 {L : Nat} {xs : Nat → Int32} {d x : Nat} {M : qxM} {st : List Value} {a1 a2 a3 a4 a5 a6 : Option Value} {z : Nat} : Rs L xs (d) 23 152 [some (.ref z), a1, a2, a3, a4, a5, a6] st M x = Rs L xs (d) 23 153 [some (.ref z), a1, a2, a3, a4, a5, a6] (.ref z :: st) M x := Rs_next c23_152 rfl
theorem c23_153 : qx_code 23 153 = some (153, .getfield 92, 156, 1, 11, 203) := by decide +kernel
theorem s23_153 {L : Nat} {xs : Nat → Int32} {d x : Nat} {M : qxM} {st : List Value} {ls : qxL} {t : Nat} (hk : qx_kd t = 11) : Rs L xs (d) 23 153 ls (.ref t :: st) M x = Rs L xs (d) 23 156 ls (.int (M.1 t 11) :: st) M x := Rs_when (qx_kd_obj (k := 1) (by decide) hk) c23_153 rfl
theorem c23_156 : qx_code 23 156 = some (156, .aload_n 0, 157, 0, 0, 0) := by decide +kernel
theorem s23_156 {L : Nat} {xs : Nat → Int32} {d x : Nat} {M : qxM} {st : List Value} {a1 a2 a3 a4 a5 a6 : Option Value} {z : Nat} : Rs L xs (d) 23 156 [some (.ref z), a1, a2, a3, a4, a5, a6] st M x = Rs L xs (d) 23 157 [some (.ref z), a1, a2, a3, a4, a5, a6] (.ref z :: st) M x := Rs_next c23_156 rfl
theorem c23_157 : qx_code 23 157 = some (157, .getfield 95, 160, 1, 10, 202) := by decide +kernel
theorem s23_157 {L : Nat} {xs : Nat → Int32} {d x : Nat} {M : qxM} {st : List Value} {ls : qxL} {t : Nat} (hk : qx_kd t = 11) : Rs L xs (d) 23 157 ls (.ref t :: st) M x = Rs L xs (d) 23 160 ls (.int (M.1 t 10) :: st) M x := Rs_when (qx_kd_obj (k := 1) (by decide) hk) c23_157 rfl
theorem c23_160 : qx_code 23 160 = some (160, .iconst 1, 161, 0, 0, 0) := by decide +kernel
theorem s23_160 {L : Nat} {xs : Nat → Int32} {d x : Nat} {M : qxM} {st : List Value} {ls : qxL} : Rs L xs (d) 23 160 ls st M x = Rs L xs (d) 23 161 ls (.int (nI 1) :: st) M x := Rs_next c23_160 rfl
theorem c23_161 : qx_code 23 161 = some (161, .invokevirtual 98, 164, 40, 4, 662) := by decide +kernel
theorem s23_161 {L : Nat} {xs : Nat → Int32} {d x : Nat} {M : qxM} {st : List Value} {ls : qxL} {t : Nat} {z0 : Int32} {z1 : Int32} {z2 : Int32} (hk : qx_kd t = 12) (hs : st.length ≤ 4) : Rs L xs (d + 1) 23 161 ls (.int z2 :: .int z1 :: .int z0 :: .ref t :: st) M x = (Rs L xs d 40 0 [some (.ref t), some (.int z0), some (.int z1), some (.int z2)] [] M 0).bind (qx_kn L xs (d + 1) 23 161 164 40 ls st x) := by
  have h1 : qx_act L xs (qx_rt 23) (161, .invokevirtual 98, 164, 40, 4, 662) ls (.int z2 :: .int z1 :: .int z0 :: .ref t :: st) M = if 4 ≤ (.int z2 :: .int z1 :: .int z0 :: .ref t :: st).length ∧ st.length ≤ 4 then some (.inr (.inr (.inr (40, [.ref t, .int z0, .int z1, .int z2], st)))) else none := rfl
  rw [if_pos ⟨by simp [List.length_cons]; try omega, hs⟩] at h1
  have h2 := qx_kd_obj (k := 2) (by decide) hk
  exact Rs_call c23_161 h1 (by rw [show qx_args 40 [.ref t, .int z0, .int z1, .int z2] = decide (qx_sh t = some (.inl 2)) from rfl]; exact decide_eq_true h2)
theorem c23_164 : qx_code 23 164 = some (164, .iconst 0, 165, 0, 0, 0) := by decide +kernel
theorem s23_164 {L : Nat} {xs : Nat → Int32} {d x : Nat} {M : qxM} {st : List Value} {ls : qxL} : Rs L xs (d) 23 164 ls st M x = Rs L xs (d) 23 165 ls (.int (nI 0) :: st) M x := Rs_next c23_164 rfl
theorem c23_165 : qx_code 23 165 = some (165, .ireturn, 166, 0, 0, 0) := by decide +kernel
theorem s23_165 {L : Nat} {xs : Nat → Int32} {d x : Nat} {M : qxM} {ls : qxL} {z : Int32} : Rs L xs (d) 23 165 ls [.int z] M x = some (.inl (some (.int z)), M, x) := Rs_ret c23_165 rfl
theorem c24_0 : qx_code 24 0 = some (0, .aload_n 0, 1, 0, 0, 0) := by decide +kernel
theorem s24_0 {L : Nat} {xs : Nat → Int32} {d x : Nat} {M : qxM} {st : List Value} {z : Nat} : Rs L xs (d) 24 0 [some (.ref z)] st M x = Rs L xs (d) 24 1 [some (.ref z)] (.ref z :: st) M x := Rs_next c24_0 rfl
theorem c24_1 : qx_code 24 1 = some (1, .ldc 102, 3, 2, 1, 0) := by decide +kernel
theorem s24_1 {L : Nat} {xs : Nat → Int32} {d x : Nat} {M : qxM} {st : List Value} {ls : qxL} : Rs L xs (d) 24 1 ls st M x = Rs L xs (d) 24 3 ls (.ref (500 + 2) :: st) M x := Rs_next c24_1 rfl
theorem c24_3 : qx_code 24 3 = some (3, .invokevirtual 62, 6, 31, 2, 555) := by decide +kernel
theorem s24_3 {L : Nat} {xs : Nat → Int32} {d x : Nat} {M : qxM} {st : List Value} {ls : qxL} {t : Nat} {z0 : Nat} (hk : qx_kd t = 11) (hs : st.length ≤ 4) : Rs L xs (d + 1) 24 3 ls (.ref z0 :: .ref t :: st) M x = (Rs L xs d 31 0 [some (.ref t), some (.ref z0), none] [] M 0).bind (qx_kn L xs (d + 1) 24 3 6 31 ls st x) := by
  have h1 : qx_act L xs (qx_rt 24) (3, .invokevirtual 62, 6, 31, 2, 555) ls (.ref z0 :: .ref t :: st) M = if 2 ≤ (.ref z0 :: .ref t :: st).length ∧ st.length ≤ 4 then some (.inr (.inr (.inr (31, [.ref t, .ref z0], st)))) else none := rfl
  rw [if_pos ⟨by simp [List.length_cons]; try omega, hs⟩] at h1
  have h2 := qx_kd_obj (k := 1) (by decide) hk
  exact Rs_call c24_3 h1 (by rw [show qx_args 31 [.ref t, .ref z0] = decide (qx_sh t = some (.inl 1)) from rfl]; exact decide_eq_true h2)
theorem c24_6 : qx_code 24 6 = some (6, .ifCond .eq 5, 9, 11, 0, 0) := by decide +kernel
theorem s24_6 {L : Nat} {xs : Nat → Int32} {d x : Nat} {M : qxM} {st : List Value} {ls : qxL} {z : Int32} : Rs L xs (d) 24 6 ls (.int z :: st) M x = if z = 0 then Rs L xs (d) 24 11 ls st M x else Rs L xs (d) 24 9 ls st M x := Rs_ite c24_6 rfl
theorem c24_9 : qx_code 24 9 = some (9, .iconst 0, 10, 0, 0, 0) := by decide +kernel
theorem s24_9 {L : Nat} {xs : Nat → Int32} {d x : Nat} {M : qxM} {st : List Value} {ls : qxL} : Rs L xs (d) 24 9 ls st M x = Rs L xs (d) 24 10 ls (.int (nI 0) :: st) M x := Rs_next c24_9 rfl
theorem c24_10 : qx_code 24 10 = some (10, .ireturn, 11, 0, 0, 0) := by decide +kernel
theorem s24_10 {L : Nat} {xs : Nat → Int32} {d x : Nat} {M : qxM} {ls : qxL} {z : Int32} : Rs L xs (d) 24 10 ls [.int z] M x = some (.inl (some (.int z)), M, x) := Rs_ret c24_10 rfl
theorem c24_11 : qx_code 24 11 = some (11, .aload_n 0, 12, 0, 0, 0) := by decide +kernel
theorem s24_11 {L : Nat} {xs : Nat → Int32} {d x : Nat} {M : qxM} {st : List Value} {z : Nat} : Rs L xs (d) 24 11 [some (.ref z)] st M x = Rs L xs (d) 24 12 [some (.ref z)] (.ref z :: st) M x := Rs_next c24_11 rfl
theorem c24_12 : qx_code 24 12 = some (12, .ldc 104, 14, 3, 1, 0) := by decide +kernel
theorem s24_12 {L : Nat} {xs : Nat → Int32} {d x : Nat} {M : qxM} {st : List Value} {ls : qxL} : Rs L xs (d) 24 12 ls st M x = Rs L xs (d) 24 14 ls (.ref (500 + 3) :: st) M x := Rs_next c24_12 rfl
theorem c24_14 : qx_code 24 14 = some (14, .invokevirtual 62, 17, 31, 2, 555) := by decide +kernel
theorem s24_14 {L : Nat} {xs : Nat → Int32} {d x : Nat} {M : qxM} {st : List Value} {ls : qxL} {t : Nat} {z0 : Nat} (hk : qx_kd t = 11) (hs : st.length ≤ 4) : Rs L xs (d + 1) 24 14 ls (.ref z0 :: .ref t :: st) M x = (Rs L xs d 31 0 [some (.ref t), some (.ref z0), none] [] M 0).bind (qx_kn L xs (d + 1) 24 14 17 31 ls st x) := by
  have h1 : qx_act L xs (qx_rt 24) (14, .invokevirtual 62, 17, 31, 2, 555) ls (.ref z0 :: .ref t :: st) M = if 2 ≤ (.ref z0 :: .ref t :: st).length ∧ st.length ≤ 4 then some (.inr (.inr (.inr (31, [.ref t, .ref z0], st)))) else none := rfl
  rw [if_pos ⟨by simp [List.length_cons]; try omega, hs⟩] at h1
  have h2 := qx_kd_obj (k := 1) (by decide) hk
  exact Rs_call c24_14 h1 (by rw [show qx_args 31 [.ref t, .ref z0] = decide (qx_sh t = some (.inl 1)) from rfl]; exact decide_eq_true h2)
theorem c24_17 : qx_code 24 17 = some (17, .ifCond .eq 5, 20, 22, 0, 0) := by decide +kernel
theorem s24_17 {L : Nat} {xs : Nat → Int32} {d x : Nat} {M : qxM} {st : List Value} {ls : qxL} {z : Int32} : Rs L xs (d) 24 17 ls (.int z :: st) M x = if z = 0 then Rs L xs (d) 24 22 ls st M x else Rs L xs (d) 24 20 ls st M x := Rs_ite c24_17 rfl
theorem c24_20 : qx_code 24 20 = some (20, .iconst 1, 21, 0, 0, 0) := by decide +kernel
theorem s24_20 {L : Nat} {xs : Nat → Int32} {d x : Nat} {M : qxM} {st : List Value} {ls : qxL} : Rs L xs (d) 24 20 ls st M x = Rs L xs (d) 24 21 ls (.int (nI 1) :: st) M x := Rs_next c24_20 rfl
theorem c24_21 : qx_code 24 21 = some (21, .ireturn, 22, 0, 0, 0) := by decide +kernel
theorem s24_21 {L : Nat} {xs : Nat → Int32} {d x : Nat} {M : qxM} {ls : qxL} {z : Int32} : Rs L xs (d) 24 21 ls [.int z] M x = some (.inl (some (.int z)), M, x) := Rs_ret c24_21 rfl
theorem c24_22 : qx_code 24 22 = some (22, .aload_n 0, 23, 0, 0, 0) := by decide +kernel
theorem s24_22 {L : Nat} {xs : Nat → Int32} {d x : Nat} {M : qxM} {st : List Value} {z : Nat} : Rs L xs (d) 24 22 [some (.ref z)] st M x = Rs L xs (d) 24 23 [some (.ref z)] (.ref z :: st) M x := Rs_next c24_22 rfl
theorem c24_23 : qx_code 24 23 = some (23, .ldc 106, 25, 4, 1, 0) := by decide +kernel
theorem s24_23 {L : Nat} {xs : Nat → Int32} {d x : Nat} {M : qxM} {st : List Value} {ls : qxL} : Rs L xs (d) 24 23 ls st M x = Rs L xs (d) 24 25 ls (.ref (500 + 4) :: st) M x := Rs_next c24_23 rfl
theorem c24_25 : qx_code 24 25 = some (25, .invokevirtual 62, 28, 31, 2, 555) := by decide +kernel
theorem s24_25 {L : Nat} {xs : Nat → Int32} {d x : Nat} {M : qxM} {st : List Value} {ls : qxL} {t : Nat} {z0 : Nat} (hk : qx_kd t = 11) (hs : st.length ≤ 4) : Rs L xs (d + 1) 24 25 ls (.ref z0 :: .ref t :: st) M x = (Rs L xs d 31 0 [some (.ref t), some (.ref z0), none] [] M 0).bind (qx_kn L xs (d + 1) 24 25 28 31 ls st x) := by
  have h1 : qx_act L xs (qx_rt 24) (25, .invokevirtual 62, 28, 31, 2, 555) ls (.ref z0 :: .ref t :: st) M = if 2 ≤ (.ref z0 :: .ref t :: st).length ∧ st.length ≤ 4 then some (.inr (.inr (.inr (31, [.ref t, .ref z0], st)))) else none := rfl
  rw [if_pos ⟨by simp [List.length_cons]; try omega, hs⟩] at h1
  have h2 := qx_kd_obj (k := 1) (by decide) hk
  exact Rs_call c24_25 h1 (by rw [show qx_args 31 [.ref t, .ref z0] = decide (qx_sh t = some (.inl 1)) from rfl]; exact decide_eq_true h2)
theorem c24_28 : qx_code 24 28 = some (28, .ifCond .eq 5, 31, 33, 0, 0) := by decide +kernel
theorem s24_28 {L : Nat} {xs : Nat → Int32} {d x : Nat} {M : qxM} {st : List Value} {ls : qxL} {z : Int32} : Rs L xs (d) 24 28 ls (.int z :: st) M x = if z = 0 then Rs L xs (d) 24 33 ls st M x else Rs L xs (d) 24 31 ls st M x := Rs_ite c24_28 rfl
theorem c24_31 : qx_code 24 31 = some (31, .iconst 2, 32, 0, 0, 0) := by decide +kernel
theorem s24_31 {L : Nat} {xs : Nat → Int32} {d x : Nat} {M : qxM} {st : List Value} {ls : qxL} : Rs L xs (d) 24 31 ls st M x = Rs L xs (d) 24 32 ls (.int (nI 2) :: st) M x := Rs_next c24_31 rfl
theorem c24_32 : qx_code 24 32 = some (32, .ireturn, 33, 0, 0, 0) := by decide +kernel
theorem s24_32 {L : Nat} {xs : Nat → Int32} {d x : Nat} {M : qxM} {ls : qxL} {z : Int32} : Rs L xs (d) 24 32 ls [.int z] M x = some (.inl (some (.int z)), M, x) := Rs_ret c24_32 rfl
theorem c24_33 : qx_code 24 33 = some (33, .aload_n 0, 34, 0, 0, 0) := by decide +kernel
theorem s24_33 {L : Nat} {xs : Nat → Int32} {d x : Nat} {M : qxM} {st : List Value} {z : Nat} : Rs L xs (d) 24 33 [some (.ref z)] st M x = Rs L xs (d) 24 34 [some (.ref z)] (.ref z :: st) M x := Rs_next c24_33 rfl
theorem c24_34 : qx_code 24 34 = some (34, .ldc 108, 36, 5, 1, 0) := by decide +kernel
theorem s24_34 {L : Nat} {xs : Nat → Int32} {d x : Nat} {M : qxM} {st : List Value} {ls : qxL} : Rs L xs (d) 24 34 ls st M x = Rs L xs (d) 24 36 ls (.ref (500 + 5) :: st) M x := Rs_next c24_34 rfl
theorem c24_36 : qx_code 24 36 = some (36, .invokevirtual 62, 39, 31, 2, 555) := by decide +kernel
theorem s24_36 {L : Nat} {xs : Nat → Int32} {d x : Nat} {M : qxM} {st : List Value} {ls : qxL} {t : Nat} {z0 : Nat} (hk : qx_kd t = 11) (hs : st.length ≤ 4) : Rs L xs (d + 1) 24 36 ls (.ref z0 :: .ref t :: st) M x = (Rs L xs d 31 0 [some (.ref t), some (.ref z0), none] [] M 0).bind (qx_kn L xs (d + 1) 24 36 39 31 ls st x) := by
  have h1 : qx_act L xs (qx_rt 24) (36, .invokevirtual 62, 39, 31, 2, 555) ls (.ref z0 :: .ref t :: st) M = if 2 ≤ (.ref z0 :: .ref t :: st).length ∧ st.length ≤ 4 then some (.inr (.inr (.inr (31, [.ref t, .ref z0], st)))) else none := rfl
  rw [if_pos ⟨by simp [List.length_cons]; try omega, hs⟩] at h1
  have h2 := qx_kd_obj (k := 1) (by decide) hk
  exact Rs_call c24_36 h1 (by rw [show qx_args 31 [.ref t, .ref z0] = decide (qx_sh t = some (.inl 1)) from rfl]; exact decide_eq_true h2)
theorem c24_39 : qx_code 24 39 = some (39, .ifCond .eq 7, 42, 46, 0, 0) := by decide +kernel
theorem s24_39 {L : Nat} {xs : Nat → Int32} {d x : Nat} {M : qxM} {st : List Value} {ls : qxL} {z : Int32} : Rs L xs (d) 24 39 ls (.int z :: st) M x = if z = 0 then Rs L xs (d) 24 46 ls st M x else Rs L xs (d) 24 42 ls st M x := Rs_ite c24_39 rfl
theorem c24_42 : qx_code 24 42 = some (42, .iconst 3, 43, 0, 0, 0) := by decide +kernel
theorem s24_42 {L : Nat} {xs : Nat → Int32} {d x : Nat} {M : qxM} {st : List Value} {ls : qxL} : Rs L xs (d) 24 42 ls st M x = Rs L xs (d) 24 43 ls (.int (nI 3) :: st) M x := Rs_next c24_42 rfl
theorem c24_43 : qx_code 24 43 = some (43, .goto 4, 46, 47, 0, 0) := by decide +kernel
theorem s24_43 {L : Nat} {xs : Nat → Int32} {d x : Nat} {M : qxM} {st : List Value} {ls : qxL} : Rs L xs (d) 24 43 ls st M x = Rs L xs (d) 24 47 ls st M x := Rs_next c24_43 rfl
theorem c24_46 : qx_code 24 46 = some (46, .iconst (-1), 47, 0, 0, 0) := by decide +kernel
theorem s24_46 {L : Nat} {xs : Nat → Int32} {d x : Nat} {M : qxM} {st : List Value} {ls : qxL} : Rs L xs (d) 24 46 ls st M x = Rs L xs (d) 24 47 ls (.int (-1) :: st) M x := Rs_next c24_46 rfl
theorem c24_47 : qx_code 24 47 = some (47, .ireturn, 48, 0, 0, 0) := by decide +kernel
theorem s24_47 {L : Nat} {xs : Nat → Int32} {d x : Nat} {M : qxM} {ls : qxL} {z : Int32} : Rs L xs (d) 24 47 ls [.int z] M x = some (.inl (some (.int z)), M, x) := Rs_ret c24_47 rfl
theorem c25_0 : qx_code 25 0 = some (0, .iload_n 1, 1, 0, 0, 0) := by decide +kernel
theorem s25_0 {L : Nat} {xs : Nat → Int32} {d x : Nat} {M : qxM} {st : List Value} {a0 a2 a3 a4 : Option Value} {z : Int32} : Rs L xs (d) 25 0 [a0, some (.int z), a2, a3, a4] st M x = Rs L xs (d) 25 1 [a0, some (.int z), a2, a3, a4] (.int z :: st) M x := Rs_next c25_0 rfl
theorem c25_1 : qx_code 25 1 = some (1, .iconst 1, 2, 0, 0, 0) := by decide +kernel
theorem s25_1 {L : Nat} {xs : Nat → Int32} {d x : Nat} {M : qxM} {st : List Value} {ls : qxL} : Rs L xs (d) 25 1 ls st M x = Rs L xs (d) 25 2 ls (.int (nI 1) :: st) M x := Rs_next c25_1 rfl
theorem c25_2 : qx_code 25 2 = some (2, .if_icmp .eq 8, 5, 10, 0, 0) := by decide +kernel
theorem s25_2 {L : Nat} {xs : Nat → Int32} {d x : Nat} {M : qxM} {st : List Value} {ls : qxL} {z y : Int32} : Rs L xs (d) 25 2 ls (.int y :: .int z :: st) M x = if z = y then Rs L xs (d) 25 10 ls st M x else Rs L xs (d) 25 5 ls st M x := Rs_ite c25_2 rfl
theorem c25_5 : qx_code 25 5 = some (5, .iload_n 1, 6, 0, 0, 0) := by decide +kernel
theorem s25_5 {L : Nat} {xs : Nat → Int32} {d x : Nat} {M : qxM} {st : List Value} {a0 a2 a3 a4 : Option Value} {z : Int32} : Rs L xs (d) 25 5 [a0, some (.int z), a2, a3, a4] st M x = Rs L xs (d) 25 6 [a0, some (.int z), a2, a3, a4] (.int z :: st) M x := Rs_next c25_5 rfl
theorem c25_6 : qx_code 25 6 = some (6, .iconst 3, 7, 0, 0, 0) := by decide +kernel
theorem s25_6 {L : Nat} {xs : Nat → Int32} {d x : Nat} {M : qxM} {st : List Value} {ls : qxL} : Rs L xs (d) 25 6 ls st M x = Rs L xs (d) 25 7 ls (.int (nI 3) :: st) M x := Rs_next c25_6 rfl
theorem c25_7 : qx_code 25 7 = some (7, .if_icmp .ne 22, 10, 29, 0, 0) := by decide +kernel
theorem s25_7 {L : Nat} {xs : Nat → Int32} {d x : Nat} {M : qxM} {st : List Value} {ls : qxL} {z y : Int32} : Rs L xs (d) 25 7 ls (.int y :: .int z :: st) M x = if z = y then Rs L xs (d) 25 10 ls st M x else Rs L xs (d) 25 29 ls st M x := Rs_ite c25_7 rfl
theorem c25_10 : qx_code 25 10 = some (10, .iload_n 2, 11, 0, 0, 0) := by decide +kernel
theorem s25_10 {L : Nat} {xs : Nat → Int32} {d x : Nat} {M : qxM} {st : List Value} {a0 a1 a3 a4 : Option Value} {z : Int32} : Rs L xs (d) 25 10 [a0, a1, some (.int z), a3, a4] st M x = Rs L xs (d) 25 11 [a0, a1, some (.int z), a3, a4] (.int z :: st) M x := Rs_next c25_10 rfl
theorem c25_11 : qx_code 25 11 = some (11, .ifCond .le 18, 14, 29, 0, 0) := by decide +kernel
theorem s25_11 {L : Nat} {xs : Nat → Int32} {d x : Nat} {M : qxM} {st : List Value} {ls : qxL} {z : Int32} : Rs L xs (d) 25 11 ls (.int z :: st) M x = if z ≤ 0 then Rs L xs (d) 25 29 ls st M x else Rs L xs (d) 25 14 ls st M x := Rs_ite c25_11 rfl
theorem c25_14 : qx_code 25 14 = some (14, .aload_n 0, 15, 0, 0, 0) := by decide +kernel
theorem s25_14 {L : Nat} {xs : Nat → Int32} {d x : Nat} {M : qxM} {st : List Value} {a1 a2 a3 a4 : Option Value} {z : Nat} : Rs L xs (d) 25 14 [some (.ref z), a1, a2, a3, a4] st M x = Rs L xs (d) 25 15 [some (.ref z), a1, a2, a3, a4] (.ref z :: st) M x := Rs_next c25_14 rfl
theorem c25_15 : qx_code 25 15 = some (15, .getfield 70, 18, 1, 9, 201) := by decide +kernel
theorem s25_15 {L : Nat} {xs : Nat → Int32} {d x : Nat} {M : qxM} {st : List Value} {ls : qxL} {t : Nat} (hk : qx_kd t = 11) : Rs L xs (d) 25 15 ls (.ref t :: st) M x = Rs L xs (d) 25 18 ls (.int (M.1 t 9) :: st) M x := Rs_when (qx_kd_obj (k := 1) (by decide) hk) c25_15 rfl
theorem c25_18 : qx_code 25 18 = some (18, .aload_n 0, 19, 0, 0, 0) := by decide +kernel
theorem s25_18 {L : Nat} {xs : Nat → Int32} {d x : Nat} {M : qxM} {st : List Value} {a1 a2 a3 a4 : Option Value} {z : Nat} : Rs L xs (d) 25 18 [some (.ref z), a1, a2, a3, a4] st M x = Rs L xs (d) 25 19 [some (.ref z), a1, a2, a3, a4] (.ref z :: st) M x := Rs_next c25_18 rfl
theorem c25_19 : qx_code 25 19 = some (19, .getfield 95, 22, 1, 10, 202) := by decide +kernel
theorem s25_19 {L : Nat} {xs : Nat → Int32} {d x : Nat} {M : qxM} {st : List Value} {ls : qxL} {t : Nat} (hk : qx_kd t = 11) : Rs L xs (d) 25 19 ls (.ref t :: st) M x = Rs L xs (d) 25 22 ls (.int (M.1 t 10) :: st) M x := Rs_when (qx_kd_obj (k := 1) (by decide) hk) c25_19 rfl
theorem c25_22 : qx_code 25 22 = some (22, .if_icmp .ne 7, 25, 29, 0, 0) := by decide +kernel
theorem s25_22 {L : Nat} {xs : Nat → Int32} {d x : Nat} {M : qxM} {st : List Value} {ls : qxL} {z y : Int32} : Rs L xs (d) 25 22 ls (.int y :: .int z :: st) M x = if z = y then Rs L xs (d) 25 25 ls st M x else Rs L xs (d) 25 29 ls st M x := Rs_ite c25_22 rfl
theorem c25_25 : qx_code 25 25 = some (25, .iconst 1, 26, 0, 0, 0) := by decide +kernel
theorem s25_25 {L : Nat} {xs : Nat → Int32} {d x : Nat} {M : qxM} {st : List Value} {ls : qxL} : Rs L xs (d) 25 25 ls st M x = Rs L xs (d) 25 26 ls (.int (nI 1) :: st) M x := Rs_next c25_25 rfl
theorem c25_26 : qx_code 25 26 = some (26, .goto 4, 29, 30, 0, 0) := by decide +kernel
theorem s25_26 {L : Nat} {xs : Nat → Int32} {d x : Nat} {M : qxM} {st : List Value} {ls : qxL} : Rs L xs (d) 25 26 ls st M x = Rs L xs (d) 25 30 ls st M x := Rs_next c25_26 rfl
theorem c25_29 : qx_code 25 29 = some (29, .iconst 0, 30, 0, 0, 0) := by decide +kernel
theorem s25_29 {L : Nat} {xs : Nat → Int32} {d x : Nat} {M : qxM} {st : List Value} {ls : qxL} : Rs L xs (d) 25 29 ls st M x = Rs L xs (d) 25 30 ls (.int (nI 0) :: st) M x := Rs_next c25_29 rfl
theorem c25_30 : qx_code 25 30 = some (30, .istore_n 3, 31, 0, 0, 0) := by decide +kernel
theorem s25_30i {L : Nat} {xs : Nat → Int32} {d x : Nat} {M : qxM} {st : List Value} {a0 a1 a3 a4 : Option Value} {z : Int32} {y : Int32} : Rs L xs (d) 25 30 [a0, a1, some (.int y), a3, a4] (.int z :: st) M x = Rs L xs (d) 25 31 [a0, a1, some (.int y), some (.int z), a4] st M x := Rs_next c25_30 rfl
theorem s25_30r {L : Nat} {xs : Nat → Int32} {d x : Nat} {M : qxM} {st : List Value} {a0 a1 a3 a4 : Option Value} {z : Int32} {y : Nat} : Rs L xs (d) 25 30 [a0, a1, some (.ref y), a3, a4] (.int z :: st) M x = Rs L xs (d) 25 31 [a0, a1, some (.ref y), some (.int z), a4] st M x := Rs_next c25_30 rfl
theorem s25_30n {L : Nat} {xs : Nat → Int32} {d x : Nat} {M : qxM} {st : List Value} {a0 a1 a3 a4 : Option Value} {z : Int32} : Rs L xs (d) 25 30 [a0, a1, none, a3, a4] (.int z :: st) M x = Rs L xs (d) 25 31 [a0, a1, none, some (.int z), a4] st M x := Rs_next c25_30 rfl
theorem c25_31 : qx_code 25 31 = some (31, .iload_n 1, 32, 0, 0, 0) := by decide +kernel
theorem s25_31 {L : Nat} {xs : Nat → Int32} {d x : Nat} {M : qxM} {st : List Value} {a0 a2 a3 a4 : Option Value} {z : Int32} : Rs L xs (d) 25 31 [a0, some (.int z), a2, a3, a4] st M x = Rs L xs (d) 25 32 [a0, some (.int z), a2, a3, a4] (.int z :: st) M x := Rs_next c25_31 rfl
theorem c25_32 : qx_code 25 32 = some (32, .iconst 2, 33, 0, 0, 0) := by decide +kernel
theorem s25_32 {L : Nat} {xs : Nat → Int32} {d x : Nat} {M : qxM} {st : List Value} {ls : qxL} : Rs L xs (d) 25 32 ls st M x = Rs L xs (d) 25 33 ls (.int (nI 2) :: st) M x := Rs_next c25_32 rfl
theorem c25_33 : qx_code 25 33 = some (33, .if_icmp .ne 21, 36, 54, 0, 0) := by decide +kernel
theorem s25_33 {L : Nat} {xs : Nat → Int32} {d x : Nat} {M : qxM} {st : List Value} {ls : qxL} {z y : Int32} : Rs L xs (d) 25 33 ls (.int y :: .int z :: st) M x = if z = y then Rs L xs (d) 25 36 ls st M x else Rs L xs (d) 25 54 ls st M x := Rs_ite c25_33 rfl
theorem c25_36 : qx_code 25 36 = some (36, .aload_n 0, 37, 0, 0, 0) := by decide +kernel
theorem s25_36 {L : Nat} {xs : Nat → Int32} {d x : Nat} {M : qxM} {st : List Value} {a1 a2 a3 a4 : Option Value} {z : Nat} : Rs L xs (d) 25 36 [some (.ref z), a1, a2, a3, a4] st M x = Rs L xs (d) 25 37 [some (.ref z), a1, a2, a3, a4] (.ref z :: st) M x := Rs_next c25_36 rfl
theorem c25_37 : qx_code 25 37 = some (37, .getfield 82, 40, 1, 12, 204) := by decide +kernel
theorem s25_37 {L : Nat} {xs : Nat → Int32} {d x : Nat} {M : qxM} {st : List Value} {ls : qxL} {t : Nat} (hk : qx_kd t = 11) : Rs L xs (d) 25 37 ls (.ref t :: st) M x = Rs L xs (d) 25 40 ls (.int (M.1 t 12) :: st) M x := Rs_when (qx_kd_obj (k := 1) (by decide) hk) c25_37 rfl
theorem c25_40 : qx_code 25 40 = some (40, .aload_n 0, 41, 0, 0, 0) := by decide +kernel
theorem s25_40 {L : Nat} {xs : Nat → Int32} {d x : Nat} {M : qxM} {st : List Value} {a1 a2 a3 a4 : Option Value} {z : Nat} : Rs L xs (d) 25 40 [some (.ref z), a1, a2, a3, a4] st M x = Rs L xs (d) 25 41 [some (.ref z), a1, a2, a3, a4] (.ref z :: st) M x := Rs_next c25_40 rfl
theorem c25_41 : qx_code 25 41 = some (41, .getfield 70, 44, 1, 9, 201) := by decide +kernel
theorem s25_41 {L : Nat} {xs : Nat → Int32} {d x : Nat} {M : qxM} {st : List Value} {ls : qxL} {t : Nat} (hk : qx_kd t = 11) : Rs L xs (d) 25 41 ls (.ref t :: st) M x = Rs L xs (d) 25 44 ls (.int (M.1 t 9) :: st) M x := Rs_when (qx_kd_obj (k := 1) (by decide) hk) c25_41 rfl
theorem c25_44 : qx_code 25 44 = some (44, .invokestatic 110, 47, 170, 2, 627) := by decide +kernel
theorem s25_44 {L : Nat} {xs : Nat → Int32} {d x : Nat} {M : qxM} {st : List Value} {ls : qxL} {z0 : Int32} {z1 : Int32} (hs : st.length ≤ 4) : Rs L xs (d + 1) 25 44 ls (.int z1 :: .int z0 :: st) M x = (Rs L xs d 170 0 [some (.int z0), some (.int z1)] [] M 0).bind (qx_kn L xs (d + 1) 25 44 47 170 ls st x) := by
  have h1 : qx_act L xs (qx_rt 25) (44, .invokestatic 110, 47, 170, 2, 627) ls (.int z1 :: .int z0 :: st) M = if 2 ≤ (.int z1 :: .int z0 :: st).length ∧ st.length ≤ 4 then some (.inr (.inr (.inr (170, [.int z0, .int z1], st)))) else none := rfl
  rw [if_pos ⟨by simp [List.length_cons]; try omega, hs⟩] at h1
  exact Rs_call c25_44 h1 rfl
theorem c25_47 : qx_code 25 47 = some (47, .ifCond .eq 7, 50, 54, 0, 0) := by decide +kernel
theorem s25_47 {L : Nat} {xs : Nat → Int32} {d x : Nat} {M : qxM} {st : List Value} {ls : qxL} {z : Int32} : Rs L xs (d) 25 47 ls (.int z :: st) M x = if z = 0 then Rs L xs (d) 25 54 ls st M x else Rs L xs (d) 25 50 ls st M x := Rs_ite c25_47 rfl
theorem c25_50 : qx_code 25 50 = some (50, .iconst 1, 51, 0, 0, 0) := by decide +kernel
theorem s25_50 {L : Nat} {xs : Nat → Int32} {d x : Nat} {M : qxM} {st : List Value} {ls : qxL} : Rs L xs (d) 25 50 ls st M x = Rs L xs (d) 25 51 ls (.int (nI 1) :: st) M x := Rs_next c25_50 rfl
theorem c25_51 : qx_code 25 51 = some (51, .goto 4, 54, 55, 0, 0) := by decide +kernel
theorem s25_51 {L : Nat} {xs : Nat → Int32} {d x : Nat} {M : qxM} {st : List Value} {ls : qxL} : Rs L xs (d) 25 51 ls st M x = Rs L xs (d) 25 55 ls st M x := Rs_next c25_51 rfl
theorem c25_54 : qx_code 25 54 = some (54, .iconst 0, 55, 0, 0, 0) := by decide +kernel
theorem s25_54 {L : Nat} {xs : Nat → Int32} {d x : Nat} {M : qxM} {st : List Value} {ls : qxL} : Rs L xs (d) 25 54 ls st M x = Rs L xs (d) 25 55 ls (.int (nI 0) :: st) M x := Rs_next c25_54 rfl
theorem c25_55 : qx_code 25 55 = some (55, .istore 4, 57, 0, 0, 0) := by decide +kernel
theorem s25_55i {L : Nat} {xs : Nat → Int32} {d x : Nat} {M : qxM} {st : List Value} {a0 a1 a2 a4 : Option Value} {z : Int32} {y : Int32} : Rs L xs (d) 25 55 [a0, a1, a2, some (.int y), a4] (.int z :: st) M x = Rs L xs (d) 25 57 [a0, a1, a2, some (.int y), some (.int z)] st M x := Rs_next c25_55 rfl
theorem s25_55r {L : Nat} {xs : Nat → Int32} {d x : Nat} {M : qxM} {st : List Value} {a0 a1 a2 a4 : Option Value} {z : Int32} {y : Nat} : Rs L xs (d) 25 55 [a0, a1, a2, some (.ref y), a4] (.int z :: st) M x = Rs L xs (d) 25 57 [a0, a1, a2, some (.ref y), some (.int z)] st M x := Rs_next c25_55 rfl
theorem s25_55n {L : Nat} {xs : Nat → Int32} {d x : Nat} {M : qxM} {st : List Value} {a0 a1 a2 a4 : Option Value} {z : Int32} : Rs L xs (d) 25 55 [a0, a1, a2, none, a4] (.int z :: st) M x = Rs L xs (d) 25 57 [a0, a1, a2, none, some (.int z)] st M x := Rs_next c25_55 rfl
theorem c25_57 : qx_code 25 57 = some (57, .iload_n 3, 58, 0, 0, 0) := by decide +kernel
theorem s25_57 {L : Nat} {xs : Nat → Int32} {d x : Nat} {M : qxM} {st : List Value} {a0 a1 a2 a4 : Option Value} {z : Int32} : Rs L xs (d) 25 57 [a0, a1, a2, some (.int z), a4] st M x = Rs L xs (d) 25 58 [a0, a1, a2, some (.int z), a4] (.int z :: st) M x := Rs_next c25_57 rfl
theorem c25_58 : qx_code 25 58 = some (58, .ifCond .ne 8, 61, 66, 0, 0) := by decide +kernel
theorem s25_58 {L : Nat} {xs : Nat → Int32} {d x : Nat} {M : qxM} {st : List Value} {ls : qxL} {z : Int32} : Rs L xs (d) 25 58 ls (.int z :: st) M x = if z = 0 then Rs L xs (d) 25 61 ls st M x else Rs L xs (d) 25 66 ls st M x := Rs_ite c25_58 rfl
theorem c25_61 : qx_code 25 61 = some (61, .iload 4, 63, 0, 0, 0) := by decide +kernel
theorem s25_61 {L : Nat} {xs : Nat → Int32} {d x : Nat} {M : qxM} {st : List Value} {a0 a1 a2 a3 : Option Value} {z : Int32} : Rs L xs (d) 25 61 [a0, a1, a2, a3, some (.int z)] st M x = Rs L xs (d) 25 63 [a0, a1, a2, a3, some (.int z)] (.int z :: st) M x := Rs_next c25_61 rfl
theorem c25_63 : qx_code 25 63 = some (63, .ifCond .eq 5, 66, 68, 0, 0) := by decide +kernel
theorem s25_63 {L : Nat} {xs : Nat → Int32} {d x : Nat} {M : qxM} {st : List Value} {ls : qxL} {z : Int32} : Rs L xs (d) 25 63 ls (.int z :: st) M x = if z = 0 then Rs L xs (d) 25 68 ls st M x else Rs L xs (d) 25 66 ls st M x := Rs_ite c25_63 rfl
theorem c25_66 : qx_code 25 66 = some (66, .iconst 3, 67, 0, 0, 0) := by decide +kernel
theorem s25_66 {L : Nat} {xs : Nat → Int32} {d x : Nat} {M : qxM} {st : List Value} {ls : qxL} : Rs L xs (d) 25 66 ls st M x = Rs L xs (d) 25 67 ls (.int (nI 3) :: st) M x := Rs_next c25_66 rfl
theorem c25_67 : qx_code 25 67 = some (67, .ireturn, 68, 0, 0, 0) := by decide +kernel
theorem s25_67 {L : Nat} {xs : Nat → Int32} {d x : Nat} {M : qxM} {ls : qxL} {z : Int32} : Rs L xs (d) 25 67 ls [.int z] M x = some (.inl (some (.int z)), M, x) := Rs_ret c25_67 rfl
theorem c25_68 : qx_code 25 68 = some (68, .iload_n 1, 69, 0, 0, 0) := by decide +kernel
theorem s25_68 {L : Nat} {xs : Nat → Int32} {d x : Nat} {M : qxM} {st : List Value} {a0 a2 a3 a4 : Option Value} {z : Int32} : Rs L xs (d) 25 68 [a0, some (.int z), a2, a3, a4] st M x = Rs L xs (d) 25 69 [a0, some (.int z), a2, a3, a4] (.int z :: st) M x := Rs_next c25_68 rfl
theorem c25_69 : qx_code 25 69 = some (69, .iconst 3, 70, 0, 0, 0) := by decide +kernel
theorem s25_69 {L : Nat} {xs : Nat → Int32} {d x : Nat} {M : qxM} {st : List Value} {ls : qxL} : Rs L xs (d) 25 69 ls st M x = Rs L xs (d) 25 70 ls (.int (nI 3) :: st) M x := Rs_next c25_69 rfl
theorem c25_70 : qx_code 25 70 = some (70, .if_icmp .eq 5, 73, 75, 0, 0) := by decide +kernel
theorem s25_70 {L : Nat} {xs : Nat → Int32} {d x : Nat} {M : qxM} {st : List Value} {ls : qxL} {z y : Int32} : Rs L xs (d) 25 70 ls (.int y :: .int z :: st) M x = if z = y then Rs L xs (d) 25 75 ls st M x else Rs L xs (d) 25 73 ls st M x := Rs_ite c25_70 rfl
theorem c25_73 : qx_code 25 73 = some (73, .iconst 0, 74, 0, 0, 0) := by decide +kernel
theorem s25_73 {L : Nat} {xs : Nat → Int32} {d x : Nat} {M : qxM} {st : List Value} {ls : qxL} : Rs L xs (d) 25 73 ls st M x = Rs L xs (d) 25 74 ls (.int (nI 0) :: st) M x := Rs_next c25_73 rfl
theorem c25_74 : qx_code 25 74 = some (74, .ireturn, 75, 0, 0, 0) := by decide +kernel
theorem s25_74 {L : Nat} {xs : Nat → Int32} {d x : Nat} {M : qxM} {ls : qxL} {z : Int32} : Rs L xs (d) 25 74 ls [.int z] M x = some (.inl (some (.int z)), M, x) := Rs_ret c25_74 rfl
theorem c25_75 : qx_code 25 75 = some (75, .aload_n 0, 76, 0, 0, 0) := by decide +kernel
theorem s25_75 {L : Nat} {xs : Nat → Int32} {d x : Nat} {M : qxM} {st : List Value} {a1 a2 a3 a4 : Option Value} {z : Nat} : Rs L xs (d) 25 75 [some (.ref z), a1, a2, a3, a4] st M x = Rs L xs (d) 25 76 [some (.ref z), a1, a2, a3, a4] (.ref z :: st) M x := Rs_next c25_75 rfl
theorem c25_76 : qx_code 25 76 = some (76, .getfield 18, 79, 1, 1, 189) := by decide +kernel
theorem s25_76 {L : Nat} {xs : Nat → Int32} {d x : Nat} {M : qxM} {st : List Value} {ls : qxL} {t : Nat} (hk : qx_kd t = 11) : Rs L xs (d) 25 76 ls (.ref t :: st) M x = Rs L xs (d) 25 79 ls (.ref (t + 2) :: st) M x := Rs_when (qx_kd_obj (k := 1) (by decide) hk) c25_76 rfl
theorem c25_79 : qx_code 25 79 = some (79, .aload_n 0, 80, 0, 0, 0) := by decide +kernel
theorem s25_79 {L : Nat} {xs : Nat → Int32} {d x : Nat} {M : qxM} {st : List Value} {a1 a2 a3 a4 : Option Value} {z : Nat} : Rs L xs (d) 25 79 [some (.ref z), a1, a2, a3, a4] st M x = Rs L xs (d) 25 80 [some (.ref z), a1, a2, a3, a4] (.ref z :: st) M x := Rs_next c25_79 rfl
theorem c25_80 : qx_code 25 80 = some (80, .getfield 70, 83, 1, 9, 201) := by decide +kernel
theorem s25_80 {L : Nat} {xs : Nat → Int32} {d x : Nat} {M : qxM} {st : List Value} {ls : qxL} {t : Nat} (hk : qx_kd t = 11) : Rs L xs (d) 25 80 ls (.ref t :: st) M x = Rs L xs (d) 25 83 ls (.int (M.1 t 9) :: st) M x := Rs_when (qx_kd_obj (k := 1) (by decide) hk) c25_80 rfl
theorem c25_83 : qx_code 25 83 = some (83, .invokevirtual 114, 86, 47, 2, 630) := by decide +kernel
theorem s25_83 {L : Nat} {xs : Nat → Int32} {d x : Nat} {M : qxM} {st : List Value} {ls : qxL} {t : Nat} {z0 : Int32} (hk : qx_kd t = 12) (hs : st.length ≤ 4) : Rs L xs (d + 1) 25 83 ls (.int z0 :: .ref t :: st) M x = (Rs L xs d 47 0 [some (.ref t), some (.int z0)] [] M 0).bind (qx_kn L xs (d + 1) 25 83 86 47 ls st x) := by
  have h1 : qx_act L xs (qx_rt 25) (83, .invokevirtual 114, 86, 47, 2, 630) ls (.int z0 :: .ref t :: st) M = if 2 ≤ (.int z0 :: .ref t :: st).length ∧ st.length ≤ 4 then some (.inr (.inr (.inr (47, [.ref t, .int z0], st)))) else none := rfl
  rw [if_pos ⟨by simp [List.length_cons]; try omega, hs⟩] at h1
  have h2 := qx_kd_obj (k := 2) (by decide) hk
  exact Rs_call c25_83 h1 (by rw [show qx_args 47 [.ref t, .int z0] = decide (qx_sh t = some (.inl 2)) from rfl]; exact decide_eq_true h2)
theorem c25_86 : qx_code 25 86 = some (86, .ifCond .ne 5, 89, 91, 0, 0) := by decide +kernel
theorem s25_86 {L : Nat} {xs : Nat → Int32} {d x : Nat} {M : qxM} {st : List Value} {ls : qxL} {z : Int32} : Rs L xs (d) 25 86 ls (.int z :: st) M x = if z = 0 then Rs L xs (d) 25 89 ls st M x else Rs L xs (d) 25 91 ls st M x := Rs_ite c25_86 rfl
theorem c25_89 : qx_code 25 89 = some (89, .iconst 4, 90, 0, 0, 0) := by decide +kernel
theorem s25_89 {L : Nat} {xs : Nat → Int32} {d x : Nat} {M : qxM} {st : List Value} {ls : qxL} : Rs L xs (d) 25 89 ls st M x = Rs L xs (d) 25 90 ls (.int (nI 4) :: st) M x := Rs_next c25_89 rfl
theorem c25_90 : qx_code 25 90 = some (90, .ireturn, 91, 0, 0, 0) := by decide +kernel
theorem s25_90 {L : Nat} {xs : Nat → Int32} {d x : Nat} {M : qxM} {ls : qxL} {z : Int32} : Rs L xs (d) 25 90 ls [.int z] M x = some (.inl (some (.int z)), M, x) := Rs_ret c25_90 rfl
theorem c25_91 : qx_code 25 91 = some (91, .iload_n 2, 92, 0, 0, 0) := by decide +kernel
theorem s25_91 {L : Nat} {xs : Nat → Int32} {d x : Nat} {M : qxM} {st : List Value} {a0 a1 a3 a4 : Option Value} {z : Int32} : Rs L xs (d) 25 91 [a0, a1, some (.int z), a3, a4] st M x = Rs L xs (d) 25 92 [a0, a1, some (.int z), a3, a4] (.int z :: st) M x := Rs_next c25_91 rfl
theorem c25_92 : qx_code 25 92 = some (92, .ifCond .le 28, 95, 120, 0, 0) := by decide +kernel
theorem s25_92 {L : Nat} {xs : Nat → Int32} {d x : Nat} {M : qxM} {st : List Value} {ls : qxL} {z : Int32} : Rs L xs (d) 25 92 ls (.int z :: st) M x = if z ≤ 0 then Rs L xs (d) 25 120 ls st M x else Rs L xs (d) 25 95 ls st M x := Rs_ite c25_92 rfl
theorem c25_95 : qx_code 25 95 = some (95, .aload_n 0, 96, 0, 0, 0) := by decide +kernel
theorem s25_95 {L : Nat} {xs : Nat → Int32} {d x : Nat} {M : qxM} {st : List Value} {a1 a2 a3 a4 : Option Value} {z : Nat} : Rs L xs (d) 25 95 [some (.ref z), a1, a2, a3, a4] st M x = Rs L xs (d) 25 96 [some (.ref z), a1, a2, a3, a4] (.ref z :: st) M x := Rs_next c25_95 rfl
theorem c25_96 : qx_code 25 96 = some (96, .getfield 18, 99, 1, 1, 189) := by decide +kernel
theorem s25_96 {L : Nat} {xs : Nat → Int32} {d x : Nat} {M : qxM} {st : List Value} {ls : qxL} {t : Nat} (hk : qx_kd t = 11) : Rs L xs (d) 25 96 ls (.ref t :: st) M x = Rs L xs (d) 25 99 ls (.ref (t + 2) :: st) M x := Rs_when (qx_kd_obj (k := 1) (by decide) hk) c25_96 rfl
theorem c25_99 : qx_code 25 99 = some (99, .aload_n 0, 100, 0, 0, 0) := by decide +kernel
theorem s25_99 {L : Nat} {xs : Nat → Int32} {d x : Nat} {M : qxM} {st : List Value} {a1 a2 a3 a4 : Option Value} {z : Nat} : Rs L xs (d) 25 99 [some (.ref z), a1, a2, a3, a4] st M x = Rs L xs (d) 25 100 [some (.ref z), a1, a2, a3, a4] (.ref z :: st) M x := Rs_next c25_99 rfl
theorem c25_100 : qx_code 25 100 = some (100, .getfield 95, 103, 1, 10, 202) := by decide +kernel
theorem s25_100 {L : Nat} {xs : Nat → Int32} {d x : Nat} {M : qxM} {st : List Value} {ls : qxL} {t : Nat} (hk : qx_kd t = 11) : Rs L xs (d) 25 100 ls (.ref t :: st) M x = Rs L xs (d) 25 103 ls (.int (M.1 t 10) :: st) M x := Rs_when (qx_kd_obj (k := 1) (by decide) hk) c25_100 rfl
theorem c25_103 : qx_code 25 103 = some (103, .invokevirtual 118, 106, 42, 2, 638) := by decide +kernel
theorem s25_103 {L : Nat} {xs : Nat → Int32} {d x : Nat} {M : qxM} {st : List Value} {ls : qxL} {t : Nat} {z0 : Int32} (hk : qx_kd t = 12) (hs : st.length ≤ 4) : Rs L xs (d + 1) 25 103 ls (.int z0 :: .ref t :: st) M x = (Rs L xs d 42 0 [some (.ref t), some (.int z0)] [] M 0).bind (qx_kn L xs (d + 1) 25 103 106 42 ls st x) := by
  have h1 : qx_act L xs (qx_rt 25) (103, .invokevirtual 118, 106, 42, 2, 638) ls (.int z0 :: .ref t :: st) M = if 2 ≤ (.int z0 :: .ref t :: st).length ∧ st.length ≤ 4 then some (.inr (.inr (.inr (42, [.ref t, .int z0], st)))) else none := rfl
  rw [if_pos ⟨by simp [List.length_cons]; try omega, hs⟩] at h1
  have h2 := qx_kd_obj (k := 2) (by decide) hk
  exact Rs_call c25_103 h1 (by rw [show qx_args 42 [.ref t, .int z0] = decide (qx_sh t = some (.inl 2)) from rfl]; exact decide_eq_true h2)
theorem c25_106 : qx_code 25 106 = some (106, .aload_n 0, 107, 0, 0, 0) := by decide +kernel
theorem s25_106 {L : Nat} {xs : Nat → Int32} {d x : Nat} {M : qxM} {st : List Value} {a1 a2 a3 a4 : Option Value} {z : Nat} : Rs L xs (d) 25 106 [some (.ref z), a1, a2, a3, a4] st M x = Rs L xs (d) 25 107 [some (.ref z), a1, a2, a3, a4] (.ref z :: st) M x := Rs_next c25_106 rfl
theorem c25_107 : qx_code 25 107 = some (107, .getfield 70, 110, 1, 9, 201) := by decide +kernel
theorem s25_107 {L : Nat} {xs : Nat → Int32} {d x : Nat} {M : qxM} {st : List Value} {ls : qxL} {t : Nat} (hk : qx_kd t = 11) : Rs L xs (d) 25 107 ls (.ref t :: st) M x = Rs L xs (d) 25 110 ls (.int (M.1 t 9) :: st) M x := Rs_when (qx_kd_obj (k := 1) (by decide) hk) c25_107 rfl
theorem c25_110 : qx_code 25 110 = some (110, .invokestatic 110, 113, 170, 2, 627) := by decide +kernel
theorem s25_110 {L : Nat} {xs : Nat → Int32} {d x : Nat} {M : qxM} {st : List Value} {ls : qxL} {z0 : Int32} {z1 : Int32} (hs : st.length ≤ 4) : Rs L xs (d + 1) 25 110 ls (.int z1 :: .int z0 :: st) M x = (Rs L xs d 170 0 [some (.int z0), some (.int z1)] [] M 0).bind (qx_kn L xs (d + 1) 25 110 113 170 ls st x) := by
  have h1 : qx_act L xs (qx_rt 25) (110, .invokestatic 110, 113, 170, 2, 627) ls (.int z1 :: .int z0 :: st) M = if 2 ≤ (.int z1 :: .int z0 :: st).length ∧ st.length ≤ 4 then some (.inr (.inr (.inr (170, [.int z0, .int z1], st)))) else none := rfl
  rw [if_pos ⟨by simp [List.length_cons]; try omega, hs⟩] at h1
  exact Rs_call c25_110 h1 rfl
theorem c25_113 : qx_code 25 113 = some (113, .ifCond .ne 7, 116, 120, 0, 0) := by decide +kernel
theorem s25_113 {L : Nat} {xs : Nat → Int32} {d x : Nat} {M : qxM} {st : List Value} {ls : qxL} {z : Int32} : Rs L xs (d) 25 113 ls (.int z :: st) M x = if z = 0 then Rs L xs (d) 25 116 ls st M x else Rs L xs (d) 25 120 ls st M x := Rs_ite c25_113 rfl
theorem c25_116 : qx_code 25 116 = some (116, .iconst 5, 117, 0, 0, 0) := by decide +kernel
theorem s25_116 {L : Nat} {xs : Nat → Int32} {d x : Nat} {M : qxM} {st : List Value} {ls : qxL} : Rs L xs (d) 25 116 ls st M x = Rs L xs (d) 25 117 ls (.int (nI 5) :: st) M x := Rs_next c25_116 rfl
theorem c25_117 : qx_code 25 117 = some (117, .goto 4, 120, 121, 0, 0) := by decide +kernel
theorem s25_117 {L : Nat} {xs : Nat → Int32} {d x : Nat} {M : qxM} {st : List Value} {ls : qxL} : Rs L xs (d) 25 117 ls st M x = Rs L xs (d) 25 121 ls st M x := Rs_next c25_117 rfl
theorem c25_120 : qx_code 25 120 = some (120, .iconst 0, 121, 0, 0, 0) := by decide +kernel
theorem s25_120 {L : Nat} {xs : Nat → Int32} {d x : Nat} {M : qxM} {st : List Value} {ls : qxL} : Rs L xs (d) 25 120 ls st M x = Rs L xs (d) 25 121 ls (.int (nI 0) :: st) M x := Rs_next c25_120 rfl
theorem c25_121 : qx_code 25 121 = some (121, .ireturn, 122, 0, 0, 0) := by decide +kernel
theorem s25_121 {L : Nat} {xs : Nat → Int32} {d x : Nat} {M : qxM} {ls : qxL} {z : Int32} : Rs L xs (d) 25 121 ls [.int z] M x = some (.inl (some (.int z)), M, x) := Rs_ret c25_121 rfl
theorem c26_0 : qx_code 26 0 = some (0, .iload_n 1, 1, 0, 0, 0) := by decide +kernel
theorem s26_0 {L : Nat} {xs : Nat → Int32} {d x : Nat} {M : qxM} {st : List Value} {a0 a2 : Option Value} {z : Int32} : Rs L xs (d) 26 0 [a0, some (.int z), a2] st M x = Rs L xs (d) 26 1 [a0, some (.int z), a2] (.int z :: st) M x := Rs_next c26_0 rfl
theorem c26_1 : qx_code 26 1 = some (1, .ifCond .ne 18, 4, 19, 0, 0) := by decide +kernel
theorem s26_1 {L : Nat} {xs : Nat → Int32} {d x : Nat} {M : qxM} {st : List Value} {ls : qxL} {z : Int32} : Rs L xs (d) 26 1 ls (.int z :: st) M x = if z = 0 then Rs L xs (d) 26 4 ls st M x else Rs L xs (d) 26 19 ls st M x := Rs_ite c26_1 rfl
theorem c26_4 : qx_code 26 4 = some (4, .aload_n 0, 5, 0, 0, 0) := by decide +kernel
theorem s26_4 {L : Nat} {xs : Nat → Int32} {d x : Nat} {M : qxM} {st : List Value} {a1 a2 : Option Value} {z : Nat} : Rs L xs (d) 26 4 [some (.ref z), a1, a2] st M x = Rs L xs (d) 26 5 [some (.ref z), a1, a2] (.ref z :: st) M x := Rs_next c26_4 rfl
theorem c26_5 : qx_code 26 5 = some (5, .getfield 18, 8, 1, 1, 189) := by decide +kernel
theorem s26_5 {L : Nat} {xs : Nat → Int32} {d x : Nat} {M : qxM} {st : List Value} {ls : qxL} {t : Nat} (hk : qx_kd t = 11) : Rs L xs (d) 26 5 ls (.ref t :: st) M x = Rs L xs (d) 26 8 ls (.ref (t + 2) :: st) M x := Rs_when (qx_kd_obj (k := 1) (by decide) hk) c26_5 rfl
theorem c26_8 : qx_code 26 8 = some (8, .aload_n 0, 9, 0, 0, 0) := by decide +kernel
theorem s26_8 {L : Nat} {xs : Nat → Int32} {d x : Nat} {M : qxM} {st : List Value} {a1 a2 : Option Value} {z : Nat} : Rs L xs (d) 26 8 [some (.ref z), a1, a2] st M x = Rs L xs (d) 26 9 [some (.ref z), a1, a2] (.ref z :: st) M x := Rs_next c26_8 rfl
theorem c26_9 : qx_code 26 9 = some (9, .getfield 70, 12, 1, 9, 201) := by decide +kernel
theorem s26_9 {L : Nat} {xs : Nat → Int32} {d x : Nat} {M : qxM} {st : List Value} {ls : qxL} {t : Nat} (hk : qx_kd t = 11) : Rs L xs (d) 26 9 ls (.ref t :: st) M x = Rs L xs (d) 26 12 ls (.int (M.1 t 9) :: st) M x := Rs_when (qx_kd_obj (k := 1) (by decide) hk) c26_9 rfl
theorem c26_12 : qx_code 26 12 = some (12, .iconst 1, 13, 0, 0, 0) := by decide +kernel
theorem s26_12 {L : Nat} {xs : Nat → Int32} {d x : Nat} {M : qxM} {st : List Value} {ls : qxL} : Rs L xs (d) 26 12 ls st M x = Rs L xs (d) 26 13 ls (.int (nI 1) :: st) M x := Rs_next c26_12 rfl
theorem c26_13 : qx_code 26 13 = some (13, .invokevirtual 122, 16, 38, 3, 655) := by decide +kernel
theorem s26_13 {L : Nat} {xs : Nat → Int32} {d x : Nat} {M : qxM} {st : List Value} {ls : qxL} {t : Nat} {z0 : Int32} {z1 : Int32} (hk : qx_kd t = 12) (hs : st.length ≤ 4) : Rs L xs (d + 1) 26 13 ls (.int z1 :: .int z0 :: .ref t :: st) M x = (Rs L xs d 38 0 [some (.ref t), some (.int z0), some (.int z1)] [] M 0).bind (qx_kn L xs (d + 1) 26 13 16 38 ls st x) := by
  have h1 : qx_act L xs (qx_rt 26) (13, .invokevirtual 122, 16, 38, 3, 655) ls (.int z1 :: .int z0 :: .ref t :: st) M = if 3 ≤ (.int z1 :: .int z0 :: .ref t :: st).length ∧ st.length ≤ 4 then some (.inr (.inr (.inr (38, [.ref t, .int z0, .int z1], st)))) else none := rfl
  rw [if_pos ⟨by simp [List.length_cons]; try omega, hs⟩] at h1
  have h2 := qx_kd_obj (k := 2) (by decide) hk
  exact Rs_call c26_13 h1 (by rw [show qx_args 38 [.ref t, .int z0, .int z1] = decide (qx_sh t = some (.inl 2)) from rfl]; exact decide_eq_true h2)
theorem c26_16 : qx_code 26 16 = some (16, .goto 83, 19, 99, 0, 0) := by decide +kernel
theorem s26_16 {L : Nat} {xs : Nat → Int32} {d x : Nat} {M : qxM} {st : List Value} {ls : qxL} : Rs L xs (d) 26 16 ls st M x = Rs L xs (d) 26 99 ls st M x := Rs_next c26_16 rfl
theorem c26_19 : qx_code 26 19 = some (19, .iload_n 1, 20, 0, 0, 0) := by decide +kernel
theorem s26_19 {L : Nat} {xs : Nat → Int32} {d x : Nat} {M : qxM} {st : List Value} {a0 a2 : Option Value} {z : Int32} : Rs L xs (d) 26 19 [a0, some (.int z), a2] st M x = Rs L xs (d) 26 20 [a0, some (.int z), a2] (.int z :: st) M x := Rs_next c26_19 rfl
theorem c26_20 : qx_code 26 20 = some (20, .iconst 1, 21, 0, 0, 0) := by decide +kernel
theorem s26_20 {L : Nat} {xs : Nat → Int32} {d x : Nat} {M : qxM} {st : List Value} {ls : qxL} : Rs L xs (d) 26 20 ls st M x = Rs L xs (d) 26 21 ls (.int (nI 1) :: st) M x := Rs_next c26_20 rfl
theorem c26_21 : qx_code 26 21 = some (21, .if_icmp .ne 26, 24, 47, 0, 0) := by decide +kernel
theorem s26_21 {L : Nat} {xs : Nat → Int32} {d x : Nat} {M : qxM} {st : List Value} {ls : qxL} {z y : Int32} : Rs L xs (d) 26 21 ls (.int y :: .int z :: st) M x = if z = y then Rs L xs (d) 26 24 ls st M x else Rs L xs (d) 26 47 ls st M x := Rs_ite c26_21 rfl
theorem c26_24 : qx_code 26 24 = some (24, .iload_n 2, 25, 0, 0, 0) := by decide +kernel
theorem s26_24 {L : Nat} {xs : Nat → Int32} {d x : Nat} {M : qxM} {st : List Value} {a0 a1 : Option Value} {z : Int32} : Rs L xs (d) 26 24 [a0, a1, some (.int z)] st M x = Rs L xs (d) 26 25 [a0, a1, some (.int z)] (.int z :: st) M x := Rs_next c26_24 rfl
theorem c26_25 : qx_code 26 25 = some (25, .ifCond .le 22, 28, 47, 0, 0) := by decide +kernel
theorem s26_25 {L : Nat} {xs : Nat → Int32} {d x : Nat} {M : qxM} {st : List Value} {ls : qxL} {z : Int32} : Rs L xs (d) 26 25 ls (.int z :: st) M x = if z ≤ 0 then Rs L xs (d) 26 47 ls st M x else Rs L xs (d) 26 28 ls st M x := Rs_ite c26_25 rfl
theorem c26_28 : qx_code 26 28 = some (28, .aload_n 0, 29, 0, 0, 0) := by decide +kernel
theorem s26_28 {L : Nat} {xs : Nat → Int32} {d x : Nat} {M : qxM} {st : List Value} {a1 a2 : Option Value} {z : Nat} : Rs L xs (d) 26 28 [some (.ref z), a1, a2] st M x = Rs L xs (d) 26 29 [some (.ref z), a1, a2] (.ref z :: st) M x := Rs_next c26_28 rfl
theorem c26_29 : qx_code 26 29 = some (29, .getfield 18, 32, 1, 1, 189) := by decide +kernel
theorem s26_29 {L : Nat} {xs : Nat → Int32} {d x : Nat} {M : qxM} {st : List Value} {ls : qxL} {t : Nat} (hk : qx_kd t = 11) : Rs L xs (d) 26 29 ls (.ref t :: st) M x = Rs L xs (d) 26 32 ls (.ref (t + 2) :: st) M x := Rs_when (qx_kd_obj (k := 1) (by decide) hk) c26_29 rfl
theorem c26_32 : qx_code 26 32 = some (32, .aload_n 0, 33, 0, 0, 0) := by decide +kernel
theorem s26_32 {L : Nat} {xs : Nat → Int32} {d x : Nat} {M : qxM} {st : List Value} {a1 a2 : Option Value} {z : Nat} : Rs L xs (d) 26 32 [some (.ref z), a1, a2] st M x = Rs L xs (d) 26 33 [some (.ref z), a1, a2] (.ref z :: st) M x := Rs_next c26_32 rfl
theorem c26_33 : qx_code 26 33 = some (33, .getfield 95, 36, 1, 10, 202) := by decide +kernel
theorem s26_33 {L : Nat} {xs : Nat → Int32} {d x : Nat} {M : qxM} {st : List Value} {ls : qxL} {t : Nat} (hk : qx_kd t = 11) : Rs L xs (d) 26 33 ls (.ref t :: st) M x = Rs L xs (d) 26 36 ls (.int (M.1 t 10) :: st) M x := Rs_when (qx_kd_obj (k := 1) (by decide) hk) c26_33 rfl
theorem c26_36 : qx_code 26 36 = some (36, .aload_n 0, 37, 0, 0, 0) := by decide +kernel
theorem s26_36 {L : Nat} {xs : Nat → Int32} {d x : Nat} {M : qxM} {st : List Value} {a1 a2 : Option Value} {z : Nat} : Rs L xs (d) 26 36 [some (.ref z), a1, a2] st M x = Rs L xs (d) 26 37 [some (.ref z), a1, a2] (.ref z :: st) M x := Rs_next c26_36 rfl
theorem c26_37 : qx_code 26 37 = some (37, .getfield 70, 40, 1, 9, 201) := by decide +kernel
theorem s26_37 {L : Nat} {xs : Nat → Int32} {d x : Nat} {M : qxM} {st : List Value} {ls : qxL} {t : Nat} (hk : qx_kd t = 11) : Rs L xs (d) 26 37 ls (.ref t :: st) M x = Rs L xs (d) 26 40 ls (.int (M.1 t 9) :: st) M x := Rs_when (qx_kd_obj (k := 1) (by decide) hk) c26_37 rfl
theorem c26_40 : qx_code 26 40 = some (40, .iconst 1, 41, 0, 0, 0) := by decide +kernel
theorem s26_40 {L : Nat} {xs : Nat → Int32} {d x : Nat} {M : qxM} {st : List Value} {ls : qxL} : Rs L xs (d) 26 40 ls st M x = Rs L xs (d) 26 41 ls (.int (nI 1) :: st) M x := Rs_next c26_40 rfl
theorem c26_41 : qx_code 26 41 = some (41, .invokevirtual 98, 44, 40, 4, 662) := by decide +kernel
theorem s26_41 {L : Nat} {xs : Nat → Int32} {d x : Nat} {M : qxM} {st : List Value} {ls : qxL} {t : Nat} {z0 : Int32} {z1 : Int32} {z2 : Int32} (hk : qx_kd t = 12) (hs : st.length ≤ 4) : Rs L xs (d + 1) 26 41 ls (.int z2 :: .int z1 :: .int z0 :: .ref t :: st) M x = (Rs L xs d 40 0 [some (.ref t), some (.int z0), some (.int z1), some (.int z2)] [] M 0).bind (qx_kn L xs (d + 1) 26 41 44 40 ls st x) := by
  have h1 : qx_act L xs (qx_rt 26) (41, .invokevirtual 98, 44, 40, 4, 662) ls (.int z2 :: .int z1 :: .int z0 :: .ref t :: st) M = if 4 ≤ (.int z2 :: .int z1 :: .int z0 :: .ref t :: st).length ∧ st.length ≤ 4 then some (.inr (.inr (.inr (40, [.ref t, .int z0, .int z1, .int z2], st)))) else none := rfl
  rw [if_pos ⟨by simp [List.length_cons]; try omega, hs⟩] at h1
  have h2 := qx_kd_obj (k := 2) (by decide) hk
  exact Rs_call c26_41 h1 (by rw [show qx_args 40 [.ref t, .int z0, .int z1, .int z2] = decide (qx_sh t = some (.inl 2)) from rfl]; exact decide_eq_true h2)
theorem c26_44 : qx_code 26 44 = some (44, .goto 55, 47, 99, 0, 0) := by decide +kernel
theorem s26_44 {L : Nat} {xs : Nat → Int32} {d x : Nat} {M : qxM} {st : List Value} {ls : qxL} : Rs L xs (d) 26 44 ls st M x = Rs L xs (d) 26 99 ls st M x := Rs_next c26_44 rfl
theorem c26_47 : qx_code 26 47 = some (47, .iload_n 1, 48, 0, 0, 0) := by decide +kernel
theorem s26_47 {L : Nat} {xs : Nat → Int32} {d x : Nat} {M : qxM} {st : List Value} {a0 a2 : Option Value} {z : Int32} : Rs L xs (d) 26 47 [a0, some (.int z), a2] st M x = Rs L xs (d) 26 48 [a0, some (.int z), a2] (.int z :: st) M x := Rs_next c26_47 rfl
theorem c26_48 : qx_code 26 48 = some (48, .iconst 2, 49, 0, 0, 0) := by decide +kernel
theorem s26_48 {L : Nat} {xs : Nat → Int32} {d x : Nat} {M : qxM} {st : List Value} {ls : qxL} : Rs L xs (d) 26 48 ls st M x = Rs L xs (d) 26 49 ls (.int (nI 2) :: st) M x := Rs_next c26_48 rfl
theorem c26_49 : qx_code 26 49 = some (49, .if_icmp .ne 26, 52, 75, 0, 0) := by decide +kernel
theorem s26_49 {L : Nat} {xs : Nat → Int32} {d x : Nat} {M : qxM} {st : List Value} {ls : qxL} {z y : Int32} : Rs L xs (d) 26 49 ls (.int y :: .int z :: st) M x = if z = y then Rs L xs (d) 26 52 ls st M x else Rs L xs (d) 26 75 ls st M x := Rs_ite c26_49 rfl
theorem c26_52 : qx_code 26 52 = some (52, .iload_n 2, 53, 0, 0, 0) := by decide +kernel
theorem s26_52 {L : Nat} {xs : Nat → Int32} {d x : Nat} {M : qxM} {st : List Value} {a0 a1 : Option Value} {z : Int32} : Rs L xs (d) 26 52 [a0, a1, some (.int z)] st M x = Rs L xs (d) 26 53 [a0, a1, some (.int z)] (.int z :: st) M x := Rs_next c26_52 rfl
theorem c26_53 : qx_code 26 53 = some (53, .ifCond .le 22, 56, 75, 0, 0) := by decide +kernel
theorem s26_53 {L : Nat} {xs : Nat → Int32} {d x : Nat} {M : qxM} {st : List Value} {ls : qxL} {z : Int32} : Rs L xs (d) 26 53 ls (.int z :: st) M x = if z ≤ 0 then Rs L xs (d) 26 75 ls st M x else Rs L xs (d) 26 56 ls st M x := Rs_ite c26_53 rfl
theorem c26_56 : qx_code 26 56 = some (56, .aload_n 0, 57, 0, 0, 0) := by decide +kernel
theorem s26_56 {L : Nat} {xs : Nat → Int32} {d x : Nat} {M : qxM} {st : List Value} {a1 a2 : Option Value} {z : Nat} : Rs L xs (d) 26 56 [some (.ref z), a1, a2] st M x = Rs L xs (d) 26 57 [some (.ref z), a1, a2] (.ref z :: st) M x := Rs_next c26_56 rfl
theorem c26_57 : qx_code 26 57 = some (57, .getfield 18, 60, 1, 1, 189) := by decide +kernel
theorem s26_57 {L : Nat} {xs : Nat → Int32} {d x : Nat} {M : qxM} {st : List Value} {ls : qxL} {t : Nat} (hk : qx_kd t = 11) : Rs L xs (d) 26 57 ls (.ref t :: st) M x = Rs L xs (d) 26 60 ls (.ref (t + 2) :: st) M x := Rs_when (qx_kd_obj (k := 1) (by decide) hk) c26_57 rfl
theorem c26_60 : qx_code 26 60 = some (60, .aload_n 0, 61, 0, 0, 0) := by decide +kernel
theorem s26_60 {L : Nat} {xs : Nat → Int32} {d x : Nat} {M : qxM} {st : List Value} {a1 a2 : Option Value} {z : Nat} : Rs L xs (d) 26 60 [some (.ref z), a1, a2] st M x = Rs L xs (d) 26 61 [some (.ref z), a1, a2] (.ref z :: st) M x := Rs_next c26_60 rfl
theorem c26_61 : qx_code 26 61 = some (61, .getfield 92, 64, 1, 11, 203) := by decide +kernel
theorem s26_61 {L : Nat} {xs : Nat → Int32} {d x : Nat} {M : qxM} {st : List Value} {ls : qxL} {t : Nat} (hk : qx_kd t = 11) : Rs L xs (d) 26 61 ls (.ref t :: st) M x = Rs L xs (d) 26 64 ls (.int (M.1 t 11) :: st) M x := Rs_when (qx_kd_obj (k := 1) (by decide) hk) c26_61 rfl
theorem c26_64 : qx_code 26 64 = some (64, .aload_n 0, 65, 0, 0, 0) := by decide +kernel
theorem s26_64 {L : Nat} {xs : Nat → Int32} {d x : Nat} {M : qxM} {st : List Value} {a1 a2 : Option Value} {z : Nat} : Rs L xs (d) 26 64 [some (.ref z), a1, a2] st M x = Rs L xs (d) 26 65 [some (.ref z), a1, a2] (.ref z :: st) M x := Rs_next c26_64 rfl
theorem c26_65 : qx_code 26 65 = some (65, .getfield 70, 68, 1, 9, 201) := by decide +kernel
theorem s26_65 {L : Nat} {xs : Nat → Int32} {d x : Nat} {M : qxM} {st : List Value} {ls : qxL} {t : Nat} (hk : qx_kd t = 11) : Rs L xs (d) 26 65 ls (.ref t :: st) M x = Rs L xs (d) 26 68 ls (.int (M.1 t 9) :: st) M x := Rs_when (qx_kd_obj (k := 1) (by decide) hk) c26_65 rfl
theorem c26_68 : qx_code 26 68 = some (68, .iconst 1, 69, 0, 0, 0) := by decide +kernel
theorem s26_68 {L : Nat} {xs : Nat → Int32} {d x : Nat} {M : qxM} {st : List Value} {ls : qxL} : Rs L xs (d) 26 68 ls st M x = Rs L xs (d) 26 69 ls (.int (nI 1) :: st) M x := Rs_next c26_68 rfl
theorem c26_69 : qx_code 26 69 = some (69, .invokevirtual 98, 72, 40, 4, 662) := by decide +kernel
theorem s26_69 {L : Nat} {xs : Nat → Int32} {d x : Nat} {M : qxM} {st : List Value} {ls : qxL} {t : Nat} {z0 : Int32} {z1 : Int32} {z2 : Int32} (hk : qx_kd t = 12) (hs : st.length ≤ 4) : Rs L xs (d + 1) 26 69 ls (.int z2 :: .int z1 :: .int z0 :: .ref t :: st) M x = (Rs L xs d 40 0 [some (.ref t), some (.int z0), some (.int z1), some (.int z2)] [] M 0).bind (qx_kn L xs (d + 1) 26 69 72 40 ls st x) := by
  have h1 : qx_act L xs (qx_rt 26) (69, .invokevirtual 98, 72, 40, 4, 662) ls (.int z2 :: .int z1 :: .int z0 :: .ref t :: st) M = if 4 ≤ (.int z2 :: .int z1 :: .int z0 :: .ref t :: st).length ∧ st.length ≤ 4 then some (.inr (.inr (.inr (40, [.ref t, .int z0, .int z1, .int z2], st)))) else none := rfl
  rw [if_pos ⟨by simp [List.length_cons]; try omega, hs⟩] at h1
  have h2 := qx_kd_obj (k := 2) (by decide) hk
  exact Rs_call c26_69 h1 (by rw [show qx_args 40 [.ref t, .int z0, .int z1, .int z2] = decide (qx_sh t = some (.inl 2)) from rfl]; exact decide_eq_true h2)
theorem c26_72 : qx_code 26 72 = some (72, .goto 27, 75, 99, 0, 0) := by decide +kernel
theorem s26_72 {L : Nat} {xs : Nat → Int32} {d x : Nat} {M : qxM} {st : List Value} {ls : qxL} : Rs L xs (d) 26 72 ls st M x = Rs L xs (d) 26 99 ls st M x := Rs_next c26_72 rfl
theorem c26_75 : qx_code 26 75 = some (75, .iload_n 1, 76, 0, 0, 0) := by decide +kernel
theorem s26_75 {L : Nat} {xs : Nat → Int32} {d x : Nat} {M : qxM} {st : List Value} {a0 a2 : Option Value} {z : Int32} : Rs L xs (d) 26 75 [a0, some (.int z), a2] st M x = Rs L xs (d) 26 76 [a0, some (.int z), a2] (.int z :: st) M x := Rs_next c26_75 rfl
theorem c26_76 : qx_code 26 76 = some (76, .iconst 3, 77, 0, 0, 0) := by decide +kernel
theorem s26_76 {L : Nat} {xs : Nat → Int32} {d x : Nat} {M : qxM} {st : List Value} {ls : qxL} : Rs L xs (d) 26 76 ls st M x = Rs L xs (d) 26 77 ls (.int (nI 3) :: st) M x := Rs_next c26_76 rfl
theorem c26_77 : qx_code 26 77 = some (77, .if_icmp .ne 22, 80, 99, 0, 0) := by decide +kernel
theorem s26_77 {L : Nat} {xs : Nat → Int32} {d x : Nat} {M : qxM} {st : List Value} {ls : qxL} {z y : Int32} : Rs L xs (d) 26 77 ls (.int y :: .int z :: st) M x = if z = y then Rs L xs (d) 26 80 ls st M x else Rs L xs (d) 26 99 ls st M x := Rs_ite c26_77 rfl
theorem c26_80 : qx_code 26 80 = some (80, .iload_n 2, 81, 0, 0, 0) := by decide +kernel
theorem s26_80 {L : Nat} {xs : Nat → Int32} {d x : Nat} {M : qxM} {st : List Value} {a0 a1 : Option Value} {z : Int32} : Rs L xs (d) 26 80 [a0, a1, some (.int z)] st M x = Rs L xs (d) 26 81 [a0, a1, some (.int z)] (.int z :: st) M x := Rs_next c26_80 rfl
theorem c26_81 : qx_code 26 81 = some (81, .ifCond .le 18, 84, 99, 0, 0) := by decide +kernel
theorem s26_81 {L : Nat} {xs : Nat → Int32} {d x : Nat} {M : qxM} {st : List Value} {ls : qxL} {z : Int32} : Rs L xs (d) 26 81 ls (.int z :: st) M x = if z ≤ 0 then Rs L xs (d) 26 99 ls st M x else Rs L xs (d) 26 84 ls st M x := Rs_ite c26_81 rfl
theorem c26_84 : qx_code 26 84 = some (84, .aload_n 0, 85, 0, 0, 0) := by decide +kernel
theorem s26_84 {L : Nat} {xs : Nat → Int32} {d x : Nat} {M : qxM} {st : List Value} {a1 a2 : Option Value} {z : Nat} : Rs L xs (d) 26 84 [some (.ref z), a1, a2] st M x = Rs L xs (d) 26 85 [some (.ref z), a1, a2] (.ref z :: st) M x := Rs_next c26_84 rfl
theorem c26_85 : qx_code 26 85 = some (85, .getfield 18, 88, 1, 1, 189) := by decide +kernel
theorem s26_85 {L : Nat} {xs : Nat → Int32} {d x : Nat} {M : qxM} {st : List Value} {ls : qxL} {t : Nat} (hk : qx_kd t = 11) : Rs L xs (d) 26 85 ls (.ref t :: st) M x = Rs L xs (d) 26 88 ls (.ref (t + 2) :: st) M x := Rs_when (qx_kd_obj (k := 1) (by decide) hk) c26_85 rfl
theorem c26_88 : qx_code 26 88 = some (88, .aload_n 0, 89, 0, 0, 0) := by decide +kernel
theorem s26_88 {L : Nat} {xs : Nat → Int32} {d x : Nat} {M : qxM} {st : List Value} {a1 a2 : Option Value} {z : Nat} : Rs L xs (d) 26 88 [some (.ref z), a1, a2] st M x = Rs L xs (d) 26 89 [some (.ref z), a1, a2] (.ref z :: st) M x := Rs_next c26_88 rfl
theorem c26_89 : qx_code 26 89 = some (89, .getfield 95, 92, 1, 10, 202) := by decide +kernel
theorem s26_89 {L : Nat} {xs : Nat → Int32} {d x : Nat} {M : qxM} {st : List Value} {ls : qxL} {t : Nat} (hk : qx_kd t = 11) : Rs L xs (d) 26 89 ls (.ref t :: st) M x = Rs L xs (d) 26 92 ls (.int (M.1 t 10) :: st) M x := Rs_when (qx_kd_obj (k := 1) (by decide) hk) c26_89 rfl
theorem c26_92 : qx_code 26 92 = some (92, .aload_n 0, 93, 0, 0, 0) := by decide +kernel
theorem s26_92 {L : Nat} {xs : Nat → Int32} {d x : Nat} {M : qxM} {st : List Value} {a1 a2 : Option Value} {z : Nat} : Rs L xs (d) 26 92 [some (.ref z), a1, a2] st M x = Rs L xs (d) 26 93 [some (.ref z), a1, a2] (.ref z :: st) M x := Rs_next c26_92 rfl
theorem c26_93 : qx_code 26 93 = some (93, .getfield 70, 96, 1, 9, 201) := by decide +kernel
theorem s26_93 {L : Nat} {xs : Nat → Int32} {d x : Nat} {M : qxM} {st : List Value} {ls : qxL} {t : Nat} (hk : qx_kd t = 11) : Rs L xs (d) 26 93 ls (.ref t :: st) M x = Rs L xs (d) 26 96 ls (.int (M.1 t 9) :: st) M x := Rs_when (qx_kd_obj (k := 1) (by decide) hk) c26_93 rfl
theorem c26_96 : qx_code 26 96 = some (96, .invokevirtual 125, 99, 49, 3, 669) := by decide +kernel
theorem s26_96 {L : Nat} {xs : Nat → Int32} {d x : Nat} {M : qxM} {st : List Value} {ls : qxL} {t : Nat} {z0 : Int32} {z1 : Int32} (hk : qx_kd t = 12) (hs : st.length ≤ 4) : Rs L xs (d + 1) 26 96 ls (.int z1 :: .int z0 :: .ref t :: st) M x = (Rs L xs d 49 0 [some (.ref t), some (.int z0), some (.int z1)] [] M 0).bind (qx_kn L xs (d + 1) 26 96 99 49 ls st x) := by
  have h1 : qx_act L xs (qx_rt 26) (96, .invokevirtual 125, 99, 49, 3, 669) ls (.int z1 :: .int z0 :: .ref t :: st) M = if 3 ≤ (.int z1 :: .int z0 :: .ref t :: st).length ∧ st.length ≤ 4 then some (.inr (.inr (.inr (49, [.ref t, .int z0, .int z1], st)))) else none := rfl
  rw [if_pos ⟨by simp [List.length_cons]; try omega, hs⟩] at h1
  have h2 := qx_kd_obj (k := 2) (by decide) hk
  exact Rs_call c26_96 h1 (by rw [show qx_args 49 [.ref t, .int z0, .int z1] = decide (qx_sh t = some (.inl 2)) from rfl]; exact decide_eq_true h2)
theorem c26_99 : qx_code 26 99 = some (99, .iload_n 2, 100, 0, 0, 0) := by decide +kernel
theorem s26_99 {L : Nat} {xs : Nat → Int32} {d x : Nat} {M : qxM} {st : List Value} {a0 a1 : Option Value} {z : Int32} : Rs L xs (d) 26 99 [a0, a1, some (.int z)] st M x = Rs L xs (d) 26 100 [a0, a1, some (.int z)] (.int z :: st) M x := Rs_next c26_99 rfl
theorem c26_100 : qx_code 26 100 = some (100, .ifCond .ne 11, 103, 111, 0, 0) := by decide +kernel
theorem s26_100 {L : Nat} {xs : Nat → Int32} {d x : Nat} {M : qxM} {st : List Value} {ls : qxL} {z : Int32} : Rs L xs (d) 26 100 ls (.int z :: st) M x = if z = 0 then Rs L xs (d) 26 103 ls st M x else Rs L xs (d) 26 111 ls st M x := Rs_ite c26_100 rfl
theorem c26_103 : qx_code 26 103 = some (103, .aload_n 0, 104, 0, 0, 0) := by decide +kernel
theorem s26_103 {L : Nat} {xs : Nat → Int32} {d x : Nat} {M : qxM} {st : List Value} {a1 a2 : Option Value} {z : Nat} : Rs L xs (d) 26 103 [some (.ref z), a1, a2] st M x = Rs L xs (d) 26 104 [some (.ref z), a1, a2] (.ref z :: st) M x := Rs_next c26_103 rfl
theorem c26_104 : qx_code 26 104 = some (104, .aload_n 0, 105, 0, 0, 0) := by decide +kernel
theorem s26_104 {L : Nat} {xs : Nat → Int32} {d x : Nat} {M : qxM} {st : List Value} {a1 a2 : Option Value} {z : Nat} : Rs L xs (d) 26 104 [some (.ref z), a1, a2] st M x = Rs L xs (d) 26 105 [some (.ref z), a1, a2] (.ref z :: st) M x := Rs_next c26_104 rfl
theorem c26_105 : qx_code 26 105 = some (105, .getfield 70, 108, 1, 9, 201) := by decide +kernel
theorem s26_105 {L : Nat} {xs : Nat → Int32} {d x : Nat} {M : qxM} {st : List Value} {ls : qxL} {t : Nat} (hk : qx_kd t = 11) : Rs L xs (d) 26 105 ls (.ref t :: st) M x = Rs L xs (d) 26 108 ls (.int (M.1 t 9) :: st) M x := Rs_when (qx_kd_obj (k := 1) (by decide) hk) c26_105 rfl
theorem c26_108 : qx_code 26 108 = some (108, .putfield 95, 111, 1, 10, 202) := by decide +kernel
theorem s26_108 {L : Nat} {xs : Nat → Int32} {d x : Nat} {M : qxM} {st : List Value} {ls : qxL} {t : Nat} {z : Int32} (hk : qx_kd t = 11) : Rs L xs (d) 26 108 ls (.int z :: .ref t :: st) M x = Rs L xs (d) 26 111 ls st (qx_up M t 10 z) x := Rs_when (cnd := qx_sh t = some (.inl 1) ∧ qx_fo 1 10 = none ∧ (qx_bf 1 10 = true → z = 0 ∨ z = 1)) ⟨qx_kd_obj (k := 1) (by decide) hk, rfl, fun h => nomatch h⟩ c26_108 rfl
theorem c26_111 : qx_code 26 111 = some (111, .aload_n 0, 112, 0, 0, 0) := by decide +kernel
theorem s26_111 {L : Nat} {xs : Nat → Int32} {d x : Nat} {M : qxM} {st : List Value} {a1 a2 : Option Value} {z : Nat} : Rs L xs (d) 26 111 [some (.ref z), a1, a2] st M x = Rs L xs (d) 26 112 [some (.ref z), a1, a2] (.ref z :: st) M x := Rs_next c26_111 rfl
theorem c26_112 : qx_code 26 112 = some (112, .aload_n 0, 113, 0, 0, 0) := by decide +kernel
theorem s26_112 {L : Nat} {xs : Nat → Int32} {d x : Nat} {M : qxM} {st : List Value} {a1 a2 : Option Value} {z : Nat} : Rs L xs (d) 26 112 [some (.ref z), a1, a2] st M x = Rs L xs (d) 26 113 [some (.ref z), a1, a2] (.ref z :: st) M x := Rs_next c26_112 rfl
theorem c26_113 : qx_code 26 113 = some (113, .getfield 70, 116, 1, 9, 201) := by decide +kernel
theorem s26_113 {L : Nat} {xs : Nat → Int32} {d x : Nat} {M : qxM} {st : List Value} {ls : qxL} {t : Nat} (hk : qx_kd t = 11) : Rs L xs (d) 26 113 ls (.ref t :: st) M x = Rs L xs (d) 26 116 ls (.int (M.1 t 9) :: st) M x := Rs_when (qx_kd_obj (k := 1) (by decide) hk) c26_113 rfl
theorem c26_116 : qx_code 26 116 = some (116, .putfield 92, 119, 1, 11, 203) := by decide +kernel
theorem s26_116 {L : Nat} {xs : Nat → Int32} {d x : Nat} {M : qxM} {st : List Value} {ls : qxL} {t : Nat} {z : Int32} (hk : qx_kd t = 11) : Rs L xs (d) 26 116 ls (.int z :: .ref t :: st) M x = Rs L xs (d) 26 119 ls st (qx_up M t 11 z) x := Rs_when (cnd := qx_sh t = some (.inl 1) ∧ qx_fo 1 11 = none ∧ (qx_bf 1 11 = true → z = 0 ∨ z = 1)) ⟨qx_kd_obj (k := 1) (by decide) hk, rfl, fun h => nomatch h⟩ c26_116 rfl
theorem c26_119 : qx_code 26 119 = some (119, .aload_n 0, 120, 0, 0, 0) := by decide +kernel
theorem s26_119 {L : Nat} {xs : Nat → Int32} {d x : Nat} {M : qxM} {st : List Value} {a1 a2 : Option Value} {z : Nat} : Rs L xs (d) 26 119 [some (.ref z), a1, a2] st M x = Rs L xs (d) 26 120 [some (.ref z), a1, a2] (.ref z :: st) M x := Rs_next c26_119 rfl
theorem c26_120 : qx_code 26 120 = some (120, .dup, 121, 0, 0, 0) := by decide +kernel
theorem s26_120r {L : Nat} {xs : Nat → Int32} {d x : Nat} {M : qxM} {st : List Value} {ls : qxL} {z : Nat} : Rs L xs (d) 26 120 ls (.ref z :: st) M x = Rs L xs (d) 26 121 ls (.ref z :: .ref z :: st) M x := Rs_next c26_120 rfl
theorem s26_120i {L : Nat} {xs : Nat → Int32} {d x : Nat} {M : qxM} {st : List Value} {ls : qxL} {z : Int32} : Rs L xs (d) 26 120 ls (.int z :: st) M x = Rs L xs (d) 26 121 ls (.int z :: .int z :: st) M x := Rs_next c26_120 rfl
theorem c26_121 : qx_code 26 121 = some (121, .getfield 82, 124, 1, 12, 204) := by decide +kernel
theorem s26_121 {L : Nat} {xs : Nat → Int32} {d x : Nat} {M : qxM} {st : List Value} {ls : qxL} {t : Nat} (hk : qx_kd t = 11) : Rs L xs (d) 26 121 ls (.ref t :: st) M x = Rs L xs (d) 26 124 ls (.int (M.1 t 12) :: st) M x := Rs_when (qx_kd_obj (k := 1) (by decide) hk) c26_121 rfl
theorem c26_124 : qx_code 26 124 = some (124, .aload_n 0, 125, 0, 0, 0) := by decide +kernel
theorem s26_124 {L : Nat} {xs : Nat → Int32} {d x : Nat} {M : qxM} {st : List Value} {a1 a2 : Option Value} {z : Nat} : Rs L xs (d) 26 124 [some (.ref z), a1, a2] st M x = Rs L xs (d) 26 125 [some (.ref z), a1, a2] (.ref z :: st) M x := Rs_next c26_124 rfl
theorem c26_125 : qx_code 26 125 = some (125, .getfield 70, 128, 1, 9, 201) := by decide +kernel
theorem s26_125 {L : Nat} {xs : Nat → Int32} {d x : Nat} {M : qxM} {st : List Value} {ls : qxL} {t : Nat} (hk : qx_kd t = 11) : Rs L xs (d) 26 125 ls (.ref t :: st) M x = Rs L xs (d) 26 128 ls (.int (M.1 t 9) :: st) M x := Rs_when (qx_kd_obj (k := 1) (by decide) hk) c26_125 rfl
theorem c26_128 : qx_code 26 128 = some (128, .invokestatic 128, 131, 169, 1, 673) := by decide +kernel
theorem s26_128 {L : Nat} {xs : Nat → Int32} {d x : Nat} {M : qxM} {st : List Value} {ls : qxL} {z0 : Int32} (hs : st.length ≤ 4) : Rs L xs (d + 1) 26 128 ls (.int z0 :: st) M x = (Rs L xs d 169 0 [some (.int z0)] [] M 0).bind (qx_kn L xs (d + 1) 26 128 131 169 ls st x) := by
  have h1 : qx_act L xs (qx_rt 26) (128, .invokestatic 128, 131, 169, 1, 673) ls (.int z0 :: st) M = if 1 ≤ (.int z0 :: st).length ∧ st.length ≤ 4 then some (.inr (.inr (.inr (169, [.int z0], st)))) else none := rfl
  rw [if_pos ⟨by simp [List.length_cons]; try omega, hs⟩] at h1
  exact Rs_call c26_128 h1 rfl
theorem c26_131 : qx_code 26 131 = some (131, .ior, 132, 0, 0, 0) := by decide +kernel
theorem s26_131 {L : Nat} {xs : Nat → Int32} {d x : Nat} {M : qxM} {st : List Value} {ls : qxL} {z y : Int32} : Rs L xs (d) 26 131 ls (.int y :: .int z :: st) M x = Rs L xs (d) 26 132 ls (.int (z ||| y) :: st) M x := Rs_next c26_131 rfl
theorem c26_132 : qx_code 26 132 = some (132, .putfield 82, 135, 1, 12, 204) := by decide +kernel
theorem s26_132 {L : Nat} {xs : Nat → Int32} {d x : Nat} {M : qxM} {st : List Value} {ls : qxL} {t : Nat} {z : Int32} (hk : qx_kd t = 11) : Rs L xs (d) 26 132 ls (.int z :: .ref t :: st) M x = Rs L xs (d) 26 135 ls st (qx_up M t 12 z) x := Rs_when (cnd := qx_sh t = some (.inl 1) ∧ qx_fo 1 12 = none ∧ (qx_bf 1 12 = true → z = 0 ∨ z = 1)) ⟨qx_kd_obj (k := 1) (by decide) hk, rfl, fun h => nomatch h⟩ c26_132 rfl
theorem c26_135 : qx_code 26 135 = some (135, .return_, 136, 0, 0, 0) := by decide +kernel
theorem s26_135 {L : Nat} {xs : Nat → Int32} {d x : Nat} {M : qxM} {ls : qxL} : Rs L xs (d) 26 135 ls [] M x = some (.inl none, M, x) := Rs_ret c26_135 rfl
theorem c27_0 : qx_code 27 0 = some (0, .aload_n 0, 1, 0, 0, 0) := by decide +kernel
theorem s27_0 {L : Nat} {xs : Nat → Int32} {d x : Nat} {M : qxM} {st : List Value} {a1 a2 : Option Value} {z : Nat} : Rs L xs (d) 27 0 [some (.ref z), a1, a2] st M x = Rs L xs (d) 27 1 [some (.ref z), a1, a2] (.ref z :: st) M x := Rs_next c27_0 rfl
theorem c27_1 : qx_code 27 1 = some (1, .getfield 45, 4, 1, 7, 199) := by decide +kernel
theorem s27_1 {L : Nat} {xs : Nat → Int32} {d x : Nat} {M : qxM} {st : List Value} {ls : qxL} {t : Nat} (hk : qx_kd t = 11) : Rs L xs (d) 27 1 ls (.ref t :: st) M x = Rs L xs (d) 27 4 ls (.int (M.1 t 7) :: st) M x := Rs_when (qx_kd_obj (k := 1) (by decide) hk) c27_1 rfl
theorem c27_4 : qx_code 27 4 = some (4, .iconst 2, 5, 0, 0, 0) := by decide +kernel
theorem s27_4 {L : Nat} {xs : Nat → Int32} {d x : Nat} {M : qxM} {st : List Value} {ls : qxL} : Rs L xs (d) 27 4 ls st M x = Rs L xs (d) 27 5 ls (.int (nI 2) :: st) M x := Rs_next c27_4 rfl
theorem c27_5 : qx_code 27 5 = some (5, .if_icmp .eq 5, 8, 10, 0, 0) := by decide +kernel
theorem s27_5 {L : Nat} {xs : Nat → Int32} {d x : Nat} {M : qxM} {st : List Value} {ls : qxL} {z y : Int32} : Rs L xs (d) 27 5 ls (.int y :: .int z :: st) M x = if z = y then Rs L xs (d) 27 10 ls st M x else Rs L xs (d) 27 8 ls st M x := Rs_ite c27_5 rfl
theorem c27_8 : qx_code 27 8 = some (8, .iconst 1, 9, 0, 0, 0) := by decide +kernel
theorem s27_8 {L : Nat} {xs : Nat → Int32} {d x : Nat} {M : qxM} {st : List Value} {ls : qxL} : Rs L xs (d) 27 8 ls st M x = Rs L xs (d) 27 9 ls (.int (nI 1) :: st) M x := Rs_next c27_8 rfl
theorem c27_9 : qx_code 27 9 = some (9, .ireturn, 10, 0, 0, 0) := by decide +kernel
theorem s27_9 {L : Nat} {xs : Nat → Int32} {d x : Nat} {M : qxM} {ls : qxL} {z : Int32} : Rs L xs (d) 27 9 ls [.int z] M x = some (.inl (some (.int z)), M, x) := Rs_ret c27_9 rfl
theorem c27_10 : qx_code 27 10 = some (10, .aload_n 0, 11, 0, 0, 0) := by decide +kernel
theorem s27_10 {L : Nat} {xs : Nat → Int32} {d x : Nat} {M : qxM} {st : List Value} {a1 a2 : Option Value} {z : Nat} : Rs L xs (d) 27 10 [some (.ref z), a1, a2] st M x = Rs L xs (d) 27 11 [some (.ref z), a1, a2] (.ref z :: st) M x := Rs_next c27_10 rfl
theorem c27_11 : qx_code 27 11 = some (11, .getfield 70, 14, 1, 9, 201) := by decide +kernel
theorem s27_11 {L : Nat} {xs : Nat → Int32} {d x : Nat} {M : qxM} {st : List Value} {ls : qxL} {t : Nat} (hk : qx_kd t = 11) : Rs L xs (d) 27 11 ls (.ref t :: st) M x = Rs L xs (d) 27 14 ls (.int (M.1 t 9) :: st) M x := Rs_when (qx_kd_obj (k := 1) (by decide) hk) c27_11 rfl
theorem c27_14 : qx_code 27 14 = some (14, .iload_n 1, 15, 0, 0, 0) := by decide +kernel
theorem s27_14 {L : Nat} {xs : Nat → Int32} {d x : Nat} {M : qxM} {st : List Value} {a0 a2 : Option Value} {z : Int32} : Rs L xs (d) 27 14 [a0, some (.int z), a2] st M x = Rs L xs (d) 27 15 [a0, some (.int z), a2] (.int z :: st) M x := Rs_next c27_14 rfl
theorem c27_15 : qx_code 27 15 = some (15, .if_icmp .lt 11, 18, 26, 0, 0) := by decide +kernel
theorem s27_15 {L : Nat} {xs : Nat → Int32} {d x : Nat} {M : qxM} {st : List Value} {ls : qxL} {z y : Int32} : Rs L xs (d) 27 15 ls (.int y :: .int z :: st) M x = if z < y then Rs L xs (d) 27 26 ls st M x else Rs L xs (d) 27 18 ls st M x := Rs_ite c27_15 rfl
theorem c27_18 : qx_code 27 18 = some (18, .aload_n 0, 19, 0, 0, 0) := by decide +kernel
theorem s27_18 {L : Nat} {xs : Nat → Int32} {d x : Nat} {M : qxM} {st : List Value} {a1 a2 : Option Value} {z : Nat} : Rs L xs (d) 27 18 [some (.ref z), a1, a2] st M x = Rs L xs (d) 27 19 [some (.ref z), a1, a2] (.ref z :: st) M x := Rs_next c27_18 rfl
theorem c27_19 : qx_code 27 19 = some (19, .getfield 70, 22, 1, 9, 201) := by decide +kernel
theorem s27_19 {L : Nat} {xs : Nat → Int32} {d x : Nat} {M : qxM} {st : List Value} {ls : qxL} {t : Nat} (hk : qx_kd t = 11) : Rs L xs (d) 27 19 ls (.ref t :: st) M x = Rs L xs (d) 27 22 ls (.int (M.1 t 9) :: st) M x := Rs_when (qx_kd_obj (k := 1) (by decide) hk) c27_19 rfl
theorem c27_22 : qx_code 27 22 = some (22, .iload_n 2, 23, 0, 0, 0) := by decide +kernel
theorem s27_22 {L : Nat} {xs : Nat → Int32} {d x : Nat} {M : qxM} {st : List Value} {a0 a1 : Option Value} {z : Int32} : Rs L xs (d) 27 22 [a0, a1, some (.int z)] st M x = Rs L xs (d) 27 23 [a0, a1, some (.int z)] (.int z :: st) M x := Rs_next c27_22 rfl
theorem c27_23 : qx_code 27 23 = some (23, .if_icmp .le 7, 26, 30, 0, 0) := by decide +kernel
theorem s27_23 {L : Nat} {xs : Nat → Int32} {d x : Nat} {M : qxM} {st : List Value} {ls : qxL} {z y : Int32} : Rs L xs (d) 27 23 ls (.int y :: .int z :: st) M x = if z ≤ y then Rs L xs (d) 27 30 ls st M x else Rs L xs (d) 27 26 ls st M x := Rs_ite c27_23 rfl
theorem c27_26 : qx_code 27 26 = some (26, .iconst 2, 27, 0, 0, 0) := by decide +kernel
theorem s27_26 {L : Nat} {xs : Nat → Int32} {d x : Nat} {M : qxM} {st : List Value} {ls : qxL} : Rs L xs (d) 27 26 ls st M x = Rs L xs (d) 27 27 ls (.int (nI 2) :: st) M x := Rs_next c27_26 rfl
theorem c27_27 : qx_code 27 27 = some (27, .goto 4, 30, 31, 0, 0) := by decide +kernel
theorem s27_27 {L : Nat} {xs : Nat → Int32} {d x : Nat} {M : qxM} {st : List Value} {ls : qxL} : Rs L xs (d) 27 27 ls st M x = Rs L xs (d) 27 31 ls st M x := Rs_next c27_27 rfl
theorem c27_30 : qx_code 27 30 = some (30, .iconst 0, 31, 0, 0, 0) := by decide +kernel
theorem s27_30 {L : Nat} {xs : Nat → Int32} {d x : Nat} {M : qxM} {st : List Value} {ls : qxL} : Rs L xs (d) 27 30 ls st M x = Rs L xs (d) 27 31 ls (.int (nI 0) :: st) M x := Rs_next c27_30 rfl
theorem c27_31 : qx_code 27 31 = some (31, .ireturn, 32, 0, 0, 0) := by decide +kernel
theorem s27_31 {L : Nat} {xs : Nat → Int32} {d x : Nat} {M : qxM} {ls : qxL} {z : Int32} : Rs L xs (d) 27 31 ls [.int z] M x = some (.inl (some (.int z)), M, x) := Rs_ret c27_31 rfl
theorem c28_0 : qx_code 28 0 = some (0, .aload_n 0, 1, 0, 0, 0) := by decide +kernel
theorem s28_0 {L : Nat} {xs : Nat → Int32} {d x : Nat} {M : qxM} {st : List Value} {z : Nat} : Rs L xs (d) 28 0 [some (.ref z)] st M x = Rs L xs (d) 28 1 [some (.ref z)] (.ref z :: st) M x := Rs_next c28_0 rfl
theorem c28_1 : qx_code 28 1 = some (1, .getfield 32, 4, 1, 6, 198) := by decide +kernel
theorem s28_1 {L : Nat} {xs : Nat → Int32} {d x : Nat} {M : qxM} {st : List Value} {ls : qxL} {t : Nat} (hk : qx_kd t = 11) : Rs L xs (d) 28 1 ls (.ref t :: st) M x = Rs L xs (d) 28 4 ls (.int (M.1 t 6) :: st) M x := Rs_when (qx_kd_obj (k := 1) (by decide) hk) c28_1 rfl
theorem c28_4 : qx_code 28 4 = some (4, .aload_n 0, 5, 0, 0, 0) := by decide +kernel
theorem s28_4 {L : Nat} {xs : Nat → Int32} {d x : Nat} {M : qxM} {st : List Value} {z : Nat} : Rs L xs (d) 28 4 [some (.ref z)] st M x = Rs L xs (d) 28 5 [some (.ref z)] (.ref z :: st) M x := Rs_next c28_4 rfl
theorem c28_5 : qx_code 28 5 = some (5, .getfield 29, 8, 1, 5, 197) := by decide +kernel
theorem s28_5 {L : Nat} {xs : Nat → Int32} {d x : Nat} {M : qxM} {st : List Value} {ls : qxL} {t : Nat} (hk : qx_kd t = 11) : Rs L xs (d) 28 5 ls (.ref t :: st) M x = Rs L xs (d) 28 8 ls (.int (M.1 t 5) :: st) M x := Rs_when (qx_kd_obj (k := 1) (by decide) hk) c28_5 rfl
theorem c28_8 : qx_code 28 8 = some (8, .if_icmp .ge 29, 11, 37, 0, 0) := by decide +kernel
theorem s28_8 {L : Nat} {xs : Nat → Int32} {d x : Nat} {M : qxM} {st : List Value} {ls : qxL} {z y : Int32} : Rs L xs (d) 28 8 ls (.int y :: .int z :: st) M x = if y ≤ z then Rs L xs (d) 28 37 ls st M x else Rs L xs (d) 28 11 ls st M x := Rs_ite c28_8 rfl
theorem c28_11 : qx_code 28 11 = some (11, .aload_n 0, 12, 0, 0, 0) := by decide +kernel
theorem s28_11 {L : Nat} {xs : Nat → Int32} {d x : Nat} {M : qxM} {st : List Value} {z : Nat} : Rs L xs (d) 28 11 [some (.ref z)] st M x = Rs L xs (d) 28 12 [some (.ref z)] (.ref z :: st) M x := Rs_next c28_11 rfl
theorem c28_12 : qx_code 28 12 = some (12, .aload_n 0, 13, 0, 0, 0) := by decide +kernel
theorem s28_12 {L : Nat} {xs : Nat → Int32} {d x : Nat} {M : qxM} {st : List Value} {z : Nat} : Rs L xs (d) 28 12 [some (.ref z)] st M x = Rs L xs (d) 28 13 [some (.ref z)] (.ref z :: st) M x := Rs_next c28_12 rfl
theorem c28_13 : qx_code 28 13 = some (13, .getfield 32, 16, 1, 6, 198) := by decide +kernel
theorem s28_13 {L : Nat} {xs : Nat → Int32} {d x : Nat} {M : qxM} {st : List Value} {ls : qxL} {t : Nat} (hk : qx_kd t = 11) : Rs L xs (d) 28 13 ls (.ref t :: st) M x = Rs L xs (d) 28 16 ls (.int (M.1 t 6) :: st) M x := Rs_when (qx_kd_obj (k := 1) (by decide) hk) c28_13 rfl
theorem c28_16 : qx_code 28 16 = some (16, .invokevirtual 131, 19, 33, 2, 538) := by decide +kernel
theorem s28_16 {L : Nat} {xs : Nat → Int32} {d x : Nat} {M : qxM} {st : List Value} {ls : qxL} {t : Nat} {z0 : Int32} (hk : qx_kd t = 11) (hs : st.length ≤ 4) : Rs L xs (d + 1) 28 16 ls (.int z0 :: .ref t :: st) M x = (Rs L xs d 33 0 [some (.ref t), some (.int z0)] [] M 0).bind (qx_kn L xs (d + 1) 28 16 19 33 ls st x) := by
  have h1 : qx_act L xs (qx_rt 28) (16, .invokevirtual 131, 19, 33, 2, 538) ls (.int z0 :: .ref t :: st) M = if 2 ≤ (.int z0 :: .ref t :: st).length ∧ st.length ≤ 4 then some (.inr (.inr (.inr (33, [.ref t, .int z0], st)))) else none := rfl
  rw [if_pos ⟨by simp [List.length_cons]; try omega, hs⟩] at h1
  have h2 := qx_kd_obj (k := 1) (by decide) hk
  exact Rs_call c28_16 h1 (by rw [show qx_args 33 [.ref t, .int z0] = decide (qx_sh t = some (.inl 1)) from rfl]; exact decide_eq_true h2)
theorem c28_19 : qx_code 28 19 = some (19, .bipush 32, 21, 0, 0, 0) := by decide +kernel
theorem s28_19 {L : Nat} {xs : Nat → Int32} {d x : Nat} {M : qxM} {st : List Value} {ls : qxL} : Rs L xs (d) 28 19 ls st M x = Rs L xs (d) 28 21 ls (.int (nI 32) :: st) M x := Rs_next c28_19 rfl
theorem c28_21 : qx_code 28 21 = some (21, .if_icmp .ne 16, 24, 37, 0, 0) := by decide +kernel
theorem s28_21 {L : Nat} {xs : Nat → Int32} {d x : Nat} {M : qxM} {st : List Value} {ls : qxL} {z y : Int32} : Rs L xs (d) 28 21 ls (.int y :: .int z :: st) M x = if z = y then Rs L xs (d) 28 24 ls st M x else Rs L xs (d) 28 37 ls st M x := Rs_ite c28_21 rfl
theorem c28_24 : qx_code 28 24 = some (24, .aload_n 0, 25, 0, 0, 0) := by decide +kernel
theorem s28_24 {L : Nat} {xs : Nat → Int32} {d x : Nat} {M : qxM} {st : List Value} {z : Nat} : Rs L xs (d) 28 24 [some (.ref z)] st M x = Rs L xs (d) 28 25 [some (.ref z)] (.ref z :: st) M x := Rs_next c28_24 rfl
theorem c28_25 : qx_code 28 25 = some (25, .dup, 26, 0, 0, 0) := by decide +kernel
theorem s28_25r {L : Nat} {xs : Nat → Int32} {d x : Nat} {M : qxM} {st : List Value} {ls : qxL} {z : Nat} : Rs L xs (d) 28 25 ls (.ref z :: st) M x = Rs L xs (d) 28 26 ls (.ref z :: .ref z :: st) M x := Rs_next c28_25 rfl
theorem s28_25i {L : Nat} {xs : Nat → Int32} {d x : Nat} {M : qxM} {st : List Value} {ls : qxL} {z : Int32} : Rs L xs (d) 28 25 ls (.int z :: st) M x = Rs L xs (d) 28 26 ls (.int z :: .int z :: st) M x := Rs_next c28_25 rfl
theorem c28_26 : qx_code 28 26 = some (26, .getfield 32, 29, 1, 6, 198) := by decide +kernel
theorem s28_26 {L : Nat} {xs : Nat → Int32} {d x : Nat} {M : qxM} {st : List Value} {ls : qxL} {t : Nat} (hk : qx_kd t = 11) : Rs L xs (d) 28 26 ls (.ref t :: st) M x = Rs L xs (d) 28 29 ls (.int (M.1 t 6) :: st) M x := Rs_when (qx_kd_obj (k := 1) (by decide) hk) c28_26 rfl
theorem c28_29 : qx_code 28 29 = some (29, .iconst 1, 30, 0, 0, 0) := by decide +kernel
theorem s28_29 {L : Nat} {xs : Nat → Int32} {d x : Nat} {M : qxM} {st : List Value} {ls : qxL} : Rs L xs (d) 28 29 ls st M x = Rs L xs (d) 28 30 ls (.int (nI 1) :: st) M x := Rs_next c28_29 rfl
theorem c28_30 : qx_code 28 30 = some (30, .iadd, 31, 0, 0, 0) := by decide +kernel
theorem s28_30 {L : Nat} {xs : Nat → Int32} {d x : Nat} {M : qxM} {st : List Value} {ls : qxL} {z y : Int32} : Rs L xs (d) 28 30 ls (.int y :: .int z :: st) M x = Rs L xs (d) 28 31 ls (.int (z + y) :: st) M x := Rs_next c28_30 rfl
theorem c28_31 : qx_code 28 31 = some (31, .putfield 32, 34, 1, 6, 198) := by decide +kernel
theorem s28_31 {L : Nat} {xs : Nat → Int32} {d x : Nat} {M : qxM} {st : List Value} {ls : qxL} {t : Nat} {z : Int32} (hk : qx_kd t = 11) : Rs L xs (d) 28 31 ls (.int z :: .ref t :: st) M x = Rs L xs (d) 28 34 ls st (qx_up M t 6 z) x := Rs_when (cnd := qx_sh t = some (.inl 1) ∧ qx_fo 1 6 = none ∧ (qx_bf 1 6 = true → z = 0 ∨ z = 1)) ⟨qx_kd_obj (k := 1) (by decide) hk, rfl, fun h => nomatch h⟩ c28_31 rfl
theorem c28_34 : qx_code 28 34 = some (34, .goto (-34), 37, 0, 0, 0) := by decide +kernel
theorem s28_34 {L : Nat} {xs : Nat → Int32} {d x : Nat} {M : qxM} {st : List Value} {ls : qxL} : Rs L xs (d) 28 34 ls st M x = Rs L xs (d) 28 0 ls st M x := Rs_next c28_34 rfl
theorem c28_37 : qx_code 28 37 = some (37, .aload_n 0, 38, 0, 0, 0) := by decide +kernel
theorem s28_37 {L : Nat} {xs : Nat → Int32} {d x : Nat} {M : qxM} {st : List Value} {z : Nat} : Rs L xs (d) 28 37 [some (.ref z)] st M x = Rs L xs (d) 28 38 [some (.ref z)] (.ref z :: st) M x := Rs_next c28_37 rfl
theorem c28_38 : qx_code 28 38 = some (38, .aload_n 0, 39, 0, 0, 0) := by decide +kernel
theorem s28_38 {L : Nat} {xs : Nat → Int32} {d x : Nat} {M : qxM} {st : List Value} {z : Nat} : Rs L xs (d) 28 38 [some (.ref z)] st M x = Rs L xs (d) 28 39 [some (.ref z)] (.ref z :: st) M x := Rs_next c28_38 rfl
theorem c28_39 : qx_code 28 39 = some (39, .getfield 32, 42, 1, 6, 198) := by decide +kernel
theorem s28_39 {L : Nat} {xs : Nat → Int32} {d x : Nat} {M : qxM} {st : List Value} {ls : qxL} {t : Nat} (hk : qx_kd t = 11) : Rs L xs (d) 28 39 ls (.ref t :: st) M x = Rs L xs (d) 28 42 ls (.int (M.1 t 6) :: st) M x := Rs_when (qx_kd_obj (k := 1) (by decide) hk) c28_39 rfl
theorem c28_42 : qx_code 28 42 = some (42, .putfield 51, 45, 1, 8, 200) := by decide +kernel
theorem s28_42 {L : Nat} {xs : Nat → Int32} {d x : Nat} {M : qxM} {st : List Value} {ls : qxL} {t : Nat} {z : Int32} (hk : qx_kd t = 11) : Rs L xs (d) 28 42 ls (.int z :: .ref t :: st) M x = Rs L xs (d) 28 45 ls st (qx_up M t 8 z) x := Rs_when (cnd := qx_sh t = some (.inl 1) ∧ qx_fo 1 8 = none ∧ (qx_bf 1 8 = true → z = 0 ∨ z = 1)) ⟨qx_kd_obj (k := 1) (by decide) hk, rfl, fun h => nomatch h⟩ c28_42 rfl
theorem c28_45 : qx_code 28 45 = some (45, .aload_n 0, 46, 0, 0, 0) := by decide +kernel
theorem s28_45 {L : Nat} {xs : Nat → Int32} {d x : Nat} {M : qxM} {st : List Value} {z : Nat} : Rs L xs (d) 28 45 [some (.ref z)] st M x = Rs L xs (d) 28 46 [some (.ref z)] (.ref z :: st) M x := Rs_next c28_45 rfl
theorem c28_46 : qx_code 28 46 = some (46, .getfield 32, 49, 1, 6, 198) := by decide +kernel
theorem s28_46 {L : Nat} {xs : Nat → Int32} {d x : Nat} {M : qxM} {st : List Value} {ls : qxL} {t : Nat} (hk : qx_kd t = 11) : Rs L xs (d) 28 46 ls (.ref t :: st) M x = Rs L xs (d) 28 49 ls (.int (M.1 t 6) :: st) M x := Rs_when (qx_kd_obj (k := 1) (by decide) hk) c28_46 rfl
theorem c28_49 : qx_code 28 49 = some (49, .aload_n 0, 50, 0, 0, 0) := by decide +kernel
theorem s28_49 {L : Nat} {xs : Nat → Int32} {d x : Nat} {M : qxM} {st : List Value} {z : Nat} : Rs L xs (d) 28 49 [some (.ref z)] st M x = Rs L xs (d) 28 50 [some (.ref z)] (.ref z :: st) M x := Rs_next c28_49 rfl
theorem c28_50 : qx_code 28 50 = some (50, .getfield 29, 53, 1, 5, 197) := by decide +kernel
theorem s28_50 {L : Nat} {xs : Nat → Int32} {d x : Nat} {M : qxM} {st : List Value} {ls : qxL} {t : Nat} (hk : qx_kd t = 11) : Rs L xs (d) 28 50 ls (.ref t :: st) M x = Rs L xs (d) 28 53 ls (.int (M.1 t 5) :: st) M x := Rs_when (qx_kd_obj (k := 1) (by decide) hk) c28_50 rfl
theorem c28_53 : qx_code 28 53 = some (53, .if_icmp .lt 11, 56, 64, 0, 0) := by decide +kernel
theorem s28_53 {L : Nat} {xs : Nat → Int32} {d x : Nat} {M : qxM} {st : List Value} {ls : qxL} {z y : Int32} : Rs L xs (d) 28 53 ls (.int y :: .int z :: st) M x = if z < y then Rs L xs (d) 28 64 ls st M x else Rs L xs (d) 28 56 ls st M x := Rs_ite c28_53 rfl
theorem c28_56 : qx_code 28 56 = some (56, .aload_n 0, 57, 0, 0, 0) := by decide +kernel
theorem s28_56 {L : Nat} {xs : Nat → Int32} {d x : Nat} {M : qxM} {st : List Value} {z : Nat} : Rs L xs (d) 28 56 [some (.ref z)] st M x = Rs L xs (d) 28 57 [some (.ref z)] (.ref z :: st) M x := Rs_next c28_56 rfl
theorem c28_57 : qx_code 28 57 = some (57, .iconst 4, 58, 0, 0, 0) := by decide +kernel
theorem s28_57 {L : Nat} {xs : Nat → Int32} {d x : Nat} {M : qxM} {st : List Value} {ls : qxL} : Rs L xs (d) 28 57 ls st M x = Rs L xs (d) 28 58 ls (.int (nI 4) :: st) M x := Rs_next c28_57 rfl
theorem c28_58 : qx_code 28 58 = some (58, .putfield 45, 61, 1, 7, 199) := by decide +kernel
theorem s28_58 {L : Nat} {xs : Nat → Int32} {d x : Nat} {M : qxM} {st : List Value} {ls : qxL} {t : Nat} {z : Int32} (hk : qx_kd t = 11) : Rs L xs (d) 28 58 ls (.int z :: .ref t :: st) M x = Rs L xs (d) 28 61 ls st (qx_up M t 7 z) x := Rs_when (cnd := qx_sh t = some (.inl 1) ∧ qx_fo 1 7 = none ∧ (qx_bf 1 7 = true → z = 0 ∨ z = 1)) ⟨qx_kd_obj (k := 1) (by decide) hk, rfl, fun h => nomatch h⟩ c28_58 rfl
theorem c28_61 : qx_code 28 61 = some (61, .goto 152, 64, 213, 0, 0) := by decide +kernel
theorem s28_61 {L : Nat} {xs : Nat → Int32} {d x : Nat} {M : qxM} {st : List Value} {ls : qxL} : Rs L xs (d) 28 61 ls st M x = Rs L xs (d) 28 213 ls st M x := Rs_next c28_61 rfl
theorem c28_64 : qx_code 28 64 = some (64, .aload_n 0, 65, 0, 0, 0) := by decide +kernel
theorem s28_64 {L : Nat} {xs : Nat → Int32} {d x : Nat} {M : qxM} {st : List Value} {z : Nat} : Rs L xs (d) 28 64 [some (.ref z)] st M x = Rs L xs (d) 28 65 [some (.ref z)] (.ref z :: st) M x := Rs_next c28_64 rfl
theorem c28_65 : qx_code 28 65 = some (65, .aload_n 0, 66, 0, 0, 0) := by decide +kernel
theorem s28_65 {L : Nat} {xs : Nat → Int32} {d x : Nat} {M : qxM} {st : List Value} {z : Nat} : Rs L xs (d) 28 65 [some (.ref z)] st M x = Rs L xs (d) 28 66 [some (.ref z)] (.ref z :: st) M x := Rs_next c28_65 rfl
theorem c28_66 : qx_code 28 66 = some (66, .getfield 32, 69, 1, 6, 198) := by decide +kernel
theorem s28_66 {L : Nat} {xs : Nat → Int32} {d x : Nat} {M : qxM} {st : List Value} {ls : qxL} {t : Nat} (hk : qx_kd t = 11) : Rs L xs (d) 28 66 ls (.ref t :: st) M x = Rs L xs (d) 28 69 ls (.int (M.1 t 6) :: st) M x := Rs_when (qx_kd_obj (k := 1) (by decide) hk) c28_66 rfl
theorem c28_69 : qx_code 28 69 = some (69, .bipush 97, 71, 0, 0, 0) := by decide +kernel
theorem s28_69 {L : Nat} {xs : Nat → Int32} {d x : Nat} {M : qxM} {st : List Value} {ls : qxL} : Rs L xs (d) 28 69 ls st M x = Rs L xs (d) 28 71 ls (.int (nI 97) :: st) M x := Rs_next c28_69 rfl
theorem c28_71 : qx_code 28 71 = some (71, .bipush 122, 73, 0, 0, 0) := by decide +kernel
theorem s28_71 {L : Nat} {xs : Nat → Int32} {d x : Nat} {M : qxM} {st : List Value} {ls : qxL} : Rs L xs (d) 28 71 ls st M x = Rs L xs (d) 28 73 ls (.int (nI 122) :: st) M x := Rs_next c28_71 rfl
theorem c28_73 : qx_code 28 73 = some (73, .invokevirtual 134, 76, 32, 4, 542) := by decide +kernel
theorem s28_73 {L : Nat} {xs : Nat → Int32} {d x : Nat} {M : qxM} {st : List Value} {ls : qxL} {t : Nat} {z0 : Int32} {z1 : Int32} {z2 : Int32} (hk : qx_kd t = 11) (hs : st.length ≤ 4) : Rs L xs (d + 1) 28 73 ls (.int z2 :: .int z1 :: .int z0 :: .ref t :: st) M x = (Rs L xs d 32 0 [some (.ref t), some (.int z0), some (.int z1), some (.int z2)] [] M 0).bind (qx_kn L xs (d + 1) 28 73 76 32 ls st x) := by
  have h1 : qx_act L xs (qx_rt 28) (73, .invokevirtual 134, 76, 32, 4, 542) ls (.int z2 :: .int z1 :: .int z0 :: .ref t :: st) M = if 4 ≤ (.int z2 :: .int z1 :: .int z0 :: .ref t :: st).length ∧ st.length ≤ 4 then some (.inr (.inr (.inr (32, [.ref t, .int z0, .int z1, .int z2], st)))) else none := rfl
  rw [if_pos ⟨by simp [List.length_cons]; try omega, hs⟩] at h1
  have h2 := qx_kd_obj (k := 1) (by decide) hk
  exact Rs_call c28_73 h1 (by rw [show qx_args 32 [.ref t, .int z0, .int z1, .int z2] = decide (qx_sh t = some (.inl 1)) from rfl]; exact decide_eq_true h2)
theorem c28_76 : qx_code 28 76 = some (76, .ifCond .eq 37, 79, 113, 0, 0) := by decide +kernel
theorem s28_76 {L : Nat} {xs : Nat → Int32} {d x : Nat} {M : qxM} {st : List Value} {ls : qxL} {z : Int32} : Rs L xs (d) 28 76 ls (.int z :: st) M x = if z = 0 then Rs L xs (d) 28 113 ls st M x else Rs L xs (d) 28 79 ls st M x := Rs_ite c28_76 rfl
theorem c28_79 : qx_code 28 79 = some (79, .aload_n 0, 80, 0, 0, 0) := by decide +kernel
theorem s28_79 {L : Nat} {xs : Nat → Int32} {d x : Nat} {M : qxM} {st : List Value} {z : Nat} : Rs L xs (d) 28 79 [some (.ref z)] st M x = Rs L xs (d) 28 80 [some (.ref z)] (.ref z :: st) M x := Rs_next c28_79 rfl
theorem c28_80 : qx_code 28 80 = some (80, .bipush 97, 82, 0, 0, 0) := by decide +kernel
theorem s28_80 {L : Nat} {xs : Nat → Int32} {d x : Nat} {M : qxM} {st : List Value} {ls : qxL} : Rs L xs (d) 28 80 ls st M x = Rs L xs (d) 28 82 ls (.int (nI 97) :: st) M x := Rs_next c28_80 rfl
theorem c28_82 : qx_code 28 82 = some (82, .bipush 122, 84, 0, 0, 0) := by decide +kernel
theorem s28_82 {L : Nat} {xs : Nat → Int32} {d x : Nat} {M : qxM} {st : List Value} {ls : qxL} : Rs L xs (d) 28 82 ls st M x = Rs L xs (d) 28 84 ls (.int (nI 122) :: st) M x := Rs_next c28_82 rfl
theorem c28_84 : qx_code 28 84 = some (84, .invokevirtual 138, 87, 29, 3, 546) := by decide +kernel
theorem s28_84 {L : Nat} {xs : Nat → Int32} {d x : Nat} {M : qxM} {st : List Value} {ls : qxL} {t : Nat} {z0 : Int32} {z1 : Int32} (hk : qx_kd t = 11) (hs : st.length ≤ 4) : Rs L xs (d + 1) 28 84 ls (.int z1 :: .int z0 :: .ref t :: st) M x = (Rs L xs d 29 0 [some (.ref t), some (.int z0), some (.int z1)] [] M 0).bind (qx_kn L xs (d + 1) 28 84 87 29 ls st x) := by
  have h1 : qx_act L xs (qx_rt 28) (84, .invokevirtual 138, 87, 29, 3, 546) ls (.int z1 :: .int z0 :: .ref t :: st) M = if 3 ≤ (.int z1 :: .int z0 :: .ref t :: st).length ∧ st.length ≤ 4 then some (.inr (.inr (.inr (29, [.ref t, .int z0, .int z1], st)))) else none := rfl
  rw [if_pos ⟨by simp [List.length_cons]; try omega, hs⟩] at h1
  have h2 := qx_kd_obj (k := 1) (by decide) hk
  exact Rs_call c28_84 h1 (by rw [show qx_args 29 [.ref t, .int z0, .int z1] = decide (qx_sh t = some (.inl 1)) from rfl]; exact decide_eq_true h2)
theorem c28_87 : qx_code 28 87 = some (87, .aload_n 0, 88, 0, 0, 0) := by decide +kernel
theorem s28_87 {L : Nat} {xs : Nat → Int32} {d x : Nat} {M : qxM} {st : List Value} {z : Nat} : Rs L xs (d) 28 87 [some (.ref z)] st M x = Rs L xs (d) 28 88 [some (.ref z)] (.ref z :: st) M x := Rs_next c28_87 rfl
theorem c28_88 : qx_code 28 88 = some (88, .aload_n 0, 89, 0, 0, 0) := by decide +kernel
theorem s28_88 {L : Nat} {xs : Nat → Int32} {d x : Nat} {M : qxM} {st : List Value} {z : Nat} : Rs L xs (d) 28 88 [some (.ref z)] st M x = Rs L xs (d) 28 89 [some (.ref z)] (.ref z :: st) M x := Rs_next c28_88 rfl
theorem c28_89 : qx_code 28 89 = some (89, .getfield 32, 92, 1, 6, 198) := by decide +kernel
theorem s28_89 {L : Nat} {xs : Nat → Int32} {d x : Nat} {M : qxM} {st : List Value} {ls : qxL} {t : Nat} (hk : qx_kd t = 11) : Rs L xs (d) 28 89 ls (.ref t :: st) M x = Rs L xs (d) 28 92 ls (.int (M.1 t 6) :: st) M x := Rs_when (qx_kd_obj (k := 1) (by decide) hk) c28_89 rfl
theorem c28_92 : qx_code 28 92 = some (92, .aload_n 0, 93, 0, 0, 0) := by decide +kernel
theorem s28_92 {L : Nat} {xs : Nat → Int32} {d x : Nat} {M : qxM} {st : List Value} {z : Nat} : Rs L xs (d) 28 92 [some (.ref z)] st M x = Rs L xs (d) 28 93 [some (.ref z)] (.ref z :: st) M x := Rs_next c28_92 rfl
theorem c28_93 : qx_code 28 93 = some (93, .getfield 51, 96, 1, 8, 200) := by decide +kernel
theorem s28_93 {L : Nat} {xs : Nat → Int32} {d x : Nat} {M : qxM} {st : List Value} {ls : qxL} {t : Nat} (hk : qx_kd t = 11) : Rs L xs (d) 28 93 ls (.ref t :: st) M x = Rs L xs (d) 28 96 ls (.int (M.1 t 8) :: st) M x := Rs_when (qx_kd_obj (k := 1) (by decide) hk) c28_93 rfl
theorem c28_96 : qx_code 28 96 = some (96, .isub, 97, 0, 0, 0) := by decide +kernel
theorem s28_96 {L : Nat} {xs : Nat → Int32} {d x : Nat} {M : qxM} {st : List Value} {ls : qxL} {z y : Int32} : Rs L xs (d) 28 96 ls (.int y :: .int z :: st) M x = Rs L xs (d) 28 97 ls (.int (z - y) :: st) M x := Rs_next c28_96 rfl
theorem c28_97 : qx_code 28 97 = some (97, .bipush 6, 99, 0, 0, 0) := by decide +kernel
theorem s28_97 {L : Nat} {xs : Nat → Int32} {d x : Nat} {M : qxM} {st : List Value} {ls : qxL} : Rs L xs (d) 28 97 ls st M x = Rs L xs (d) 28 99 ls (.int (nI 6) :: st) M x := Rs_next c28_97 rfl
theorem c28_99 : qx_code 28 99 = some (99, .if_icmp .gt 7, 102, 106, 0, 0) := by decide +kernel
theorem s28_99 {L : Nat} {xs : Nat → Int32} {d x : Nat} {M : qxM} {st : List Value} {ls : qxL} {z y : Int32} : Rs L xs (d) 28 99 ls (.int y :: .int z :: st) M x = if y < z then Rs L xs (d) 28 106 ls st M x else Rs L xs (d) 28 102 ls st M x := Rs_ite c28_99 rfl
theorem c28_102 : qx_code 28 102 = some (102, .iconst 1, 103, 0, 0, 0) := by decide +kernel
theorem s28_102 {L : Nat} {xs : Nat → Int32} {d x : Nat} {M : qxM} {st : List Value} {ls : qxL} : Rs L xs (d) 28 102 ls st M x = Rs L xs (d) 28 103 ls (.int (nI 1) :: st) M x := Rs_next c28_102 rfl
theorem c28_103 : qx_code 28 103 = some (103, .goto 4, 106, 107, 0, 0) := by decide +kernel
theorem s28_103 {L : Nat} {xs : Nat → Int32} {d x : Nat} {M : qxM} {st : List Value} {ls : qxL} : Rs L xs (d) 28 103 ls st M x = Rs L xs (d) 28 107 ls st M x := Rs_next c28_103 rfl
theorem c28_106 : qx_code 28 106 = some (106, .iconst 0, 107, 0, 0, 0) := by decide +kernel
theorem s28_106 {L : Nat} {xs : Nat → Int32} {d x : Nat} {M : qxM} {st : List Value} {ls : qxL} : Rs L xs (d) 28 106 ls st M x = Rs L xs (d) 28 107 ls (.int (nI 0) :: st) M x := Rs_next c28_106 rfl
theorem c28_107 : qx_code 28 107 = some (107, .putfield 45, 110, 1, 7, 199) := by decide +kernel
theorem s28_107 {L : Nat} {xs : Nat → Int32} {d x : Nat} {M : qxM} {st : List Value} {ls : qxL} {t : Nat} {z : Int32} (hk : qx_kd t = 11) : Rs L xs (d) 28 107 ls (.int z :: .ref t :: st) M x = Rs L xs (d) 28 110 ls st (qx_up M t 7 z) x := Rs_when (cnd := qx_sh t = some (.inl 1) ∧ qx_fo 1 7 = none ∧ (qx_bf 1 7 = true → z = 0 ∨ z = 1)) ⟨qx_kd_obj (k := 1) (by decide) hk, rfl, fun h => nomatch h⟩ c28_107 rfl
theorem c28_110 : qx_code 28 110 = some (110, .goto 103, 113, 213, 0, 0) := by decide +kernel
theorem s28_110 {L : Nat} {xs : Nat → Int32} {d x : Nat} {M : qxM} {st : List Value} {ls : qxL} : Rs L xs (d) 28 110 ls st M x = Rs L xs (d) 28 213 ls st M x := Rs_next c28_110 rfl
theorem c28_113 : qx_code 28 113 = some (113, .aload_n 0, 114, 0, 0, 0) := by decide +kernel
theorem s28_113 {L : Nat} {xs : Nat → Int32} {d x : Nat} {M : qxM} {st : List Value} {z : Nat} : Rs L xs (d) 28 113 [some (.ref z)] st M x = Rs L xs (d) 28 114 [some (.ref z)] (.ref z :: st) M x := Rs_next c28_113 rfl
theorem c28_114 : qx_code 28 114 = some (114, .aload_n 0, 115, 0, 0, 0) := by decide +kernel
theorem s28_114 {L : Nat} {xs : Nat → Int32} {d x : Nat} {M : qxM} {st : List Value} {z : Nat} : Rs L xs (d) 28 114 [some (.ref z)] st M x = Rs L xs (d) 28 115 [some (.ref z)] (.ref z :: st) M x := Rs_next c28_114 rfl
theorem c28_115 : qx_code 28 115 = some (115, .getfield 32, 118, 1, 6, 198) := by decide +kernel
theorem s28_115 {L : Nat} {xs : Nat → Int32} {d x : Nat} {M : qxM} {st : List Value} {ls : qxL} {t : Nat} (hk : qx_kd t = 11) : Rs L xs (d) 28 115 ls (.ref t :: st) M x = Rs L xs (d) 28 118 ls (.int (M.1 t 6) :: st) M x := Rs_when (qx_kd_obj (k := 1) (by decide) hk) c28_115 rfl
theorem c28_118 : qx_code 28 118 = some (118, .bipush 48, 120, 0, 0, 0) := by decide +kernel
theorem s28_118 {L : Nat} {xs : Nat → Int32} {d x : Nat} {M : qxM} {st : List Value} {ls : qxL} : Rs L xs (d) 28 118 ls st M x = Rs L xs (d) 28 120 ls (.int (nI 48) :: st) M x := Rs_next c28_118 rfl
theorem c28_120 : qx_code 28 120 = some (120, .bipush 57, 122, 0, 0, 0) := by decide +kernel
theorem s28_120 {L : Nat} {xs : Nat → Int32} {d x : Nat} {M : qxM} {st : List Value} {ls : qxL} : Rs L xs (d) 28 120 ls st M x = Rs L xs (d) 28 122 ls (.int (nI 57) :: st) M x := Rs_next c28_120 rfl
theorem c28_122 : qx_code 28 122 = some (122, .invokevirtual 134, 125, 32, 4, 542) := by decide +kernel
theorem s28_122 {L : Nat} {xs : Nat → Int32} {d x : Nat} {M : qxM} {st : List Value} {ls : qxL} {t : Nat} {z0 : Int32} {z1 : Int32} {z2 : Int32} (hk : qx_kd t = 11) (hs : st.length ≤ 4) : Rs L xs (d + 1) 28 122 ls (.int z2 :: .int z1 :: .int z0 :: .ref t :: st) M x = (Rs L xs d 32 0 [some (.ref t), some (.int z0), some (.int z1), some (.int z2)] [] M 0).bind (qx_kn L xs (d + 1) 28 122 125 32 ls st x) := by
  have h1 : qx_act L xs (qx_rt 28) (122, .invokevirtual 134, 125, 32, 4, 542) ls (.int z2 :: .int z1 :: .int z0 :: .ref t :: st) M = if 4 ≤ (.int z2 :: .int z1 :: .int z0 :: .ref t :: st).length ∧ st.length ≤ 4 then some (.inr (.inr (.inr (32, [.ref t, .int z0, .int z1, .int z2], st)))) else none := rfl
  rw [if_pos ⟨by simp [List.length_cons]; try omega, hs⟩] at h1
  have h2 := qx_kd_obj (k := 1) (by decide) hk
  exact Rs_call c28_122 h1 (by rw [show qx_args 32 [.ref t, .int z0, .int z1, .int z2] = decide (qx_sh t = some (.inl 1)) from rfl]; exact decide_eq_true h2)
theorem c28_125 : qx_code 28 125 = some (125, .ifCond .eq 56, 128, 181, 0, 0) := by decide +kernel
theorem s28_125 {L : Nat} {xs : Nat → Int32} {d x : Nat} {M : qxM} {st : List Value} {ls : qxL} {z : Int32} : Rs L xs (d) 28 125 ls (.int z :: st) M x = if z = 0 then Rs L xs (d) 28 181 ls st M x else Rs L xs (d) 28 128 ls st M x := Rs_ite c28_125 rfl
theorem c28_128 : qx_code 28 128 = some (128, .aload_n 0, 129, 0, 0, 0) := by decide +kernel
theorem s28_128 {L : Nat} {xs : Nat → Int32} {d x : Nat} {M : qxM} {st : List Value} {z : Nat} : Rs L xs (d) 28 128 [some (.ref z)] st M x = Rs L xs (d) 28 129 [some (.ref z)] (.ref z :: st) M x := Rs_next c28_128 rfl
theorem c28_129 : qx_code 28 129 = some (129, .bipush 48, 131, 0, 0, 0) := by decide +kernel
theorem s28_129 {L : Nat} {xs : Nat → Int32} {d x : Nat} {M : qxM} {st : List Value} {ls : qxL} : Rs L xs (d) 28 129 ls st M x = Rs L xs (d) 28 131 ls (.int (nI 48) :: st) M x := Rs_next c28_129 rfl
theorem c28_131 : qx_code 28 131 = some (131, .bipush 57, 133, 0, 0, 0) := by decide +kernel
theorem s28_131 {L : Nat} {xs : Nat → Int32} {d x : Nat} {M : qxM} {st : List Value} {ls : qxL} : Rs L xs (d) 28 131 ls st M x = Rs L xs (d) 28 133 ls (.int (nI 57) :: st) M x := Rs_next c28_131 rfl
theorem c28_133 : qx_code 28 133 = some (133, .invokevirtual 138, 136, 29, 3, 546) := by decide +kernel
theorem s28_133 {L : Nat} {xs : Nat → Int32} {d x : Nat} {M : qxM} {st : List Value} {ls : qxL} {t : Nat} {z0 : Int32} {z1 : Int32} (hk : qx_kd t = 11) (hs : st.length ≤ 4) : Rs L xs (d + 1) 28 133 ls (.int z1 :: .int z0 :: .ref t :: st) M x = (Rs L xs d 29 0 [some (.ref t), some (.int z0), some (.int z1)] [] M 0).bind (qx_kn L xs (d + 1) 28 133 136 29 ls st x) := by
  have h1 : qx_act L xs (qx_rt 28) (133, .invokevirtual 138, 136, 29, 3, 546) ls (.int z1 :: .int z0 :: .ref t :: st) M = if 3 ≤ (.int z1 :: .int z0 :: .ref t :: st).length ∧ st.length ≤ 4 then some (.inr (.inr (.inr (29, [.ref t, .int z0, .int z1], st)))) else none := rfl
  rw [if_pos ⟨by simp [List.length_cons]; try omega, hs⟩] at h1
  have h2 := qx_kd_obj (k := 1) (by decide) hk
  exact Rs_call c28_133 h1 (by rw [show qx_args 29 [.ref t, .int z0, .int z1] = decide (qx_sh t = some (.inl 1)) from rfl]; exact decide_eq_true h2)
theorem c28_136 : qx_code 28 136 = some (136, .aload_n 0, 137, 0, 0, 0) := by decide +kernel
theorem s28_136 {L : Nat} {xs : Nat → Int32} {d x : Nat} {M : qxM} {st : List Value} {z : Nat} : Rs L xs (d) 28 136 [some (.ref z)] st M x = Rs L xs (d) 28 137 [some (.ref z)] (.ref z :: st) M x := Rs_next c28_136 rfl
theorem c28_137 : qx_code 28 137 = some (137, .aload_n 0, 138, 0, 0, 0) := by decide +kernel
theorem s28_137 {L : Nat} {xs : Nat → Int32} {d x : Nat} {M : qxM} {st : List Value} {z : Nat} : Rs L xs (d) 28 137 [some (.ref z)] st M x = Rs L xs (d) 28 138 [some (.ref z)] (.ref z :: st) M x := Rs_next c28_137 rfl
theorem c28_138 : qx_code 28 138 = some (138, .getfield 32, 141, 1, 6, 198) := by decide +kernel
theorem s28_138 {L : Nat} {xs : Nat → Int32} {d x : Nat} {M : qxM} {st : List Value} {ls : qxL} {t : Nat} (hk : qx_kd t = 11) : Rs L xs (d) 28 138 ls (.ref t :: st) M x = Rs L xs (d) 28 141 ls (.int (M.1 t 6) :: st) M x := Rs_when (qx_kd_obj (k := 1) (by decide) hk) c28_138 rfl
theorem c28_141 : qx_code 28 141 = some (141, .aload_n 0, 142, 0, 0, 0) := by decide +kernel
theorem s28_141 {L : Nat} {xs : Nat → Int32} {d x : Nat} {M : qxM} {st : List Value} {z : Nat} : Rs L xs (d) 28 141 [some (.ref z)] st M x = Rs L xs (d) 28 142 [some (.ref z)] (.ref z :: st) M x := Rs_next c28_141 rfl
theorem c28_142 : qx_code 28 142 = some (142, .getfield 51, 145, 1, 8, 200) := by decide +kernel
theorem s28_142 {L : Nat} {xs : Nat → Int32} {d x : Nat} {M : qxM} {st : List Value} {ls : qxL} {t : Nat} (hk : qx_kd t = 11) : Rs L xs (d) 28 142 ls (.ref t :: st) M x = Rs L xs (d) 28 145 ls (.int (M.1 t 8) :: st) M x := Rs_when (qx_kd_obj (k := 1) (by decide) hk) c28_142 rfl
theorem c28_145 : qx_code 28 145 = some (145, .isub, 146, 0, 0, 0) := by decide +kernel
theorem s28_145 {L : Nat} {xs : Nat → Int32} {d x : Nat} {M : qxM} {st : List Value} {ls : qxL} {z y : Int32} : Rs L xs (d) 28 145 ls (.int y :: .int z :: st) M x = Rs L xs (d) 28 146 ls (.int (z - y) :: st) M x := Rs_next c28_145 rfl
theorem c28_146 : qx_code 28 146 = some (146, .iconst 2, 147, 0, 0, 0) := by decide +kernel
theorem s28_146 {L : Nat} {xs : Nat → Int32} {d x : Nat} {M : qxM} {st : List Value} {ls : qxL} : Rs L xs (d) 28 146 ls st M x = Rs L xs (d) 28 147 ls (.int (nI 2) :: st) M x := Rs_next c28_146 rfl
theorem c28_147 : qx_code 28 147 = some (147, .if_icmp .gt 7, 150, 154, 0, 0) := by decide +kernel
theorem s28_147 {L : Nat} {xs : Nat → Int32} {d x : Nat} {M : qxM} {st : List Value} {ls : qxL} {z y : Int32} : Rs L xs (d) 28 147 ls (.int y :: .int z :: st) M x = if y < z then Rs L xs (d) 28 154 ls st M x else Rs L xs (d) 28 150 ls st M x := Rs_ite c28_147 rfl
theorem c28_150 : qx_code 28 150 = some (150, .iconst 2, 151, 0, 0, 0) := by decide +kernel
theorem s28_150 {L : Nat} {xs : Nat → Int32} {d x : Nat} {M : qxM} {st : List Value} {ls : qxL} : Rs L xs (d) 28 150 ls st M x = Rs L xs (d) 28 151 ls (.int (nI 2) :: st) M x := Rs_next c28_150 rfl
theorem c28_151 : qx_code 28 151 = some (151, .goto 4, 154, 155, 0, 0) := by decide +kernel
theorem s28_151 {L : Nat} {xs : Nat → Int32} {d x : Nat} {M : qxM} {st : List Value} {ls : qxL} : Rs L xs (d) 28 151 ls st M x = Rs L xs (d) 28 155 ls st M x := Rs_next c28_151 rfl
theorem c28_154 : qx_code 28 154 = some (154, .iconst 0, 155, 0, 0, 0) := by decide +kernel
theorem s28_154 {L : Nat} {xs : Nat → Int32} {d x : Nat} {M : qxM} {st : List Value} {ls : qxL} : Rs L xs (d) 28 154 ls st M x = Rs L xs (d) 28 155 ls (.int (nI 0) :: st) M x := Rs_next c28_154 rfl
theorem c28_155 : qx_code 28 155 = some (155, .putfield 45, 158, 1, 7, 199) := by decide +kernel
theorem s28_155 {L : Nat} {xs : Nat → Int32} {d x : Nat} {M : qxM} {st : List Value} {ls : qxL} {t : Nat} {z : Int32} (hk : qx_kd t = 11) : Rs L xs (d) 28 155 ls (.int z :: .ref t :: st) M x = Rs L xs (d) 28 158 ls st (qx_up M t 7 z) x := Rs_when (cnd := qx_sh t = some (.inl 1) ∧ qx_fo 1 7 = none ∧ (qx_bf 1 7 = true → z = 0 ∨ z = 1)) ⟨qx_kd_obj (k := 1) (by decide) hk, rfl, fun h => nomatch h⟩ c28_155 rfl
theorem c28_158 : qx_code 28 158 = some (158, .aload_n 0, 159, 0, 0, 0) := by decide +kernel
theorem s28_158 {L : Nat} {xs : Nat → Int32} {d x : Nat} {M : qxM} {st : List Value} {z : Nat} : Rs L xs (d) 28 158 [some (.ref z)] st M x = Rs L xs (d) 28 159 [some (.ref z)] (.ref z :: st) M x := Rs_next c28_158 rfl
theorem c28_159 : qx_code 28 159 = some (159, .aload_n 0, 160, 0, 0, 0) := by decide +kernel
theorem s28_159 {L : Nat} {xs : Nat → Int32} {d x : Nat} {M : qxM} {st : List Value} {z : Nat} : Rs L xs (d) 28 159 [some (.ref z)] st M x = Rs L xs (d) 28 160 [some (.ref z)] (.ref z :: st) M x := Rs_next c28_159 rfl
theorem c28_160 : qx_code 28 160 = some (160, .getfield 45, 163, 1, 7, 199) := by decide +kernel
theorem s28_160 {L : Nat} {xs : Nat → Int32} {d x : Nat} {M : qxM} {st : List Value} {ls : qxL} {t : Nat} (hk : qx_kd t = 11) : Rs L xs (d) 28 160 ls (.ref t :: st) M x = Rs L xs (d) 28 163 ls (.int (M.1 t 7) :: st) M x := Rs_when (qx_kd_obj (k := 1) (by decide) hk) c28_160 rfl
theorem c28_163 : qx_code 28 163 = some (163, .iconst 2, 164, 0, 0, 0) := by decide +kernel
theorem s28_163 {L : Nat} {xs : Nat → Int32} {d x : Nat} {M : qxM} {st : List Value} {ls : qxL} : Rs L xs (d) 28 163 ls st M x = Rs L xs (d) 28 164 ls (.int (nI 2) :: st) M x := Rs_next c28_163 rfl
theorem c28_164 : qx_code 28 164 = some (164, .if_icmp .ne 10, 167, 174, 0, 0) := by decide +kernel
theorem s28_164 {L : Nat} {xs : Nat → Int32} {d x : Nat} {M : qxM} {st : List Value} {ls : qxL} {z y : Int32} : Rs L xs (d) 28 164 ls (.int y :: .int z :: st) M x = if z = y then Rs L xs (d) 28 167 ls st M x else Rs L xs (d) 28 174 ls st M x := Rs_ite c28_164 rfl
theorem c28_167 : qx_code 28 167 = some (167, .aload_n 0, 168, 0, 0, 0) := by decide +kernel
theorem s28_167 {L : Nat} {xs : Nat → Int32} {d x : Nat} {M : qxM} {st : List Value} {z : Nat} : Rs L xs (d) 28 167 [some (.ref z)] st M x = Rs L xs (d) 28 168 [some (.ref z)] (.ref z :: st) M x := Rs_next c28_167 rfl
theorem c28_168 : qx_code 28 168 = some (168, .invokevirtual 142, 171, 30, 1, 550) := by decide +kernel
theorem s28_168 {L : Nat} {xs : Nat → Int32} {d x : Nat} {M : qxM} {st : List Value} {ls : qxL} {t : Nat} (hk : qx_kd t = 11) (hs : st.length ≤ 4) : Rs L xs (d + 1) 28 168 ls (.ref t :: st) M x = (Rs L xs d 30 0 [some (.ref t), none, none] [] M 0).bind (qx_kn L xs (d + 1) 28 168 171 30 ls st x) := by
  have h1 : qx_act L xs (qx_rt 28) (168, .invokevirtual 142, 171, 30, 1, 550) ls (.ref t :: st) M = if 1 ≤ (.ref t :: st).length ∧ st.length ≤ 4 then some (.inr (.inr (.inr (30, [.ref t], st)))) else none := rfl
  rw [if_pos ⟨by simp [List.length_cons]; try omega, hs⟩] at h1
  have h2 := qx_kd_obj (k := 1) (by decide) hk
  exact Rs_call c28_168 h1 (by rw [show qx_args 30 [.ref t] = decide (qx_sh t = some (.inl 1)) from rfl]; exact decide_eq_true h2)
theorem c28_171 : qx_code 28 171 = some (171, .goto 4, 174, 175, 0, 0) := by decide +kernel
theorem s28_171 {L : Nat} {xs : Nat → Int32} {d x : Nat} {M : qxM} {st : List Value} {ls : qxL} : Rs L xs (d) 28 171 ls st M x = Rs L xs (d) 28 175 ls st M x := Rs_next c28_171 rfl
theorem c28_174 : qx_code 28 174 = some (174, .iconst 0, 175, 0, 0, 0) := by decide +kernel
theorem s28_174 {L : Nat} {xs : Nat → Int32} {d x : Nat} {M : qxM} {st : List Value} {ls : qxL} : Rs L xs (d) 28 174 ls st M x = Rs L xs (d) 28 175 ls (.int (nI 0) :: st) M x := Rs_next c28_174 rfl
theorem c28_175 : qx_code 28 175 = some (175, .putfield 70, 178, 1, 9, 201) := by decide +kernel
theorem s28_175 {L : Nat} {xs : Nat → Int32} {d x : Nat} {M : qxM} {st : List Value} {ls : qxL} {t : Nat} {z : Int32} (hk : qx_kd t = 11) : Rs L xs (d) 28 175 ls (.int z :: .ref t :: st) M x = Rs L xs (d) 28 178 ls st (qx_up M t 9 z) x := Rs_when (cnd := qx_sh t = some (.inl 1) ∧ qx_fo 1 9 = none ∧ (qx_bf 1 9 = true → z = 0 ∨ z = 1)) ⟨qx_kd_obj (k := 1) (by decide) hk, rfl, fun h => nomatch h⟩ c28_175 rfl
theorem c28_178 : qx_code 28 178 = some (178, .goto 35, 181, 213, 0, 0) := by decide +kernel
theorem s28_178 {L : Nat} {xs : Nat → Int32} {d x : Nat} {M : qxM} {st : List Value} {ls : qxL} : Rs L xs (d) 28 178 ls st M x = Rs L xs (d) 28 213 ls st M x := Rs_next c28_178 rfl
theorem c28_181 : qx_code 28 181 = some (181, .aload_n 0, 182, 0, 0, 0) := by decide +kernel
theorem s28_181 {L : Nat} {xs : Nat → Int32} {d x : Nat} {M : qxM} {st : List Value} {z : Nat} : Rs L xs (d) 28 181 [some (.ref z)] st M x = Rs L xs (d) 28 182 [some (.ref z)] (.ref z :: st) M x := Rs_next c28_181 rfl
theorem c28_182 : qx_code 28 182 = some (182, .aload_n 0, 183, 0, 0, 0) := by decide +kernel
theorem s28_182 {L : Nat} {xs : Nat → Int32} {d x : Nat} {M : qxM} {st : List Value} {z : Nat} : Rs L xs (d) 28 182 [some (.ref z)] st M x = Rs L xs (d) 28 183 [some (.ref z)] (.ref z :: st) M x := Rs_next c28_182 rfl
theorem c28_183 : qx_code 28 183 = some (183, .aload_n 0, 184, 0, 0, 0) := by decide +kernel
theorem s28_183 {L : Nat} {xs : Nat → Int32} {d x : Nat} {M : qxM} {st : List Value} {z : Nat} : Rs L xs (d) 28 183 [some (.ref z)] st M x = Rs L xs (d) 28 184 [some (.ref z)] (.ref z :: st) M x := Rs_next c28_183 rfl
theorem c28_184 : qx_code 28 184 = some (184, .getfield 32, 187, 1, 6, 198) := by decide +kernel
theorem s28_184 {L : Nat} {xs : Nat → Int32} {d x : Nat} {M : qxM} {st : List Value} {ls : qxL} {t : Nat} (hk : qx_kd t = 11) : Rs L xs (d) 28 184 ls (.ref t :: st) M x = Rs L xs (d) 28 187 ls (.int (M.1 t 6) :: st) M x := Rs_when (qx_kd_obj (k := 1) (by decide) hk) c28_184 rfl
theorem c28_187 : qx_code 28 187 = some (187, .invokevirtual 131, 190, 33, 2, 538) := by decide +kernel
theorem s28_187 {L : Nat} {xs : Nat → Int32} {d x : Nat} {M : qxM} {st : List Value} {ls : qxL} {t : Nat} {z0 : Int32} (hk : qx_kd t = 11) (hs : st.length ≤ 4) : Rs L xs (d + 1) 28 187 ls (.int z0 :: .ref t :: st) M x = (Rs L xs d 33 0 [some (.ref t), some (.int z0)] [] M 0).bind (qx_kn L xs (d + 1) 28 187 190 33 ls st x) := by
  have h1 : qx_act L xs (qx_rt 28) (187, .invokevirtual 131, 190, 33, 2, 538) ls (.int z0 :: .ref t :: st) M = if 2 ≤ (.int z0 :: .ref t :: st).length ∧ st.length ≤ 4 then some (.inr (.inr (.inr (33, [.ref t, .int z0], st)))) else none := rfl
  rw [if_pos ⟨by simp [List.length_cons]; try omega, hs⟩] at h1
  have h2 := qx_kd_obj (k := 1) (by decide) hk
  exact Rs_call c28_187 h1 (by rw [show qx_args 33 [.ref t, .int z0] = decide (qx_sh t = some (.inl 1)) from rfl]; exact decide_eq_true h2)
theorem c28_190 : qx_code 28 190 = some (190, .bipush 59, 192, 0, 0, 0) := by decide +kernel
theorem s28_190 {L : Nat} {xs : Nat → Int32} {d x : Nat} {M : qxM} {st : List Value} {ls : qxL} : Rs L xs (d) 28 190 ls st M x = Rs L xs (d) 28 192 ls (.int (nI 59) :: st) M x := Rs_next c28_190 rfl
theorem c28_192 : qx_code 28 192 = some (192, .if_icmp .ne 7, 195, 199, 0, 0) := by decide +kernel
theorem s28_192 {L : Nat} {xs : Nat → Int32} {d x : Nat} {M : qxM} {st : List Value} {ls : qxL} {z y : Int32} : Rs L xs (d) 28 192 ls (.int y :: .int z :: st) M x = if z = y then Rs L xs (d) 28 195 ls st M x else Rs L xs (d) 28 199 ls st M x := Rs_ite c28_192 rfl
theorem c28_195 : qx_code 28 195 = some (195, .iconst 3, 196, 0, 0, 0) := by decide +kernel
theorem s28_195 {L : Nat} {xs : Nat → Int32} {d x : Nat} {M : qxM} {st : List Value} {ls : qxL} : Rs L xs (d) 28 195 ls st M x = Rs L xs (d) 28 196 ls (.int (nI 3) :: st) M x := Rs_next c28_195 rfl
theorem c28_196 : qx_code 28 196 = some (196, .goto 4, 199, 200, 0, 0) := by decide +kernel
theorem s28_196 {L : Nat} {xs : Nat → Int32} {d x : Nat} {M : qxM} {st : List Value} {ls : qxL} : Rs L xs (d) 28 196 ls st M x = Rs L xs (d) 28 200 ls st M x := Rs_next c28_196 rfl
theorem c28_199 : qx_code 28 199 = some (199, .iconst 0, 200, 0, 0, 0) := by decide +kernel
theorem s28_199 {L : Nat} {xs : Nat → Int32} {d x : Nat} {M : qxM} {st : List Value} {ls : qxL} : Rs L xs (d) 28 199 ls st M x = Rs L xs (d) 28 200 ls (.int (nI 0) :: st) M x := Rs_next c28_199 rfl
theorem c28_200 : qx_code 28 200 = some (200, .putfield 45, 203, 1, 7, 199) := by decide +kernel
theorem s28_200 {L : Nat} {xs : Nat → Int32} {d x : Nat} {M : qxM} {st : List Value} {ls : qxL} {t : Nat} {z : Int32} (hk : qx_kd t = 11) : Rs L xs (d) 28 200 ls (.int z :: .ref t :: st) M x = Rs L xs (d) 28 203 ls st (qx_up M t 7 z) x := Rs_when (cnd := qx_sh t = some (.inl 1) ∧ qx_fo 1 7 = none ∧ (qx_bf 1 7 = true → z = 0 ∨ z = 1)) ⟨qx_kd_obj (k := 1) (by decide) hk, rfl, fun h => nomatch h⟩ c28_200 rfl
theorem c28_203 : qx_code 28 203 = some (203, .aload_n 0, 204, 0, 0, 0) := by decide +kernel
theorem s28_203 {L : Nat} {xs : Nat → Int32} {d x : Nat} {M : qxM} {st : List Value} {z : Nat} : Rs L xs (d) 28 203 [some (.ref z)] st M x = Rs L xs (d) 28 204 [some (.ref z)] (.ref z :: st) M x := Rs_next c28_203 rfl
theorem c28_204 : qx_code 28 204 = some (204, .dup, 205, 0, 0, 0) := by decide +kernel
theorem s28_204r {L : Nat} {xs : Nat → Int32} {d x : Nat} {M : qxM} {st : List Value} {ls : qxL} {z : Nat} : Rs L xs (d) 28 204 ls (.ref z :: st) M x = Rs L xs (d) 28 205 ls (.ref z :: .ref z :: st) M x := Rs_next c28_204 rfl
theorem s28_204i {L : Nat} {xs : Nat → Int32} {d x : Nat} {M : qxM} {st : List Value} {ls : qxL} {z : Int32} : Rs L xs (d) 28 204 ls (.int z :: st) M x = Rs L xs (d) 28 205 ls (.int z :: .int z :: st) M x := Rs_next c28_204 rfl
theorem c28_205 : qx_code 28 205 = some (205, .getfield 32, 208, 1, 6, 198) := by decide +kernel
theorem s28_205 {L : Nat} {xs : Nat → Int32} {d x : Nat} {M : qxM} {st : List Value} {ls : qxL} {t : Nat} (hk : qx_kd t = 11) : Rs L xs (d) 28 205 ls (.ref t :: st) M x = Rs L xs (d) 28 208 ls (.int (M.1 t 6) :: st) M x := Rs_when (qx_kd_obj (k := 1) (by decide) hk) c28_205 rfl
theorem c28_208 : qx_code 28 208 = some (208, .iconst 1, 209, 0, 0, 0) := by decide +kernel
theorem s28_208 {L : Nat} {xs : Nat → Int32} {d x : Nat} {M : qxM} {st : List Value} {ls : qxL} : Rs L xs (d) 28 208 ls st M x = Rs L xs (d) 28 209 ls (.int (nI 1) :: st) M x := Rs_next c28_208 rfl
theorem c28_209 : qx_code 28 209 = some (209, .iadd, 210, 0, 0, 0) := by decide +kernel
theorem s28_209 {L : Nat} {xs : Nat → Int32} {d x : Nat} {M : qxM} {st : List Value} {ls : qxL} {z y : Int32} : Rs L xs (d) 28 209 ls (.int y :: .int z :: st) M x = Rs L xs (d) 28 210 ls (.int (z + y) :: st) M x := Rs_next c28_209 rfl
theorem c28_210 : qx_code 28 210 = some (210, .putfield 32, 213, 1, 6, 198) := by decide +kernel
theorem s28_210 {L : Nat} {xs : Nat → Int32} {d x : Nat} {M : qxM} {st : List Value} {ls : qxL} {t : Nat} {z : Int32} (hk : qx_kd t = 11) : Rs L xs (d) 28 210 ls (.int z :: .ref t :: st) M x = Rs L xs (d) 28 213 ls st (qx_up M t 6 z) x := Rs_when (cnd := qx_sh t = some (.inl 1) ∧ qx_fo 1 6 = none ∧ (qx_bf 1 6 = true → z = 0 ∨ z = 1)) ⟨qx_kd_obj (k := 1) (by decide) hk, rfl, fun h => nomatch h⟩ c28_210 rfl
theorem c28_213 : qx_code 28 213 = some (213, .return_, 214, 0, 0, 0) := by decide +kernel
theorem s28_213 {L : Nat} {xs : Nat → Int32} {d x : Nat} {M : qxM} {ls : qxL} : Rs L xs (d) 28 213 ls [] M x = some (.inl none, M, x) := Rs_ret c28_213 rfl
theorem c29_0 : qx_code 29 0 = some (0, .aload_n 0, 1, 0, 0, 0) := by decide +kernel
theorem s29_0 {L : Nat} {xs : Nat → Int32} {d x : Nat} {M : qxM} {st : List Value} {a1 a2 : Option Value} {z : Nat} : Rs L xs (d) 29 0 [some (.ref z), a1, a2] st M x = Rs L xs (d) 29 1 [some (.ref z), a1, a2] (.ref z :: st) M x := Rs_next c29_0 rfl
theorem c29_1 : qx_code 29 1 = some (1, .getfield 32, 4, 1, 6, 198) := by decide +kernel
theorem s29_1 {L : Nat} {xs : Nat → Int32} {d x : Nat} {M : qxM} {st : List Value} {ls : qxL} {t : Nat} (hk : qx_kd t = 11) : Rs L xs (d) 29 1 ls (.ref t :: st) M x = Rs L xs (d) 29 4 ls (.int (M.1 t 6) :: st) M x := Rs_when (qx_kd_obj (k := 1) (by decide) hk) c29_1 rfl
theorem c29_4 : qx_code 29 4 = some (4, .aload_n 0, 5, 0, 0, 0) := by decide +kernel
theorem s29_4 {L : Nat} {xs : Nat → Int32} {d x : Nat} {M : qxM} {st : List Value} {a1 a2 : Option Value} {z : Nat} : Rs L xs (d) 29 4 [some (.ref z), a1, a2] st M x = Rs L xs (d) 29 5 [some (.ref z), a1, a2] (.ref z :: st) M x := Rs_next c29_4 rfl
theorem c29_5 : qx_code 29 5 = some (5, .getfield 29, 8, 1, 5, 197) := by decide +kernel
theorem s29_5 {L : Nat} {xs : Nat → Int32} {d x : Nat} {M : qxM} {st : List Value} {ls : qxL} {t : Nat} (hk : qx_kd t = 11) : Rs L xs (d) 29 5 ls (.ref t :: st) M x = Rs L xs (d) 29 8 ls (.int (M.1 t 5) :: st) M x := Rs_when (qx_kd_obj (k := 1) (by decide) hk) c29_5 rfl
theorem c29_8 : qx_code 29 8 = some (8, .if_icmp .ge 29, 11, 37, 0, 0) := by decide +kernel
theorem s29_8 {L : Nat} {xs : Nat → Int32} {d x : Nat} {M : qxM} {st : List Value} {ls : qxL} {z y : Int32} : Rs L xs (d) 29 8 ls (.int y :: .int z :: st) M x = if y ≤ z then Rs L xs (d) 29 37 ls st M x else Rs L xs (d) 29 11 ls st M x := Rs_ite c29_8 rfl
theorem c29_11 : qx_code 29 11 = some (11, .aload_n 0, 12, 0, 0, 0) := by decide +kernel
theorem s29_11 {L : Nat} {xs : Nat → Int32} {d x : Nat} {M : qxM} {st : List Value} {a1 a2 : Option Value} {z : Nat} : Rs L xs (d) 29 11 [some (.ref z), a1, a2] st M x = Rs L xs (d) 29 12 [some (.ref z), a1, a2] (.ref z :: st) M x := Rs_next c29_11 rfl
theorem c29_12 : qx_code 29 12 = some (12, .aload_n 0, 13, 0, 0, 0) := by decide +kernel
theorem s29_12 {L : Nat} {xs : Nat → Int32} {d x : Nat} {M : qxM} {st : List Value} {a1 a2 : Option Value} {z : Nat} : Rs L xs (d) 29 12 [some (.ref z), a1, a2] st M x = Rs L xs (d) 29 13 [some (.ref z), a1, a2] (.ref z :: st) M x := Rs_next c29_12 rfl
theorem c29_13 : qx_code 29 13 = some (13, .getfield 32, 16, 1, 6, 198) := by decide +kernel
theorem s29_13 {L : Nat} {xs : Nat → Int32} {d x : Nat} {M : qxM} {st : List Value} {ls : qxL} {t : Nat} (hk : qx_kd t = 11) : Rs L xs (d) 29 13 ls (.ref t :: st) M x = Rs L xs (d) 29 16 ls (.int (M.1 t 6) :: st) M x := Rs_when (qx_kd_obj (k := 1) (by decide) hk) c29_13 rfl
theorem c29_16 : qx_code 29 16 = some (16, .iload_n 1, 17, 0, 0, 0) := by decide +kernel
theorem s29_16 {L : Nat} {xs : Nat → Int32} {d x : Nat} {M : qxM} {st : List Value} {a0 a2 : Option Value} {z : Int32} : Rs L xs (d) 29 16 [a0, some (.int z), a2] st M x = Rs L xs (d) 29 17 [a0, some (.int z), a2] (.int z :: st) M x := Rs_next c29_16 rfl
theorem c29_17 : qx_code 29 17 = some (17, .iload_n 2, 18, 0, 0, 0) := by decide +kernel
theorem s29_17 {L : Nat} {xs : Nat → Int32} {d x : Nat} {M : qxM} {st : List Value} {a0 a1 : Option Value} {z : Int32} : Rs L xs (d) 29 17 [a0, a1, some (.int z)] st M x = Rs L xs (d) 29 18 [a0, a1, some (.int z)] (.int z :: st) M x := Rs_next c29_17 rfl
theorem c29_18 : qx_code 29 18 = some (18, .invokevirtual 134, 21, 32, 4, 542) := by decide +kernel
theorem s29_18 {L : Nat} {xs : Nat → Int32} {d x : Nat} {M : qxM} {st : List Value} {ls : qxL} {t : Nat} {z0 : Int32} {z1 : Int32} {z2 : Int32} (hk : qx_kd t = 11) (hs : st.length ≤ 4) : Rs L xs (d + 1) 29 18 ls (.int z2 :: .int z1 :: .int z0 :: .ref t :: st) M x = (Rs L xs d 32 0 [some (.ref t), some (.int z0), some (.int z1), some (.int z2)] [] M 0).bind (qx_kn L xs (d + 1) 29 18 21 32 ls st x) := by
  have h1 : qx_act L xs (qx_rt 29) (18, .invokevirtual 134, 21, 32, 4, 542) ls (.int z2 :: .int z1 :: .int z0 :: .ref t :: st) M = if 4 ≤ (.int z2 :: .int z1 :: .int z0 :: .ref t :: st).length ∧ st.length ≤ 4 then some (.inr (.inr (.inr (32, [.ref t, .int z0, .int z1, .int z2], st)))) else none := rfl
  rw [if_pos ⟨by simp [List.length_cons]; try omega, hs⟩] at h1
  have h2 := qx_kd_obj (k := 1) (by decide) hk
  exact Rs_call c29_18 h1 (by rw [show qx_args 32 [.ref t, .int z0, .int z1, .int z2] = decide (qx_sh t = some (.inl 1)) from rfl]; exact decide_eq_true h2)
theorem c29_21 : qx_code 29 21 = some (21, .ifCond .eq 16, 24, 37, 0, 0) := by decide +kernel
theorem s29_21 {L : Nat} {xs : Nat → Int32} {d x : Nat} {M : qxM} {st : List Value} {ls : qxL} {z : Int32} : Rs L xs (d) 29 21 ls (.int z :: st) M x = if z = 0 then Rs L xs (d) 29 37 ls st M x else Rs L xs (d) 29 24 ls st M x := Rs_ite c29_21 rfl
theorem c29_24 : qx_code 29 24 = some (24, .aload_n 0, 25, 0, 0, 0) := by decide +kernel
theorem s29_24 {L : Nat} {xs : Nat → Int32} {d x : Nat} {M : qxM} {st : List Value} {a1 a2 : Option Value} {z : Nat} : Rs L xs (d) 29 24 [some (.ref z), a1, a2] st M x = Rs L xs (d) 29 25 [some (.ref z), a1, a2] (.ref z :: st) M x := Rs_next c29_24 rfl
theorem c29_25 : qx_code 29 25 = some (25, .dup, 26, 0, 0, 0) := by decide +kernel
theorem s29_25r {L : Nat} {xs : Nat → Int32} {d x : Nat} {M : qxM} {st : List Value} {ls : qxL} {z : Nat} : Rs L xs (d) 29 25 ls (.ref z :: st) M x = Rs L xs (d) 29 26 ls (.ref z :: .ref z :: st) M x := Rs_next c29_25 rfl
theorem s29_25i {L : Nat} {xs : Nat → Int32} {d x : Nat} {M : qxM} {st : List Value} {ls : qxL} {z : Int32} : Rs L xs (d) 29 25 ls (.int z :: st) M x = Rs L xs (d) 29 26 ls (.int z :: .int z :: st) M x := Rs_next c29_25 rfl
theorem c29_26 : qx_code 29 26 = some (26, .getfield 32, 29, 1, 6, 198) := by decide +kernel
theorem s29_26 {L : Nat} {xs : Nat → Int32} {d x : Nat} {M : qxM} {st : List Value} {ls : qxL} {t : Nat} (hk : qx_kd t = 11) : Rs L xs (d) 29 26 ls (.ref t :: st) M x = Rs L xs (d) 29 29 ls (.int (M.1 t 6) :: st) M x := Rs_when (qx_kd_obj (k := 1) (by decide) hk) c29_26 rfl
theorem c29_29 : qx_code 29 29 = some (29, .iconst 1, 30, 0, 0, 0) := by decide +kernel
theorem s29_29 {L : Nat} {xs : Nat → Int32} {d x : Nat} {M : qxM} {st : List Value} {ls : qxL} : Rs L xs (d) 29 29 ls st M x = Rs L xs (d) 29 30 ls (.int (nI 1) :: st) M x := Rs_next c29_29 rfl
theorem c29_30 : qx_code 29 30 = some (30, .iadd, 31, 0, 0, 0) := by decide +kernel
theorem s29_30 {L : Nat} {xs : Nat → Int32} {d x : Nat} {M : qxM} {st : List Value} {ls : qxL} {z y : Int32} : Rs L xs (d) 29 30 ls (.int y :: .int z :: st) M x = Rs L xs (d) 29 31 ls (.int (z + y) :: st) M x := Rs_next c29_30 rfl
theorem c29_31 : qx_code 29 31 = some (31, .putfield 32, 34, 1, 6, 198) := by decide +kernel
theorem s29_31 {L : Nat} {xs : Nat → Int32} {d x : Nat} {M : qxM} {st : List Value} {ls : qxL} {t : Nat} {z : Int32} (hk : qx_kd t = 11) : Rs L xs (d) 29 31 ls (.int z :: .ref t :: st) M x = Rs L xs (d) 29 34 ls st (qx_up M t 6 z) x := Rs_when (cnd := qx_sh t = some (.inl 1) ∧ qx_fo 1 6 = none ∧ (qx_bf 1 6 = true → z = 0 ∨ z = 1)) ⟨qx_kd_obj (k := 1) (by decide) hk, rfl, fun h => nomatch h⟩ c29_31 rfl
theorem c29_34 : qx_code 29 34 = some (34, .goto (-34), 37, 0, 0, 0) := by decide +kernel
theorem s29_34 {L : Nat} {xs : Nat → Int32} {d x : Nat} {M : qxM} {st : List Value} {ls : qxL} : Rs L xs (d) 29 34 ls st M x = Rs L xs (d) 29 0 ls st M x := Rs_next c29_34 rfl
theorem c29_37 : qx_code 29 37 = some (37, .return_, 38, 0, 0, 0) := by decide +kernel
theorem s29_37 {L : Nat} {xs : Nat → Int32} {d x : Nat} {M : qxM} {ls : qxL} : Rs L xs (d) 29 37 ls [] M x = some (.inl none, M, x) := Rs_ret c29_37 rfl
theorem c30_0 : qx_code 30 0 = some (0, .iconst 0, 1, 0, 0, 0) := by decide +kernel
theorem s30_0 {L : Nat} {xs : Nat → Int32} {d x : Nat} {M : qxM} {st : List Value} {ls : qxL} : Rs L xs (d) 30 0 ls st M x = Rs L xs (d) 30 1 ls (.int (nI 0) :: st) M x := Rs_next c30_0 rfl
theorem c30_1 : qx_code 30 1 = some (1, .istore_n 1, 2, 0, 0, 0) := by decide +kernel
theorem s30_1i {L : Nat} {xs : Nat → Int32} {d x : Nat} {M : qxM} {st : List Value} {a1 a2 : Option Value} {z : Int32} {y : Int32} : Rs L xs (d) 30 1 [some (.int y), a1, a2] (.int z :: st) M x = Rs L xs (d) 30 2 [some (.int y), some (.int z), a2] st M x := Rs_next c30_1 rfl
theorem s30_1r {L : Nat} {xs : Nat → Int32} {d x : Nat} {M : qxM} {st : List Value} {a1 a2 : Option Value} {z : Int32} {y : Nat} : Rs L xs (d) 30 1 [some (.ref y), a1, a2] (.int z :: st) M x = Rs L xs (d) 30 2 [some (.ref y), some (.int z), a2] st M x := Rs_next c30_1 rfl
theorem s30_1n {L : Nat} {xs : Nat → Int32} {d x : Nat} {M : qxM} {st : List Value} {a1 a2 : Option Value} {z : Int32} : Rs L xs (d) 30 1 [none, a1, a2] (.int z :: st) M x = Rs L xs (d) 30 2 [none, some (.int z), a2] st M x := Rs_next c30_1 rfl
theorem c30_2 : qx_code 30 2 = some (2, .aload_n 0, 3, 0, 0, 0) := by decide +kernel
theorem s30_2 {L : Nat} {xs : Nat → Int32} {d x : Nat} {M : qxM} {st : List Value} {a1 a2 : Option Value} {z : Nat} : Rs L xs (d) 30 2 [some (.ref z), a1, a2] st M x = Rs L xs (d) 30 3 [some (.ref z), a1, a2] (.ref z :: st) M x := Rs_next c30_2 rfl
theorem c30_3 : qx_code 30 3 = some (3, .getfield 51, 6, 1, 8, 200) := by decide +kernel
theorem s30_3 {L : Nat} {xs : Nat → Int32} {d x : Nat} {M : qxM} {st : List Value} {ls : qxL} {t : Nat} (hk : qx_kd t = 11) : Rs L xs (d) 30 3 ls (.ref t :: st) M x = Rs L xs (d) 30 6 ls (.int (M.1 t 8) :: st) M x := Rs_when (qx_kd_obj (k := 1) (by decide) hk) c30_3 rfl
theorem c30_6 : qx_code 30 6 = some (6, .istore_n 2, 7, 0, 0, 0) := by decide +kernel
theorem s30_6i {L : Nat} {xs : Nat → Int32} {d x : Nat} {M : qxM} {st : List Value} {a0 a2 : Option Value} {z : Int32} {y : Int32} : Rs L xs (d) 30 6 [a0, some (.int y), a2] (.int z :: st) M x = Rs L xs (d) 30 7 [a0, some (.int y), some (.int z)] st M x := Rs_next c30_6 rfl
theorem s30_6r {L : Nat} {xs : Nat → Int32} {d x : Nat} {M : qxM} {st : List Value} {a0 a2 : Option Value} {z : Int32} {y : Nat} : Rs L xs (d) 30 6 [a0, some (.ref y), a2] (.int z :: st) M x = Rs L xs (d) 30 7 [a0, some (.ref y), some (.int z)] st M x := Rs_next c30_6 rfl
theorem s30_6n {L : Nat} {xs : Nat → Int32} {d x : Nat} {M : qxM} {st : List Value} {a0 a2 : Option Value} {z : Int32} : Rs L xs (d) 30 6 [a0, none, a2] (.int z :: st) M x = Rs L xs (d) 30 7 [a0, none, some (.int z)] st M x := Rs_next c30_6 rfl
theorem c30_7 : qx_code 30 7 = some (7, .iload_n 2, 8, 0, 0, 0) := by decide +kernel
theorem s30_7 {L : Nat} {xs : Nat → Int32} {d x : Nat} {M : qxM} {st : List Value} {a0 a1 : Option Value} {z : Int32} : Rs L xs (d) 30 7 [a0, a1, some (.int z)] st M x = Rs L xs (d) 30 8 [a0, a1, some (.int z)] (.int z :: st) M x := Rs_next c30_7 rfl
theorem c30_8 : qx_code 30 8 = some (8, .aload_n 0, 9, 0, 0, 0) := by decide +kernel
theorem s30_8 {L : Nat} {xs : Nat → Int32} {d x : Nat} {M : qxM} {st : List Value} {a1 a2 : Option Value} {z : Nat} : Rs L xs (d) 30 8 [some (.ref z), a1, a2] st M x = Rs L xs (d) 30 9 [some (.ref z), a1, a2] (.ref z :: st) M x := Rs_next c30_8 rfl
theorem c30_9 : qx_code 30 9 = some (9, .getfield 32, 12, 1, 6, 198) := by decide +kernel
theorem s30_9 {L : Nat} {xs : Nat → Int32} {d x : Nat} {M : qxM} {st : List Value} {ls : qxL} {t : Nat} (hk : qx_kd t = 11) : Rs L xs (d) 30 9 ls (.ref t :: st) M x = Rs L xs (d) 30 12 ls (.int (M.1 t 6) :: st) M x := Rs_when (qx_kd_obj (k := 1) (by decide) hk) c30_9 rfl
theorem c30_12 : qx_code 30 12 = some (12, .if_icmp .ge 23, 15, 35, 0, 0) := by decide +kernel
theorem s30_12 {L : Nat} {xs : Nat → Int32} {d x : Nat} {M : qxM} {st : List Value} {ls : qxL} {z y : Int32} : Rs L xs (d) 30 12 ls (.int y :: .int z :: st) M x = if y ≤ z then Rs L xs (d) 30 35 ls st M x else Rs L xs (d) 30 15 ls st M x := Rs_ite c30_12 rfl
theorem c30_15 : qx_code 30 15 = some (15, .bipush 10, 17, 0, 0, 0) := by decide +kernel
theorem s30_15 {L : Nat} {xs : Nat → Int32} {d x : Nat} {M : qxM} {st : List Value} {ls : qxL} : Rs L xs (d) 30 15 ls st M x = Rs L xs (d) 30 17 ls (.int (nI 10) :: st) M x := Rs_next c30_15 rfl
theorem c30_17 : qx_code 30 17 = some (17, .iload_n 1, 18, 0, 0, 0) := by decide +kernel
theorem s30_17 {L : Nat} {xs : Nat → Int32} {d x : Nat} {M : qxM} {st : List Value} {a0 a2 : Option Value} {z : Int32} : Rs L xs (d) 30 17 [a0, some (.int z), a2] st M x = Rs L xs (d) 30 18 [a0, some (.int z), a2] (.int z :: st) M x := Rs_next c30_17 rfl
theorem c30_18 : qx_code 30 18 = some (18, .imul, 19, 0, 0, 0) := by decide +kernel
theorem s30_18 {L : Nat} {xs : Nat → Int32} {d x : Nat} {M : qxM} {st : List Value} {ls : qxL} {z y : Int32} : Rs L xs (d) 30 18 ls (.int y :: .int z :: st) M x = Rs L xs (d) 30 19 ls (.int (z * y) :: st) M x := Rs_next c30_18 rfl
theorem c30_19 : qx_code 30 19 = some (19, .aload_n 0, 20, 0, 0, 0) := by decide +kernel
theorem s30_19 {L : Nat} {xs : Nat → Int32} {d x : Nat} {M : qxM} {st : List Value} {a1 a2 : Option Value} {z : Nat} : Rs L xs (d) 30 19 [some (.ref z), a1, a2] st M x = Rs L xs (d) 30 20 [some (.ref z), a1, a2] (.ref z :: st) M x := Rs_next c30_19 rfl
theorem c30_20 : qx_code 30 20 = some (20, .iload_n 2, 21, 0, 0, 0) := by decide +kernel
theorem s30_20 {L : Nat} {xs : Nat → Int32} {d x : Nat} {M : qxM} {st : List Value} {a0 a1 : Option Value} {z : Int32} : Rs L xs (d) 30 20 [a0, a1, some (.int z)] st M x = Rs L xs (d) 30 21 [a0, a1, some (.int z)] (.int z :: st) M x := Rs_next c30_20 rfl
theorem c30_21 : qx_code 30 21 = some (21, .invokevirtual 131, 24, 33, 2, 538) := by decide +kernel
theorem s30_21 {L : Nat} {xs : Nat → Int32} {d x : Nat} {M : qxM} {st : List Value} {ls : qxL} {t : Nat} {z0 : Int32} (hk : qx_kd t = 11) (hs : st.length ≤ 4) : Rs L xs (d + 1) 30 21 ls (.int z0 :: .ref t :: st) M x = (Rs L xs d 33 0 [some (.ref t), some (.int z0)] [] M 0).bind (qx_kn L xs (d + 1) 30 21 24 33 ls st x) := by
  have h1 : qx_act L xs (qx_rt 30) (21, .invokevirtual 131, 24, 33, 2, 538) ls (.int z0 :: .ref t :: st) M = if 2 ≤ (.int z0 :: .ref t :: st).length ∧ st.length ≤ 4 then some (.inr (.inr (.inr (33, [.ref t, .int z0], st)))) else none := rfl
  rw [if_pos ⟨by simp [List.length_cons]; try omega, hs⟩] at h1
  have h2 := qx_kd_obj (k := 1) (by decide) hk
  exact Rs_call c30_21 h1 (by rw [show qx_args 33 [.ref t, .int z0] = decide (qx_sh t = some (.inl 1)) from rfl]; exact decide_eq_true h2)
theorem c30_24 : qx_code 30 24 = some (24, .iadd, 25, 0, 0, 0) := by decide +kernel
theorem s30_24 {L : Nat} {xs : Nat → Int32} {d x : Nat} {M : qxM} {st : List Value} {ls : qxL} {z y : Int32} : Rs L xs (d) 30 24 ls (.int y :: .int z :: st) M x = Rs L xs (d) 30 25 ls (.int (z + y) :: st) M x := Rs_next c30_24 rfl
theorem c30_25 : qx_code 30 25 = some (25, .bipush 48, 27, 0, 0, 0) := by decide +kernel
theorem s30_25 {L : Nat} {xs : Nat → Int32} {d x : Nat} {M : qxM} {st : List Value} {ls : qxL} : Rs L xs (d) 30 25 ls st M x = Rs L xs (d) 30 27 ls (.int (nI 48) :: st) M x := Rs_next c30_25 rfl
theorem c30_27 : qx_code 30 27 = some (27, .isub, 28, 0, 0, 0) := by decide +kernel
theorem s30_27 {L : Nat} {xs : Nat → Int32} {d x : Nat} {M : qxM} {st : List Value} {ls : qxL} {z y : Int32} : Rs L xs (d) 30 27 ls (.int y :: .int z :: st) M x = Rs L xs (d) 30 28 ls (.int (z - y) :: st) M x := Rs_next c30_27 rfl
theorem c30_28 : qx_code 30 28 = some (28, .istore_n 1, 29, 0, 0, 0) := by decide +kernel
theorem s30_28i {L : Nat} {xs : Nat → Int32} {d x : Nat} {M : qxM} {st : List Value} {a1 a2 : Option Value} {z : Int32} {y : Int32} : Rs L xs (d) 30 28 [some (.int y), a1, a2] (.int z :: st) M x = Rs L xs (d) 30 29 [some (.int y), some (.int z), a2] st M x := Rs_next c30_28 rfl
theorem s30_28r {L : Nat} {xs : Nat → Int32} {d x : Nat} {M : qxM} {st : List Value} {a1 a2 : Option Value} {z : Int32} {y : Nat} : Rs L xs (d) 30 28 [some (.ref y), a1, a2] (.int z :: st) M x = Rs L xs (d) 30 29 [some (.ref y), some (.int z), a2] st M x := Rs_next c30_28 rfl
theorem s30_28n {L : Nat} {xs : Nat → Int32} {d x : Nat} {M : qxM} {st : List Value} {a1 a2 : Option Value} {z : Int32} : Rs L xs (d) 30 28 [none, a1, a2] (.int z :: st) M x = Rs L xs (d) 30 29 [none, some (.int z), a2] st M x := Rs_next c30_28 rfl
theorem c30_29 : qx_code 30 29 = some (29, .iinc 2 1, 32, 0, 0, 0) := by decide +kernel
theorem s30_29i {L : Nat} {xs : Nat → Int32} {d x : Nat} {M : qxM} {st : List Value} {a0 : Option Value} {z : Int32} {y : Int32} : Rs L xs (d) 30 29 [a0, some (.int y), some (.int z)] st M x = Rs L xs (d) 30 32 [a0, some (.int y), some (.int (z + (nI 1)))] st M x := Rs_next c30_29 rfl
theorem s30_29r {L : Nat} {xs : Nat → Int32} {d x : Nat} {M : qxM} {st : List Value} {a0 : Option Value} {z : Int32} {y : Nat} : Rs L xs (d) 30 29 [a0, some (.ref y), some (.int z)] st M x = Rs L xs (d) 30 32 [a0, some (.ref y), some (.int (z + (nI 1)))] st M x := Rs_next c30_29 rfl
theorem s30_29n {L : Nat} {xs : Nat → Int32} {d x : Nat} {M : qxM} {st : List Value} {a0 : Option Value} {z : Int32} : Rs L xs (d) 30 29 [a0, none, some (.int z)] st M x = Rs L xs (d) 30 32 [a0, none, some (.int (z + (nI 1)))] st M x := Rs_next c30_29 rfl
theorem c30_32 : qx_code 30 32 = some (32, .goto (-25), 35, 7, 0, 0) := by decide +kernel
theorem s30_32 {L : Nat} {xs : Nat → Int32} {d x : Nat} {M : qxM} {st : List Value} {ls : qxL} : Rs L xs (d) 30 32 ls st M x = Rs L xs (d) 30 7 ls st M x := Rs_next c30_32 rfl
theorem c30_35 : qx_code 30 35 = some (35, .iload_n 1, 36, 0, 0, 0) := by decide +kernel
theorem s30_35 {L : Nat} {xs : Nat → Int32} {d x : Nat} {M : qxM} {st : List Value} {a0 a2 : Option Value} {z : Int32} : Rs L xs (d) 30 35 [a0, some (.int z), a2] st M x = Rs L xs (d) 30 36 [a0, some (.int z), a2] (.int z :: st) M x := Rs_next c30_35 rfl
theorem c30_36 : qx_code 30 36 = some (36, .ireturn, 37, 0, 0, 0) := by decide +kernel
theorem s30_36 {L : Nat} {xs : Nat → Int32} {d x : Nat} {M : qxM} {ls : qxL} {z : Int32} : Rs L xs (d) 30 36 ls [.int z] M x = some (.inl (some (.int z)), M, x) := Rs_ret c30_36 rfl
theorem c31_0 : qx_code 31 0 = some (0, .aload_n 0, 1, 0, 0, 0) := by decide +kernel
theorem s31_0 {L : Nat} {xs : Nat → Int32} {d x : Nat} {M : qxM} {st : List Value} {a1 a2 : Option Value} {z : Nat} : Rs L xs (d) 31 0 [some (.ref z), a1, a2] st M x = Rs L xs (d) 31 1 [some (.ref z), a1, a2] (.ref z :: st) M x := Rs_next c31_0 rfl
theorem c31_1 : qx_code 31 1 = some (1, .getfield 45, 4, 1, 7, 199) := by decide +kernel
theorem s31_1 {L : Nat} {xs : Nat → Int32} {d x : Nat} {M : qxM} {st : List Value} {ls : qxL} {t : Nat} (hk : qx_kd t = 11) : Rs L xs (d) 31 1 ls (.ref t :: st) M x = Rs L xs (d) 31 4 ls (.int (M.1 t 7) :: st) M x := Rs_when (qx_kd_obj (k := 1) (by decide) hk) c31_1 rfl
theorem c31_4 : qx_code 31 4 = some (4, .iconst 1, 5, 0, 0, 0) := by decide +kernel
theorem s31_4 {L : Nat} {xs : Nat → Int32} {d x : Nat} {M : qxM} {st : List Value} {ls : qxL} : Rs L xs (d) 31 4 ls st M x = Rs L xs (d) 31 5 ls (.int (nI 1) :: st) M x := Rs_next c31_4 rfl
theorem c31_5 : qx_code 31 5 = some (5, .if_icmp .ne 19, 8, 24, 0, 0) := by decide +kernel
theorem s31_5 {L : Nat} {xs : Nat → Int32} {d x : Nat} {M : qxM} {st : List Value} {ls : qxL} {z y : Int32} : Rs L xs (d) 31 5 ls (.int y :: .int z :: st) M x = if z = y then Rs L xs (d) 31 8 ls st M x else Rs L xs (d) 31 24 ls st M x := Rs_ite c31_5 rfl
theorem c31_8 : qx_code 31 8 = some (8, .aload_n 0, 9, 0, 0, 0) := by decide +kernel
theorem s31_8 {L : Nat} {xs : Nat → Int32} {d x : Nat} {M : qxM} {st : List Value} {a1 a2 : Option Value} {z : Nat} : Rs L xs (d) 31 8 [some (.ref z), a1, a2] st M x = Rs L xs (d) 31 9 [some (.ref z), a1, a2] (.ref z :: st) M x := Rs_next c31_8 rfl
theorem c31_9 : qx_code 31 9 = some (9, .getfield 32, 12, 1, 6, 198) := by decide +kernel
theorem s31_9 {L : Nat} {xs : Nat → Int32} {d x : Nat} {M : qxM} {st : List Value} {ls : qxL} {t : Nat} (hk : qx_kd t = 11) : Rs L xs (d) 31 9 ls (.ref t :: st) M x = Rs L xs (d) 31 12 ls (.int (M.1 t 6) :: st) M x := Rs_when (qx_kd_obj (k := 1) (by decide) hk) c31_9 rfl
theorem c31_12 : qx_code 31 12 = some (12, .aload_n 0, 13, 0, 0, 0) := by decide +kernel
theorem s31_12 {L : Nat} {xs : Nat → Int32} {d x : Nat} {M : qxM} {st : List Value} {a1 a2 : Option Value} {z : Nat} : Rs L xs (d) 31 12 [some (.ref z), a1, a2] st M x = Rs L xs (d) 31 13 [some (.ref z), a1, a2] (.ref z :: st) M x := Rs_next c31_12 rfl
theorem c31_13 : qx_code 31 13 = some (13, .getfield 51, 16, 1, 8, 200) := by decide +kernel
theorem s31_13 {L : Nat} {xs : Nat → Int32} {d x : Nat} {M : qxM} {st : List Value} {ls : qxL} {t : Nat} (hk : qx_kd t = 11) : Rs L xs (d) 31 13 ls (.ref t :: st) M x = Rs L xs (d) 31 16 ls (.int (M.1 t 8) :: st) M x := Rs_when (qx_kd_obj (k := 1) (by decide) hk) c31_13 rfl
theorem c31_16 : qx_code 31 16 = some (16, .isub, 17, 0, 0, 0) := by decide +kernel
theorem s31_16 {L : Nat} {xs : Nat → Int32} {d x : Nat} {M : qxM} {st : List Value} {ls : qxL} {z y : Int32} : Rs L xs (d) 31 16 ls (.int y :: .int z :: st) M x = Rs L xs (d) 31 17 ls (.int (z - y) :: st) M x := Rs_next c31_16 rfl
theorem c31_17 : qx_code 31 17 = some (17, .aload_n 1, 18, 0, 0, 0) := by decide +kernel
theorem s31_17 {L : Nat} {xs : Nat → Int32} {d x : Nat} {M : qxM} {st : List Value} {a0 a2 : Option Value} {z : Nat} : Rs L xs (d) 31 17 [a0, some (.ref z), a2] st M x = Rs L xs (d) 31 18 [a0, some (.ref z), a2] (.ref z :: st) M x := Rs_next c31_17 rfl
theorem c31_18 : qx_code 31 18 = some (18, .invokevirtual 145, 21, 1000, 1, 559) := by decide +kernel
theorem s31_18 {L : Nat} {xs : Nat → Int32} {d x : Nat} {M : qxM} {st : List Value} {ls : qxL} {k : Nat} (hk : 1 ≤ k ∧ k ≤ 5 ∨ 21 ≤ k ∧ k < 26) (hs : st.length ≤ 4) : Rs L xs (d) 31 18 ls (.ref (500 + k) :: st) M x = Rs L xs (d) 31 21 ls (.int (nI (qx_txc k).length) :: st) M x := by
  have h1 : qx_act L xs (qx_rt 31) (18, .invokevirtual 145, 21, 1000, 1, 559) ls (.ref (500 + k) :: st) M = if (501 ≤ 500 + k ∧ 500 + k ≤ 505 ∨ 521 ≤ 500 + k ∧ 500 + k < 526) ∧ st.length ≤ 4 then some (.inl (21, ls, .int (nI (qx_txc (500 + k - 500)).length) :: st, M)) else none := rfl
  rw [Nat.add_sub_cancel_left] at h1
  exact Rs_when ⟨by omega, hs⟩ c31_18 h1
theorem c31_21 : qx_code 31 21 = some (21, .if_icmp .eq 5, 24, 26, 0, 0) := by decide +kernel
theorem s31_21 {L : Nat} {xs : Nat → Int32} {d x : Nat} {M : qxM} {st : List Value} {ls : qxL} {z y : Int32} : Rs L xs (d) 31 21 ls (.int y :: .int z :: st) M x = if z = y then Rs L xs (d) 31 26 ls st M x else Rs L xs (d) 31 24 ls st M x := Rs_ite c31_21 rfl
theorem c31_24 : qx_code 31 24 = some (24, .iconst 0, 25, 0, 0, 0) := by decide +kernel
theorem s31_24 {L : Nat} {xs : Nat → Int32} {d x : Nat} {M : qxM} {st : List Value} {ls : qxL} : Rs L xs (d) 31 24 ls st M x = Rs L xs (d) 31 25 ls (.int (nI 0) :: st) M x := Rs_next c31_24 rfl
theorem c31_25 : qx_code 31 25 = some (25, .ireturn, 26, 0, 0, 0) := by decide +kernel
theorem s31_25 {L : Nat} {xs : Nat → Int32} {d x : Nat} {M : qxM} {ls : qxL} {z : Int32} (h01 : z = 0 ∨ z = 1) : Rs L xs (d) 31 25 ls [.int z] M x = some (.inl (some (.int z)), M, x) := Rs_retw h01 c31_25 rfl
theorem c31_26 : qx_code 31 26 = some (26, .iconst 0, 27, 0, 0, 0) := by decide +kernel
theorem s31_26 {L : Nat} {xs : Nat → Int32} {d x : Nat} {M : qxM} {st : List Value} {ls : qxL} : Rs L xs (d) 31 26 ls st M x = Rs L xs (d) 31 27 ls (.int (nI 0) :: st) M x := Rs_next c31_26 rfl
theorem c31_27 : qx_code 31 27 = some (27, .istore_n 2, 28, 0, 0, 0) := by decide +kernel
theorem s31_27i {L : Nat} {xs : Nat → Int32} {d x : Nat} {M : qxM} {st : List Value} {a0 a2 : Option Value} {z : Int32} {y : Int32} : Rs L xs (d) 31 27 [a0, some (.int y), a2] (.int z :: st) M x = Rs L xs (d) 31 28 [a0, some (.int y), some (.int z)] st M x := Rs_next c31_27 rfl
theorem s31_27r {L : Nat} {xs : Nat → Int32} {d x : Nat} {M : qxM} {st : List Value} {a0 a2 : Option Value} {z : Int32} {y : Nat} : Rs L xs (d) 31 27 [a0, some (.ref y), a2] (.int z :: st) M x = Rs L xs (d) 31 28 [a0, some (.ref y), some (.int z)] st M x := Rs_next c31_27 rfl
theorem s31_27n {L : Nat} {xs : Nat → Int32} {d x : Nat} {M : qxM} {st : List Value} {a0 a2 : Option Value} {z : Int32} : Rs L xs (d) 31 27 [a0, none, a2] (.int z :: st) M x = Rs L xs (d) 31 28 [a0, none, some (.int z)] st M x := Rs_next c31_27 rfl
theorem c31_28 : qx_code 31 28 = some (28, .iload_n 2, 29, 0, 0, 0) := by decide +kernel
theorem s31_28 {L : Nat} {xs : Nat → Int32} {d x : Nat} {M : qxM} {st : List Value} {a0 a1 : Option Value} {z : Int32} : Rs L xs (d) 31 28 [a0, a1, some (.int z)] st M x = Rs L xs (d) 31 29 [a0, a1, some (.int z)] (.int z :: st) M x := Rs_next c31_28 rfl
theorem c31_29 : qx_code 31 29 = some (29, .aload_n 1, 30, 0, 0, 0) := by decide +kernel
theorem s31_29 {L : Nat} {xs : Nat → Int32} {d x : Nat} {M : qxM} {st : List Value} {a0 a2 : Option Value} {z : Nat} : Rs L xs (d) 31 29 [a0, some (.ref z), a2] st M x = Rs L xs (d) 31 30 [a0, some (.ref z), a2] (.ref z :: st) M x := Rs_next c31_29 rfl
theorem c31_30 : qx_code 31 30 = some (30, .invokevirtual 145, 33, 1000, 1, 559) := by decide +kernel
theorem s31_30 {L : Nat} {xs : Nat → Int32} {d x : Nat} {M : qxM} {st : List Value} {ls : qxL} {k : Nat} (hk : 1 ≤ k ∧ k ≤ 5 ∨ 21 ≤ k ∧ k < 26) (hs : st.length ≤ 4) : Rs L xs (d) 31 30 ls (.ref (500 + k) :: st) M x = Rs L xs (d) 31 33 ls (.int (nI (qx_txc k).length) :: st) M x := by
  have h1 : qx_act L xs (qx_rt 31) (30, .invokevirtual 145, 33, 1000, 1, 559) ls (.ref (500 + k) :: st) M = if (501 ≤ 500 + k ∧ 500 + k ≤ 505 ∨ 521 ≤ 500 + k ∧ 500 + k < 526) ∧ st.length ≤ 4 then some (.inl (33, ls, .int (nI (qx_txc (500 + k - 500)).length) :: st, M)) else none := rfl
  rw [Nat.add_sub_cancel_left] at h1
  exact Rs_when ⟨by omega, hs⟩ c31_30 h1
theorem c31_33 : qx_code 31 33 = some (33, .if_icmp .ge 29, 36, 62, 0, 0) := by decide +kernel
theorem s31_33 {L : Nat} {xs : Nat → Int32} {d x : Nat} {M : qxM} {st : List Value} {ls : qxL} {z y : Int32} : Rs L xs (d) 31 33 ls (.int y :: .int z :: st) M x = if y ≤ z then Rs L xs (d) 31 62 ls st M x else Rs L xs (d) 31 36 ls st M x := Rs_ite c31_33 rfl
theorem c31_36 : qx_code 31 36 = some (36, .aload_n 0, 37, 0, 0, 0) := by decide +kernel
theorem s31_36 {L : Nat} {xs : Nat → Int32} {d x : Nat} {M : qxM} {st : List Value} {a1 a2 : Option Value} {z : Nat} : Rs L xs (d) 31 36 [some (.ref z), a1, a2] st M x = Rs L xs (d) 31 37 [some (.ref z), a1, a2] (.ref z :: st) M x := Rs_next c31_36 rfl
theorem c31_37 : qx_code 31 37 = some (37, .aload_n 0, 38, 0, 0, 0) := by decide +kernel
theorem s31_37 {L : Nat} {xs : Nat → Int32} {d x : Nat} {M : qxM} {st : List Value} {a1 a2 : Option Value} {z : Nat} : Rs L xs (d) 31 37 [some (.ref z), a1, a2] st M x = Rs L xs (d) 31 38 [some (.ref z), a1, a2] (.ref z :: st) M x := Rs_next c31_37 rfl
theorem c31_38 : qx_code 31 38 = some (38, .getfield 51, 41, 1, 8, 200) := by decide +kernel
theorem s31_38 {L : Nat} {xs : Nat → Int32} {d x : Nat} {M : qxM} {st : List Value} {ls : qxL} {t : Nat} (hk : qx_kd t = 11) : Rs L xs (d) 31 38 ls (.ref t :: st) M x = Rs L xs (d) 31 41 ls (.int (M.1 t 8) :: st) M x := Rs_when (qx_kd_obj (k := 1) (by decide) hk) c31_38 rfl
theorem c31_41 : qx_code 31 41 = some (41, .iload_n 2, 42, 0, 0, 0) := by decide +kernel
theorem s31_41 {L : Nat} {xs : Nat → Int32} {d x : Nat} {M : qxM} {st : List Value} {a0 a1 : Option Value} {z : Int32} : Rs L xs (d) 31 41 [a0, a1, some (.int z)] st M x = Rs L xs (d) 31 42 [a0, a1, some (.int z)] (.int z :: st) M x := Rs_next c31_41 rfl
theorem c31_42 : qx_code 31 42 = some (42, .iadd, 43, 0, 0, 0) := by decide +kernel
theorem s31_42 {L : Nat} {xs : Nat → Int32} {d x : Nat} {M : qxM} {st : List Value} {ls : qxL} {z y : Int32} : Rs L xs (d) 31 42 ls (.int y :: .int z :: st) M x = Rs L xs (d) 31 43 ls (.int (z + y) :: st) M x := Rs_next c31_42 rfl
theorem c31_43 : qx_code 31 43 = some (43, .invokevirtual 131, 46, 33, 2, 538) := by decide +kernel
theorem s31_43 {L : Nat} {xs : Nat → Int32} {d x : Nat} {M : qxM} {st : List Value} {ls : qxL} {t : Nat} {z0 : Int32} (hk : qx_kd t = 11) (hs : st.length ≤ 4) : Rs L xs (d + 1) 31 43 ls (.int z0 :: .ref t :: st) M x = (Rs L xs d 33 0 [some (.ref t), some (.int z0)] [] M 0).bind (qx_kn L xs (d + 1) 31 43 46 33 ls st x) := by
  have h1 : qx_act L xs (qx_rt 31) (43, .invokevirtual 131, 46, 33, 2, 538) ls (.int z0 :: .ref t :: st) M = if 2 ≤ (.int z0 :: .ref t :: st).length ∧ st.length ≤ 4 then some (.inr (.inr (.inr (33, [.ref t, .int z0], st)))) else none := rfl
  rw [if_pos ⟨by simp [List.length_cons]; try omega, hs⟩] at h1
  have h2 := qx_kd_obj (k := 1) (by decide) hk
  exact Rs_call c31_43 h1 (by rw [show qx_args 33 [.ref t, .int z0] = decide (qx_sh t = some (.inl 1)) from rfl]; exact decide_eq_true h2)
theorem c31_46 : qx_code 31 46 = some (46, .aload_n 1, 47, 0, 0, 0) := by decide +kernel
theorem s31_46 {L : Nat} {xs : Nat → Int32} {d x : Nat} {M : qxM} {st : List Value} {a0 a2 : Option Value} {z : Nat} : Rs L xs (d) 31 46 [a0, some (.ref z), a2] st M x = Rs L xs (d) 31 47 [a0, some (.ref z), a2] (.ref z :: st) M x := Rs_next c31_46 rfl
theorem c31_47 : qx_code 31 47 = some (47, .iload_n 2, 48, 0, 0, 0) := by decide +kernel
theorem s31_47 {L : Nat} {xs : Nat → Int32} {d x : Nat} {M : qxM} {st : List Value} {a0 a1 : Option Value} {z : Int32} : Rs L xs (d) 31 47 [a0, a1, some (.int z)] st M x = Rs L xs (d) 31 48 [a0, a1, some (.int z)] (.int z :: st) M x := Rs_next c31_47 rfl
theorem c31_48 : qx_code 31 48 = some (48, .invokevirtual 149, 51, 1001, 2, 569) := by decide +kernel
theorem s31_48 {L : Nat} {xs : Nat → Int32} {d x : Nat} {M : qxM} {st : List Value} {ls : qxL} {k : Nat} {j : Int32} (hk : 1 ≤ k ∧ k ≤ 5 ∨ 21 ≤ k ∧ k < 26) (hs : st.length ≤ 4) (hj : qx_ib j (qx_txc k).length = true) : Rs L xs (d) 31 48 ls (.int j :: .ref (500 + k) :: st) M x = Rs L xs (d) 31 51 ls (.int (nI ((qx_txc k).getD j.toNatClampNeg 0)) :: st) M x := by
  have h1 : qx_act L xs (qx_rt 31) (48, .invokevirtual 149, 51, 1001, 2, 569) ls (.int j :: .ref (500 + k) :: st) M = if (501 ≤ 500 + k ∧ 500 + k ≤ 505 ∨ 521 ≤ 500 + k ∧ 500 + k < 526) ∧ st.length ≤ 4 ∧ ¬ (j < 0 ∨ (qx_txc (500 + k - 500)).length ≤ j.toNatClampNeg) then some (.inl (51, ls, .int (nI ((qx_txc (500 + k - 500)).getD j.toNatClampNeg 0)) :: st, M)) else none := rfl
  rw [Nat.add_sub_cancel_left] at h1
  exact Rs_when ⟨by omega, hs, qx_ib_not hj⟩ c31_48 h1
theorem c31_51 : qx_code 31 51 = some (51, .if_icmp .eq 5, 54, 56, 0, 0) := by decide +kernel
theorem s31_51 {L : Nat} {xs : Nat → Int32} {d x : Nat} {M : qxM} {st : List Value} {ls : qxL} {z y : Int32} : Rs L xs (d) 31 51 ls (.int y :: .int z :: st) M x = if z = y then Rs L xs (d) 31 56 ls st M x else Rs L xs (d) 31 54 ls st M x := Rs_ite c31_51 rfl
theorem c31_54 : qx_code 31 54 = some (54, .iconst 0, 55, 0, 0, 0) := by decide +kernel
theorem s31_54 {L : Nat} {xs : Nat → Int32} {d x : Nat} {M : qxM} {st : List Value} {ls : qxL} : Rs L xs (d) 31 54 ls st M x = Rs L xs (d) 31 55 ls (.int (nI 0) :: st) M x := Rs_next c31_54 rfl
theorem c31_55 : qx_code 31 55 = some (55, .ireturn, 56, 0, 0, 0) := by decide +kernel
theorem s31_55 {L : Nat} {xs : Nat → Int32} {d x : Nat} {M : qxM} {ls : qxL} {z : Int32} (h01 : z = 0 ∨ z = 1) : Rs L xs (d) 31 55 ls [.int z] M x = some (.inl (some (.int z)), M, x) := Rs_retw h01 c31_55 rfl
theorem c31_56 : qx_code 31 56 = some (56, .iinc 2 1, 59, 0, 0, 0) := by decide +kernel
theorem s31_56i {L : Nat} {xs : Nat → Int32} {d x : Nat} {M : qxM} {st : List Value} {a0 : Option Value} {z : Int32} {y : Int32} : Rs L xs (d) 31 56 [a0, some (.int y), some (.int z)] st M x = Rs L xs (d) 31 59 [a0, some (.int y), some (.int (z + (nI 1)))] st M x := Rs_next c31_56 rfl
theorem s31_56r {L : Nat} {xs : Nat → Int32} {d x : Nat} {M : qxM} {st : List Value} {a0 : Option Value} {z : Int32} {y : Nat} : Rs L xs (d) 31 56 [a0, some (.ref y), some (.int z)] st M x = Rs L xs (d) 31 59 [a0, some (.ref y), some (.int (z + (nI 1)))] st M x := Rs_next c31_56 rfl
theorem s31_56n {L : Nat} {xs : Nat → Int32} {d x : Nat} {M : qxM} {st : List Value} {a0 : Option Value} {z : Int32} : Rs L xs (d) 31 56 [a0, none, some (.int z)] st M x = Rs L xs (d) 31 59 [a0, none, some (.int (z + (nI 1)))] st M x := Rs_next c31_56 rfl
theorem c31_59 : qx_code 31 59 = some (59, .goto (-31), 62, 28, 0, 0) := by decide +kernel
theorem s31_59 {L : Nat} {xs : Nat → Int32} {d x : Nat} {M : qxM} {st : List Value} {ls : qxL} : Rs L xs (d) 31 59 ls st M x = Rs L xs (d) 31 28 ls st M x := Rs_next c31_59 rfl
theorem c31_62 : qx_code 31 62 = some (62, .iconst 1, 63, 0, 0, 0) := by decide +kernel
theorem s31_62 {L : Nat} {xs : Nat → Int32} {d x : Nat} {M : qxM} {st : List Value} {ls : qxL} : Rs L xs (d) 31 62 ls st M x = Rs L xs (d) 31 63 ls (.int (nI 1) :: st) M x := Rs_next c31_62 rfl
theorem c31_63 : qx_code 31 63 = some (63, .ireturn, 64, 0, 0, 0) := by decide +kernel
theorem s31_63 {L : Nat} {xs : Nat → Int32} {d x : Nat} {M : qxM} {ls : qxL} {z : Int32} (h01 : z = 0 ∨ z = 1) : Rs L xs (d) 31 63 ls [.int z] M x = some (.inl (some (.int z)), M, x) := Rs_retw h01 c31_63 rfl
theorem c32_0 : qx_code 32 0 = some (0, .aload_n 0, 1, 0, 0, 0) := by decide +kernel
theorem s32_0 {L : Nat} {xs : Nat → Int32} {d x : Nat} {M : qxM} {st : List Value} {a1 a2 a3 : Option Value} {z : Nat} : Rs L xs (d) 32 0 [some (.ref z), a1, a2, a3] st M x = Rs L xs (d) 32 1 [some (.ref z), a1, a2, a3] (.ref z :: st) M x := Rs_next c32_0 rfl
theorem c32_1 : qx_code 32 1 = some (1, .iload_n 1, 2, 0, 0, 0) := by decide +kernel
theorem s32_1 {L : Nat} {xs : Nat → Int32} {d x : Nat} {M : qxM} {st : List Value} {a0 a2 a3 : Option Value} {z : Int32} : Rs L xs (d) 32 1 [a0, some (.int z), a2, a3] st M x = Rs L xs (d) 32 2 [a0, some (.int z), a2, a3] (.int z :: st) M x := Rs_next c32_1 rfl
theorem c32_2 : qx_code 32 2 = some (2, .invokevirtual 131, 5, 33, 2, 538) := by decide +kernel
theorem s32_2 {L : Nat} {xs : Nat → Int32} {d x : Nat} {M : qxM} {st : List Value} {ls : qxL} {t : Nat} {z0 : Int32} (hk : qx_kd t = 11) (hs : st.length ≤ 4) : Rs L xs (d + 1) 32 2 ls (.int z0 :: .ref t :: st) M x = (Rs L xs d 33 0 [some (.ref t), some (.int z0)] [] M 0).bind (qx_kn L xs (d + 1) 32 2 5 33 ls st x) := by
  have h1 : qx_act L xs (qx_rt 32) (2, .invokevirtual 131, 5, 33, 2, 538) ls (.int z0 :: .ref t :: st) M = if 2 ≤ (.int z0 :: .ref t :: st).length ∧ st.length ≤ 4 then some (.inr (.inr (.inr (33, [.ref t, .int z0], st)))) else none := rfl
  rw [if_pos ⟨by simp [List.length_cons]; try omega, hs⟩] at h1
  have h2 := qx_kd_obj (k := 1) (by decide) hk
  exact Rs_call c32_2 h1 (by rw [show qx_args 33 [.ref t, .int z0] = decide (qx_sh t = some (.inl 1)) from rfl]; exact decide_eq_true h2)
theorem c32_5 : qx_code 32 5 = some (5, .iload_n 2, 6, 0, 0, 0) := by decide +kernel
theorem s32_5 {L : Nat} {xs : Nat → Int32} {d x : Nat} {M : qxM} {st : List Value} {a0 a1 a3 : Option Value} {z : Int32} : Rs L xs (d) 32 5 [a0, a1, some (.int z), a3] st M x = Rs L xs (d) 32 6 [a0, a1, some (.int z), a3] (.int z :: st) M x := Rs_next c32_5 rfl
theorem c32_6 : qx_code 32 6 = some (6, .if_icmp .lt 16, 9, 22, 0, 0) := by decide +kernel
theorem s32_6 {L : Nat} {xs : Nat → Int32} {d x : Nat} {M : qxM} {st : List Value} {ls : qxL} {z y : Int32} : Rs L xs (d) 32 6 ls (.int y :: .int z :: st) M x = if z < y then Rs L xs (d) 32 22 ls st M x else Rs L xs (d) 32 9 ls st M x := Rs_ite c32_6 rfl
theorem c32_9 : qx_code 32 9 = some (9, .aload_n 0, 10, 0, 0, 0) := by decide +kernel
theorem s32_9 {L : Nat} {xs : Nat → Int32} {d x : Nat} {M : qxM} {st : List Value} {a1 a2 a3 : Option Value} {z : Nat} : Rs L xs (d) 32 9 [some (.ref z), a1, a2, a3] st M x = Rs L xs (d) 32 10 [some (.ref z), a1, a2, a3] (.ref z :: st) M x := Rs_next c32_9 rfl
theorem c32_10 : qx_code 32 10 = some (10, .iload_n 1, 11, 0, 0, 0) := by decide +kernel
theorem s32_10 {L : Nat} {xs : Nat → Int32} {d x : Nat} {M : qxM} {st : List Value} {a0 a2 a3 : Option Value} {z : Int32} : Rs L xs (d) 32 10 [a0, some (.int z), a2, a3] st M x = Rs L xs (d) 32 11 [a0, some (.int z), a2, a3] (.int z :: st) M x := Rs_next c32_10 rfl
theorem c32_11 : qx_code 32 11 = some (11, .invokevirtual 131, 14, 33, 2, 538) := by decide +kernel
theorem s32_11 {L : Nat} {xs : Nat → Int32} {d x : Nat} {M : qxM} {st : List Value} {ls : qxL} {t : Nat} {z0 : Int32} (hk : qx_kd t = 11) (hs : st.length ≤ 4) : Rs L xs (d + 1) 32 11 ls (.int z0 :: .ref t :: st) M x = (Rs L xs d 33 0 [some (.ref t), some (.int z0)] [] M 0).bind (qx_kn L xs (d + 1) 32 11 14 33 ls st x) := by
  have h1 : qx_act L xs (qx_rt 32) (11, .invokevirtual 131, 14, 33, 2, 538) ls (.int z0 :: .ref t :: st) M = if 2 ≤ (.int z0 :: .ref t :: st).length ∧ st.length ≤ 4 then some (.inr (.inr (.inr (33, [.ref t, .int z0], st)))) else none := rfl
  rw [if_pos ⟨by simp [List.length_cons]; try omega, hs⟩] at h1
  have h2 := qx_kd_obj (k := 1) (by decide) hk
  exact Rs_call c32_11 h1 (by rw [show qx_args 33 [.ref t, .int z0] = decide (qx_sh t = some (.inl 1)) from rfl]; exact decide_eq_true h2)
theorem c32_14 : qx_code 32 14 = some (14, .iload_n 3, 15, 0, 0, 0) := by decide +kernel
theorem s32_14 {L : Nat} {xs : Nat → Int32} {d x : Nat} {M : qxM} {st : List Value} {a0 a1 a2 : Option Value} {z : Int32} : Rs L xs (d) 32 14 [a0, a1, a2, some (.int z)] st M x = Rs L xs (d) 32 15 [a0, a1, a2, some (.int z)] (.int z :: st) M x := Rs_next c32_14 rfl
theorem c32_15 : qx_code 32 15 = some (15, .if_icmp .gt 7, 18, 22, 0, 0) := by decide +kernel
theorem s32_15 {L : Nat} {xs : Nat → Int32} {d x : Nat} {M : qxM} {st : List Value} {ls : qxL} {z y : Int32} : Rs L xs (d) 32 15 ls (.int y :: .int z :: st) M x = if y < z then Rs L xs (d) 32 22 ls st M x else Rs L xs (d) 32 18 ls st M x := Rs_ite c32_15 rfl
theorem c32_18 : qx_code 32 18 = some (18, .iconst 1, 19, 0, 0, 0) := by decide +kernel
theorem s32_18 {L : Nat} {xs : Nat → Int32} {d x : Nat} {M : qxM} {st : List Value} {ls : qxL} : Rs L xs (d) 32 18 ls st M x = Rs L xs (d) 32 19 ls (.int (nI 1) :: st) M x := Rs_next c32_18 rfl
theorem c32_19 : qx_code 32 19 = some (19, .goto 4, 22, 23, 0, 0) := by decide +kernel
theorem s32_19 {L : Nat} {xs : Nat → Int32} {d x : Nat} {M : qxM} {st : List Value} {ls : qxL} : Rs L xs (d) 32 19 ls st M x = Rs L xs (d) 32 23 ls st M x := Rs_next c32_19 rfl
theorem c32_22 : qx_code 32 22 = some (22, .iconst 0, 23, 0, 0, 0) := by decide +kernel
theorem s32_22 {L : Nat} {xs : Nat → Int32} {d x : Nat} {M : qxM} {st : List Value} {ls : qxL} : Rs L xs (d) 32 22 ls st M x = Rs L xs (d) 32 23 ls (.int (nI 0) :: st) M x := Rs_next c32_22 rfl
theorem c32_23 : qx_code 32 23 = some (23, .ireturn, 24, 0, 0, 0) := by decide +kernel
theorem s32_23 {L : Nat} {xs : Nat → Int32} {d x : Nat} {M : qxM} {ls : qxL} {z : Int32} (h01 : z = 0 ∨ z = 1) : Rs L xs (d) 32 23 ls [.int z] M x = some (.inl (some (.int z)), M, x) := Rs_retw h01 c32_23 rfl
theorem c33_0 : qx_code 33 0 = some (0, .iload_n 1, 1, 0, 0, 0) := by decide +kernel
theorem s33_0 {L : Nat} {xs : Nat → Int32} {d x : Nat} {M : qxM} {st : List Value} {a0 : Option Value} {z : Int32} : Rs L xs (d) 33 0 [a0, some (.int z)] st M x = Rs L xs (d) 33 1 [a0, some (.int z)] (.int z :: st) M x := Rs_next c33_0 rfl
theorem c33_1 : qx_code 33 1 = some (1, .ifCond .lt 21, 4, 22, 0, 0) := by decide +kernel
theorem s33_1 {L : Nat} {xs : Nat → Int32} {d x : Nat} {M : qxM} {st : List Value} {ls : qxL} {z : Int32} : Rs L xs (d) 33 1 ls (.int z :: st) M x = if z < 0 then Rs L xs (d) 33 22 ls st M x else Rs L xs (d) 33 4 ls st M x := Rs_ite c33_1 rfl
theorem c33_4 : qx_code 33 4 = some (4, .iload_n 1, 5, 0, 0, 0) := by decide +kernel
theorem s33_4 {L : Nat} {xs : Nat → Int32} {d x : Nat} {M : qxM} {st : List Value} {a0 : Option Value} {z : Int32} : Rs L xs (d) 33 4 [a0, some (.int z)] st M x = Rs L xs (d) 33 5 [a0, some (.int z)] (.int z :: st) M x := Rs_next c33_4 rfl
theorem c33_5 : qx_code 33 5 = some (5, .aload_n 0, 6, 0, 0, 0) := by decide +kernel
theorem s33_5 {L : Nat} {xs : Nat → Int32} {d x : Nat} {M : qxM} {st : List Value} {a1 : Option Value} {z : Nat} : Rs L xs (d) 33 5 [some (.ref z), a1] st M x = Rs L xs (d) 33 6 [some (.ref z), a1] (.ref z :: st) M x := Rs_next c33_5 rfl
theorem c33_6 : qx_code 33 6 = some (6, .getfield 9, 9, 1, 0, 188) := by decide +kernel
theorem s33_6 {L : Nat} {xs : Nat → Int32} {d x : Nat} {M : qxM} {st : List Value} {ls : qxL} {t : Nat} (hk : qx_kd t = 11) : Rs L xs (d) 33 6 ls (.ref t :: st) M x = Rs L xs (d) 33 9 ls (.ref (t + 1) :: st) M x := Rs_when (qx_kd_obj (k := 1) (by decide) hk) c33_6 rfl
theorem c33_9 : qx_code 33 9 = some (9, .arraylength, 10, 0, 0, 0) := by decide +kernel
theorem s33_9 {L : Nat} {xs : Nat → Int32} {d x : Nat} {M : qxM} {st : List Value} {ls : qxL} {t : Nat} (hk : qx_kd t < 6) : Rs L xs (d) 33 9 ls (.ref t :: st) M x = Rs L xs (d) 33 10 ls (.int (nI (qx_ln t)) :: st) M x := by
  have h1 := qx_kd_row hk rfl
  exact Rs_next c33_9 (by unfold qx_act; dsimp only; rw [h1]; rfl)
theorem c33_10 : qx_code 33 10 = some (10, .if_icmp .ge 12, 13, 22, 0, 0) := by decide +kernel
theorem s33_10 {L : Nat} {xs : Nat → Int32} {d x : Nat} {M : qxM} {st : List Value} {ls : qxL} {z y : Int32} : Rs L xs (d) 33 10 ls (.int y :: .int z :: st) M x = if y ≤ z then Rs L xs (d) 33 22 ls st M x else Rs L xs (d) 33 13 ls st M x := Rs_ite c33_10 rfl
theorem c33_13 : qx_code 33 13 = some (13, .aload_n 0, 14, 0, 0, 0) := by decide +kernel
theorem s33_13 {L : Nat} {xs : Nat → Int32} {d x : Nat} {M : qxM} {st : List Value} {a1 : Option Value} {z : Nat} : Rs L xs (d) 33 13 [some (.ref z), a1] st M x = Rs L xs (d) 33 14 [some (.ref z), a1] (.ref z :: st) M x := Rs_next c33_13 rfl
theorem c33_14 : qx_code 33 14 = some (14, .getfield 9, 17, 1, 0, 188) := by decide +kernel
theorem s33_14 {L : Nat} {xs : Nat → Int32} {d x : Nat} {M : qxM} {st : List Value} {ls : qxL} {t : Nat} (hk : qx_kd t = 11) : Rs L xs (d) 33 14 ls (.ref t :: st) M x = Rs L xs (d) 33 17 ls (.ref (t + 1) :: st) M x := Rs_when (qx_kd_obj (k := 1) (by decide) hk) c33_14 rfl
theorem c33_17 : qx_code 33 17 = some (17, .iload_n 1, 18, 0, 0, 0) := by decide +kernel
theorem s33_17 {L : Nat} {xs : Nat → Int32} {d x : Nat} {M : qxM} {st : List Value} {a0 : Option Value} {z : Int32} : Rs L xs (d) 33 17 [a0, some (.int z)] st M x = Rs L xs (d) 33 18 [a0, some (.int z)] (.int z :: st) M x := Rs_next c33_17 rfl
theorem c33_18 : qx_code 33 18 = some (18, .baload, 19, 0, 0, 0) := by decide +kernel
theorem s33_18 {L : Nat} {xs : Nat → Int32} {d x : Nat} {M : qxM} {st : List Value} {ls : qxL} {t : Nat} {j : Int32} (hk : qx_kd t = 1) (hj : qx_ib j (qx_ln t) = true) : Rs L xs (d) 33 18 ls (.int j :: .ref t :: st) M x = Rs L xs (d) 33 19 ls (.int (M.1 t j.toNatClampNeg) :: st) M x := by
  have h1 := qx_kd_row (k := 1) (by decide) hk
  exact Rs_unless (qx_ib_not hj) c33_18 (by unfold qx_act; dsimp only; rw [h1]; rfl)
theorem s33_18z {L : Nat} {xs : Nat → Int32} {d x : Nat} {M : qxM} {st : List Value} {ls : qxL} {t : Nat} {j : Int32} (hk : qx_kd t = 2) (hj : qx_ib j (qx_ln t) = true) : Rs L xs (d) 33 18 ls (.int j :: .ref t :: st) M x = Rs L xs (d) 33 19 ls (.int (M.1 t j.toNatClampNeg) :: st) M x := by
  have h1 := qx_kd_row (k := 2) (by decide) hk
  exact Rs_unless (qx_ib_not hj) c33_18 (by unfold qx_act; dsimp only; rw [h1]; rfl)
theorem c33_19 : qx_code 33 19 = some (19, .goto 4, 22, 23, 0, 0) := by decide +kernel
theorem s33_19 {L : Nat} {xs : Nat → Int32} {d x : Nat} {M : qxM} {st : List Value} {ls : qxL} : Rs L xs (d) 33 19 ls st M x = Rs L xs (d) 33 23 ls st M x := Rs_next c33_19 rfl
theorem c33_22 : qx_code 33 22 = some (22, .iconst 0, 23, 0, 0, 0) := by decide +kernel
theorem s33_22 {L : Nat} {xs : Nat → Int32} {d x : Nat} {M : qxM} {st : List Value} {ls : qxL} : Rs L xs (d) 33 22 ls st M x = Rs L xs (d) 33 23 ls (.int (nI 0) :: st) M x := Rs_next c33_22 rfl
theorem c33_23 : qx_code 33 23 = some (23, .ireturn, 24, 0, 0, 0) := by decide +kernel
theorem s33_23 {L : Nat} {xs : Nat → Int32} {d x : Nat} {M : qxM} {ls : qxL} {z : Int32} : Rs L xs (d) 33 23 ls [.int z] M x = some (.inl (some (.int z)), M, x) := Rs_ret c33_23 rfl
