/-! Steps. -/
theorem c184_0 : qx_code 184 0 = some (0, .aload_n 0, 1, 0, 0, 0) := by decide +kernel
theorem s184_0 {L : Nat} {xs : Nat → Int32} {d x : Nat} {M : qxM} {st : List Value} {a1 : Option Value} {z : Nat} : Rs L xs (d) 184 0 [some (.ref z), a1] st M x = Rs L xs (d) 184 1 [some (.ref z), a1] (.ref z :: st) M x := Rs_next c184_0 rfl
theorem c184_1 : qx_code 184 1 = some (1, .getfield 13, 4, 8, 2, 1547) := by decide +kernel
theorem s184_1 {L : Nat} {xs : Nat → Int32} {d x : Nat} {M : qxM} {st : List Value} {ls : qxL} {t : Nat} (hk : qx_kd t = 18) : Rs L xs (d) 184 1 ls (.ref t :: st) M x = Rs L xs (d) 184 4 ls (.ref (t + 2) :: st) M x := Rs_when (qx_kd_obj (k := 8) (by decide) hk) c184_1 rfl
theorem c184_4 : qx_code 184 4 = some (4, .iconst 0, 5, 0, 0, 0) := by decide +kernel
theorem s184_4 {L : Nat} {xs : Nat → Int32} {d x : Nat} {M : qxM} {st : List Value} {ls : qxL} : Rs L xs (d) 184 4 ls st M x = Rs L xs (d) 184 5 ls (.int (nI 0) :: st) M x := Rs_next c184_4 rfl
theorem c184_5 : qx_code 184 5 = some (5, .aload_n 0, 6, 0, 0, 0) := by decide +kernel
theorem s184_5 {L : Nat} {xs : Nat → Int32} {d x : Nat} {M : qxM} {st : List Value} {a1 : Option Value} {z : Nat} : Rs L xs (d) 184 5 [some (.ref z), a1] st M x = Rs L xs (d) 184 6 [some (.ref z), a1] (.ref z :: st) M x := Rs_next c184_5 rfl
theorem c184_6 : qx_code 184 6 = some (6, .getfield 9, 9, 8, 1, 1546) := by decide +kernel
theorem s184_6 {L : Nat} {xs : Nat → Int32} {d x : Nat} {M : qxM} {st : List Value} {ls : qxL} {t : Nat} (hk : qx_kd t = 18) : Rs L xs (d) 184 6 ls (.ref t :: st) M x = Rs L xs (d) 184 9 ls (.ref (t + 1) :: st) M x := Rs_when (qx_kd_obj (k := 8) (by decide) hk) c184_6 rfl
theorem c184_9 : qx_code 184 9 = some (9, .iconst 0, 10, 0, 0, 0) := by decide +kernel
theorem s184_9 {L : Nat} {xs : Nat → Int32} {d x : Nat} {M : qxM} {st : List Value} {ls : qxL} : Rs L xs (d) 184 9 ls st M x = Rs L xs (d) 184 10 ls (.int (nI 0) :: st) M x := Rs_next c184_9 rfl
theorem c184_10 : qx_code 184 10 = some (10, .invokestatic 52, 13, 182, 4, 1652) := by decide +kernel
theorem s184_10 {L : Nat} {xs : Nat → Int32} {d x : Nat} {M : qxM} {st : List Value} {ls : qxL} {z0 : Nat} {z1 : Int32} {z2 : Nat} {z3 : Int32} (hs : st.length ≤ 4) : Rs L xs (d + 1) 184 10 ls (.int z3 :: .ref z2 :: .int z1 :: .ref z0 :: st) M x = (Rs L xs d 182 0 [some (.ref z0), some (.int z1), some (.ref z2), some (.int z3), none] [] M 0).bind (qx_kn L xs (d + 1) 184 10 13 182 ls st x) := by
  have h1 : qx_act L xs (qx_rt 184) (10, .invokestatic 52, 13, 182, 4, 1652) ls (.int z3 :: .ref z2 :: .int z1 :: .ref z0 :: st) M = if 4 ≤ (.int z3 :: .ref z2 :: .int z1 :: .ref z0 :: st).length ∧ st.length ≤ 4 then some (.inr (.inr (.inr (182, [.ref z0, .int z1, .ref z2, .int z3], st)))) else none := rfl
  rw [if_pos ⟨by simp [List.length_cons]; try omega, hs⟩] at h1
  exact Rs_call c184_10 h1 rfl
theorem c184_13 : qx_code 184 13 = some (13, .iload_n 1, 14, 0, 0, 0) := by decide +kernel
theorem s184_13 {L : Nat} {xs : Nat → Int32} {d x : Nat} {M : qxM} {st : List Value} {a0 : Option Value} {z : Int32} : Rs L xs (d) 184 13 [a0, some (.int z)] st M x = Rs L xs (d) 184 14 [a0, some (.int z)] (.int z :: st) M x := Rs_next c184_13 rfl
theorem c184_14 : qx_code 184 14 = some (14, .ireturn, 15, 0, 0, 0) := by decide +kernel
theorem s184_14 {L : Nat} {xs : Nat → Int32} {d x : Nat} {M : qxM} {ls : qxL} {z : Int32} : Rs L xs (d) 184 14 ls [.int z] M x = some (.inl (some (.int z)), M, x) := Rs_ret c184_14 rfl
theorem c185_0 : qx_code 185 0 = some (0, .aload_n 0, 1, 0, 0, 0) := by decide +kernel
theorem s185_0 {L : Nat} {xs : Nat → Int32} {d x : Nat} {M : qxM} {st : List Value} {a1 a2 a3 a4 a5 : Option Value} {z : Nat} : Rs L xs (d) 185 0 [some (.ref z), a1, a2, a3, a4, a5] st M x = Rs L xs (d) 185 1 [some (.ref z), a1, a2, a3, a4, a5] (.ref z :: st) M x := Rs_next c185_0 rfl
theorem c185_1 : qx_code 185 1 = some (1, .iconst 0, 2, 0, 0, 0) := by decide +kernel
theorem s185_1 {L : Nat} {xs : Nat → Int32} {d x : Nat} {M : qxM} {st : List Value} {ls : qxL} : Rs L xs (d) 185 1 ls st M x = Rs L xs (d) 185 2 ls (.int (nI 0) :: st) M x := Rs_next c185_1 rfl
theorem c185_2 : qx_code 185 2 = some (2, .putfield 46, 5, 8, 0, 1545) := by decide +kernel
theorem s185_2 {L : Nat} {xs : Nat → Int32} {d x : Nat} {M : qxM} {st : List Value} {ls : qxL} {t : Nat} {z : Int32} (hk : qx_kd t = 18) : Rs L xs (d) 185 2 ls (.int z :: .ref t :: st) M x = Rs L xs (d) 185 5 ls st (qx_up M t 0 z) x := Rs_when (cnd := qx_sh t = some (.inl 8) ∧ qx_fo 8 0 = none ∧ (qx_bf 8 0 = true → z = 0 ∨ z = 1)) ⟨qx_kd_obj (k := 8) (by decide) hk, rfl, fun h => nomatch h⟩ c185_2 rfl
theorem c185_5 : qx_code 185 5 = some (5, .aload_n 0, 6, 0, 0, 0) := by decide +kernel
theorem s185_5 {L : Nat} {xs : Nat → Int32} {d x : Nat} {M : qxM} {st : List Value} {a1 a2 a3 a4 a5 : Option Value} {z : Nat} : Rs L xs (d) 185 5 [some (.ref z), a1, a2, a3, a4, a5] st M x = Rs L xs (d) 185 6 [some (.ref z), a1, a2, a3, a4, a5] (.ref z :: st) M x := Rs_next c185_5 rfl
theorem c185_6 : qx_code 185 6 = some (6, .getfield 56, 9, 8, 9, 1554) := by decide +kernel
theorem s185_6 {L : Nat} {xs : Nat → Int32} {d x : Nat} {M : qxM} {st : List Value} {ls : qxL} {t : Nat} (hk : qx_kd t = 18) : Rs L xs (d) 185 6 ls (.ref t :: st) M x = Rs L xs (d) 185 9 ls (.int (M.1 t 9) :: st) M x := Rs_when (qx_kd_obj (k := 8) (by decide) hk) c185_6 rfl
theorem c185_9 : qx_code 185 9 = some (9, .sipush 480, 12, 0, 0, 0) := by decide +kernel
theorem s185_9 {L : Nat} {xs : Nat → Int32} {d x : Nat} {M : qxM} {st : List Value} {ls : qxL} : Rs L xs (d) 185 9 ls st M x = Rs L xs (d) 185 12 ls (.int (nI 480) :: st) M x := Rs_next c185_9 rfl
theorem c185_12 : qx_code 185 12 = some (12, .if_icmp .le 5, 15, 17, 0, 0) := by decide +kernel
theorem s185_12 {L : Nat} {xs : Nat → Int32} {d x : Nat} {M : qxM} {st : List Value} {ls : qxL} {z y : Int32} : Rs L xs (d) 185 12 ls (.int y :: .int z :: st) M x = if z ≤ y then Rs L xs (d) 185 17 ls st M x else Rs L xs (d) 185 15 ls st M x := Rs_ite c185_12 rfl
theorem c185_15 : qx_code 185 15 = some (15, .iconst (-1), 16, 0, 0, 0) := by decide +kernel
theorem s185_15 {L : Nat} {xs : Nat → Int32} {d x : Nat} {M : qxM} {st : List Value} {ls : qxL} : Rs L xs (d) 185 15 ls st M x = Rs L xs (d) 185 16 ls (.int (-1) :: st) M x := Rs_next c185_15 rfl
theorem c185_16 : qx_code 185 16 = some (16, .ireturn, 17, 0, 0, 0) := by decide +kernel
theorem s185_16 {L : Nat} {xs : Nat → Int32} {d x : Nat} {M : qxM} {ls : qxL} {z : Int32} : Rs L xs (d) 185 16 ls [.int z] M x = some (.inl (some (.int z)), M, x) := Rs_ret c185_16 rfl
theorem c185_17 : qx_code 185 17 = some (17, .aload_n 0, 18, 0, 0, 0) := by decide +kernel
theorem s185_17 {L : Nat} {xs : Nat → Int32} {d x : Nat} {M : qxM} {st : List Value} {a1 a2 a3 a4 a5 : Option Value} {z : Nat} : Rs L xs (d) 185 17 [some (.ref z), a1, a2, a3, a4, a5] st M x = Rs L xs (d) 185 18 [some (.ref z), a1, a2, a3, a4, a5] (.ref z :: st) M x := Rs_next c185_17 rfl
theorem c185_18 : qx_code 185 18 = some (18, .iload_n 1, 19, 0, 0, 0) := by decide +kernel
theorem s185_18 {L : Nat} {xs : Nat → Int32} {d x : Nat} {M : qxM} {st : List Value} {a0 a2 a3 a4 a5 : Option Value} {z : Int32} : Rs L xs (d) 185 18 [a0, some (.int z), a2, a3, a4, a5] st M x = Rs L xs (d) 185 19 [a0, some (.int z), a2, a3, a4, a5] (.int z :: st) M x := Rs_next c185_18 rfl
theorem c185_19 : qx_code 185 19 = some (19, .invokevirtual 59, 22, 186, 2, 1621) := by decide +kernel
theorem s185_19 {L : Nat} {xs : Nat → Int32} {d x : Nat} {M : qxM} {st : List Value} {ls : qxL} {t : Nat} {z0 : Int32} (hk : qx_kd t = 18) (hs : st.length ≤ 4) : Rs L xs (d + 1) 185 19 ls (.int z0 :: .ref t :: st) M x = (Rs L xs d 186 0 [some (.ref t), some (.int z0), none] [] M 0).bind (qx_kn L xs (d + 1) 185 19 22 186 ls st x) := by
  have h1 : qx_act L xs (qx_rt 185) (19, .invokevirtual 59, 22, 186, 2, 1621) ls (.int z0 :: .ref t :: st) M = if 2 ≤ (.int z0 :: .ref t :: st).length ∧ st.length ≤ 4 then some (.inr (.inr (.inr (186, [.ref t, .int z0], st)))) else none := rfl
  rw [if_pos ⟨by simp [List.length_cons]; try omega, hs⟩] at h1
  have h2 := qx_kd_obj (k := 8) (by decide) hk
  exact Rs_call c185_19 h1 (by rw [show qx_args 186 [.ref t, .int z0] = decide (qx_sh t = some (.inl 8)) from rfl]; exact decide_eq_true h2)
theorem c185_22 : qx_code 185 22 = some (22, .aload_n 0, 23, 0, 0, 0) := by decide +kernel
theorem s185_22 {L : Nat} {xs : Nat → Int32} {d x : Nat} {M : qxM} {st : List Value} {a1 a2 a3 a4 a5 : Option Value} {z : Nat} : Rs L xs (d) 185 22 [some (.ref z), a1, a2, a3, a4, a5] st M x = Rs L xs (d) 185 23 [some (.ref z), a1, a2, a3, a4, a5] (.ref z :: st) M x := Rs_next c185_22 rfl
theorem c185_23 : qx_code 185 23 = some (23, .iload_n 2, 24, 0, 0, 0) := by decide +kernel
theorem s185_23 {L : Nat} {xs : Nat → Int32} {d x : Nat} {M : qxM} {st : List Value} {a0 a1 a3 a4 a5 : Option Value} {z : Int32} : Rs L xs (d) 185 23 [a0, a1, some (.int z), a3, a4, a5] st M x = Rs L xs (d) 185 24 [a0, a1, some (.int z), a3, a4, a5] (.int z :: st) M x := Rs_next c185_23 rfl
theorem c185_24 : qx_code 185 24 = some (24, .invokevirtual 59, 27, 186, 2, 1621) := by decide +kernel
theorem s185_24 {L : Nat} {xs : Nat → Int32} {d x : Nat} {M : qxM} {st : List Value} {ls : qxL} {t : Nat} {z0 : Int32} (hk : qx_kd t = 18) (hs : st.length ≤ 4) : Rs L xs (d + 1) 185 24 ls (.int z0 :: .ref t :: st) M x = (Rs L xs d 186 0 [some (.ref t), some (.int z0), none] [] M 0).bind (qx_kn L xs (d + 1) 185 24 27 186 ls st x) := by
  have h1 : qx_act L xs (qx_rt 185) (24, .invokevirtual 59, 27, 186, 2, 1621) ls (.int z0 :: .ref t :: st) M = if 2 ≤ (.int z0 :: .ref t :: st).length ∧ st.length ≤ 4 then some (.inr (.inr (.inr (186, [.ref t, .int z0], st)))) else none := rfl
  rw [if_pos ⟨by simp [List.length_cons]; try omega, hs⟩] at h1
  have h2 := qx_kd_obj (k := 8) (by decide) hk
  exact Rs_call c185_24 h1 (by rw [show qx_args 186 [.ref t, .int z0] = decide (qx_sh t = some (.inl 8)) from rfl]; exact decide_eq_true h2)
theorem c185_27 : qx_code 185 27 = some (27, .aload_n 0, 28, 0, 0, 0) := by decide +kernel
theorem s185_27 {L : Nat} {xs : Nat → Int32} {d x : Nat} {M : qxM} {st : List Value} {a1 a2 a3 a4 a5 : Option Value} {z : Nat} : Rs L xs (d) 185 27 [some (.ref z), a1, a2, a3, a4, a5] st M x = Rs L xs (d) 185 28 [some (.ref z), a1, a2, a3, a4, a5] (.ref z :: st) M x := Rs_next c185_27 rfl
theorem c185_28 : qx_code 185 28 = some (28, .iload_n 3, 29, 0, 0, 0) := by decide +kernel
theorem s185_28 {L : Nat} {xs : Nat → Int32} {d x : Nat} {M : qxM} {st : List Value} {a0 a1 a2 a4 a5 : Option Value} {z : Int32} : Rs L xs (d) 185 28 [a0, a1, a2, some (.int z), a4, a5] st M x = Rs L xs (d) 185 29 [a0, a1, a2, some (.int z), a4, a5] (.int z :: st) M x := Rs_next c185_28 rfl
theorem c185_29 : qx_code 185 29 = some (29, .invokevirtual 59, 32, 186, 2, 1621) := by decide +kernel
theorem s185_29 {L : Nat} {xs : Nat → Int32} {d x : Nat} {M : qxM} {st : List Value} {ls : qxL} {t : Nat} {z0 : Int32} (hk : qx_kd t = 18) (hs : st.length ≤ 4) : Rs L xs (d + 1) 185 29 ls (.int z0 :: .ref t :: st) M x = (Rs L xs d 186 0 [some (.ref t), some (.int z0), none] [] M 0).bind (qx_kn L xs (d + 1) 185 29 32 186 ls st x) := by
  have h1 : qx_act L xs (qx_rt 185) (29, .invokevirtual 59, 32, 186, 2, 1621) ls (.int z0 :: .ref t :: st) M = if 2 ≤ (.int z0 :: .ref t :: st).length ∧ st.length ≤ 4 then some (.inr (.inr (.inr (186, [.ref t, .int z0], st)))) else none := rfl
  rw [if_pos ⟨by simp [List.length_cons]; try omega, hs⟩] at h1
  have h2 := qx_kd_obj (k := 8) (by decide) hk
  exact Rs_call c185_29 h1 (by rw [show qx_args 186 [.ref t, .int z0] = decide (qx_sh t = some (.inl 8)) from rfl]; exact decide_eq_true h2)
theorem c185_32 : qx_code 185 32 = some (32, .aload_n 0, 33, 0, 0, 0) := by decide +kernel
theorem s185_32 {L : Nat} {xs : Nat → Int32} {d x : Nat} {M : qxM} {st : List Value} {a1 a2 a3 a4 a5 : Option Value} {z : Nat} : Rs L xs (d) 185 32 [some (.ref z), a1, a2, a3, a4, a5] st M x = Rs L xs (d) 185 33 [some (.ref z), a1, a2, a3, a4, a5] (.ref z :: st) M x := Rs_next c185_32 rfl
theorem c185_33 : qx_code 185 33 = some (33, .iload 4, 35, 0, 0, 0) := by decide +kernel
theorem s185_33 {L : Nat} {xs : Nat → Int32} {d x : Nat} {M : qxM} {st : List Value} {a0 a1 a2 a3 a5 : Option Value} {z : Int32} : Rs L xs (d) 185 33 [a0, a1, a2, a3, some (.int z), a5] st M x = Rs L xs (d) 185 35 [a0, a1, a2, a3, some (.int z), a5] (.int z :: st) M x := Rs_next c185_33 rfl
theorem c185_35 : qx_code 185 35 = some (35, .invokevirtual 59, 38, 186, 2, 1621) := by decide +kernel
theorem s185_35 {L : Nat} {xs : Nat → Int32} {d x : Nat} {M : qxM} {st : List Value} {ls : qxL} {t : Nat} {z0 : Int32} (hk : qx_kd t = 18) (hs : st.length ≤ 4) : Rs L xs (d + 1) 185 35 ls (.int z0 :: .ref t :: st) M x = (Rs L xs d 186 0 [some (.ref t), some (.int z0), none] [] M 0).bind (qx_kn L xs (d + 1) 185 35 38 186 ls st x) := by
  have h1 : qx_act L xs (qx_rt 185) (35, .invokevirtual 59, 38, 186, 2, 1621) ls (.int z0 :: .ref t :: st) M = if 2 ≤ (.int z0 :: .ref t :: st).length ∧ st.length ≤ 4 then some (.inr (.inr (.inr (186, [.ref t, .int z0], st)))) else none := rfl
  rw [if_pos ⟨by simp [List.length_cons]; try omega, hs⟩] at h1
  have h2 := qx_kd_obj (k := 8) (by decide) hk
  exact Rs_call c185_35 h1 (by rw [show qx_args 186 [.ref t, .int z0] = decide (qx_sh t = some (.inl 8)) from rfl]; exact decide_eq_true h2)
theorem c185_38 : qx_code 185 38 = some (38, .aload_n 0, 39, 0, 0, 0) := by decide +kernel
theorem s185_38 {L : Nat} {xs : Nat → Int32} {d x : Nat} {M : qxM} {st : List Value} {a1 a2 a3 a4 a5 : Option Value} {z : Nat} : Rs L xs (d) 185 38 [some (.ref z), a1, a2, a3, a4, a5] st M x = Rs L xs (d) 185 39 [some (.ref z), a1, a2, a3, a4, a5] (.ref z :: st) M x := Rs_next c185_38 rfl
theorem c185_39 : qx_code 185 39 = some (39, .iload 5, 41, 0, 0, 0) := by decide +kernel
theorem s185_39 {L : Nat} {xs : Nat → Int32} {d x : Nat} {M : qxM} {st : List Value} {a0 a1 a2 a3 a4 : Option Value} {z : Int32} : Rs L xs (d) 185 39 [a0, a1, a2, a3, a4, some (.int z)] st M x = Rs L xs (d) 185 41 [a0, a1, a2, a3, a4, some (.int z)] (.int z :: st) M x := Rs_next c185_39 rfl
theorem c185_41 : qx_code 185 41 = some (41, .invokevirtual 59, 44, 186, 2, 1621) := by decide +kernel
theorem s185_41 {L : Nat} {xs : Nat → Int32} {d x : Nat} {M : qxM} {st : List Value} {ls : qxL} {t : Nat} {z0 : Int32} (hk : qx_kd t = 18) (hs : st.length ≤ 4) : Rs L xs (d + 1) 185 41 ls (.int z0 :: .ref t :: st) M x = (Rs L xs d 186 0 [some (.ref t), some (.int z0), none] [] M 0).bind (qx_kn L xs (d + 1) 185 41 44 186 ls st x) := by
  have h1 : qx_act L xs (qx_rt 185) (41, .invokevirtual 59, 44, 186, 2, 1621) ls (.int z0 :: .ref t :: st) M = if 2 ≤ (.int z0 :: .ref t :: st).length ∧ st.length ≤ 4 then some (.inr (.inr (.inr (186, [.ref t, .int z0], st)))) else none := rfl
  rw [if_pos ⟨by simp [List.length_cons]; try omega, hs⟩] at h1
  have h2 := qx_kd_obj (k := 8) (by decide) hk
  exact Rs_call c185_41 h1 (by rw [show qx_args 186 [.ref t, .int z0] = decide (qx_sh t = some (.inl 8)) from rfl]; exact decide_eq_true h2)
theorem c185_44 : qx_code 185 44 = some (44, .aload_n 0, 45, 0, 0, 0) := by decide +kernel
theorem s185_44 {L : Nat} {xs : Nat → Int32} {d x : Nat} {M : qxM} {st : List Value} {a1 a2 a3 a4 a5 : Option Value} {z : Nat} : Rs L xs (d) 185 44 [some (.ref z), a1, a2, a3, a4, a5] st M x = Rs L xs (d) 185 45 [some (.ref z), a1, a2, a3, a4, a5] (.ref z :: st) M x := Rs_next c185_44 rfl
theorem c185_45 : qx_code 185 45 = some (45, .getfield 56, 48, 8, 9, 1554) := by decide +kernel
theorem s185_45 {L : Nat} {xs : Nat → Int32} {d x : Nat} {M : qxM} {st : List Value} {ls : qxL} {t : Nat} (hk : qx_kd t = 18) : Rs L xs (d) 185 45 ls (.ref t :: st) M x = Rs L xs (d) 185 48 ls (.int (M.1 t 9) :: st) M x := Rs_when (qx_kd_obj (k := 8) (by decide) hk) c185_45 rfl
theorem c185_48 : qx_code 185 48 = some (48, .ireturn, 49, 0, 0, 0) := by decide +kernel
theorem s185_48 {L : Nat} {xs : Nat → Int32} {d x : Nat} {M : qxM} {ls : qxL} {z : Int32} : Rs L xs (d) 185 48 ls [.int z] M x = some (.inl (some (.int z)), M, x) := Rs_ret c185_48 rfl
theorem c186_0 : qx_code 186 0 = some (0, .iconst 3, 1, 0, 0, 0) := by decide +kernel
theorem s186_0 {L : Nat} {xs : Nat → Int32} {d x : Nat} {M : qxM} {st : List Value} {ls : qxL} : Rs L xs (d) 186 0 ls st M x = Rs L xs (d) 186 1 ls (.int (nI 3) :: st) M x := Rs_next c186_0 rfl
theorem c186_1 : qx_code 186 1 = some (1, .istore_n 2, 2, 0, 0, 0) := by decide +kernel
theorem s186_1i {L : Nat} {xs : Nat → Int32} {d x : Nat} {M : qxM} {st : List Value} {a0 a2 : Option Value} {z : Int32} {y : Int32} : Rs L xs (d) 186 1 [a0, some (.int y), a2] (.int z :: st) M x = Rs L xs (d) 186 2 [a0, some (.int y), some (.int z)] st M x := Rs_next c186_1 rfl
theorem s186_1r {L : Nat} {xs : Nat → Int32} {d x : Nat} {M : qxM} {st : List Value} {a0 a2 : Option Value} {z : Int32} {y : Nat} : Rs L xs (d) 186 1 [a0, some (.ref y), a2] (.int z :: st) M x = Rs L xs (d) 186 2 [a0, some (.ref y), some (.int z)] st M x := Rs_next c186_1 rfl
theorem s186_1n {L : Nat} {xs : Nat → Int32} {d x : Nat} {M : qxM} {st : List Value} {a0 a2 : Option Value} {z : Int32} : Rs L xs (d) 186 1 [a0, none, a2] (.int z :: st) M x = Rs L xs (d) 186 2 [a0, none, some (.int z)] st M x := Rs_next c186_1 rfl
theorem c186_2 : qx_code 186 2 = some (2, .iload_n 2, 3, 0, 0, 0) := by decide +kernel
theorem s186_2 {L : Nat} {xs : Nat → Int32} {d x : Nat} {M : qxM} {st : List Value} {a0 a1 : Option Value} {z : Int32} : Rs L xs (d) 186 2 [a0, a1, some (.int z)] st M x = Rs L xs (d) 186 3 [a0, a1, some (.int z)] (.int z :: st) M x := Rs_next c186_2 rfl
theorem c186_3 : qx_code 186 3 = some (3, .ifCond .lt 35, 6, 38, 0, 0) := by decide +kernel
theorem s186_3 {L : Nat} {xs : Nat → Int32} {d x : Nat} {M : qxM} {st : List Value} {ls : qxL} {z : Int32} : Rs L xs (d) 186 3 ls (.int z :: st) M x = if z < 0 then Rs L xs (d) 186 38 ls st M x else Rs L xs (d) 186 6 ls st M x := Rs_ite c186_3 rfl
theorem c186_6 : qx_code 186 6 = some (6, .aload_n 0, 7, 0, 0, 0) := by decide +kernel
theorem s186_6 {L : Nat} {xs : Nat → Int32} {d x : Nat} {M : qxM} {st : List Value} {a1 a2 : Option Value} {z : Nat} : Rs L xs (d) 186 6 [some (.ref z), a1, a2] st M x = Rs L xs (d) 186 7 [some (.ref z), a1, a2] (.ref z :: st) M x := Rs_next c186_6 rfl
theorem c186_7 : qx_code 186 7 = some (7, .getfield 26, 10, 8, 8, 1553) := by decide +kernel
theorem s186_7 {L : Nat} {xs : Nat → Int32} {d x : Nat} {M : qxM} {st : List Value} {ls : qxL} {t : Nat} (hk : qx_kd t = 18) : Rs L xs (d) 186 7 ls (.ref t :: st) M x = Rs L xs (d) 186 10 ls (.ref (t + 6) :: st) M x := Rs_when (qx_kd_obj (k := 8) (by decide) hk) c186_7 rfl
theorem c186_10 : qx_code 186 10 = some (10, .aload_n 0, 11, 0, 0, 0) := by decide +kernel
theorem s186_10 {L : Nat} {xs : Nat → Int32} {d x : Nat} {M : qxM} {st : List Value} {a1 a2 : Option Value} {z : Nat} : Rs L xs (d) 186 10 [some (.ref z), a1, a2] st M x = Rs L xs (d) 186 11 [some (.ref z), a1, a2] (.ref z :: st) M x := Rs_next c186_10 rfl
theorem c186_11 : qx_code 186 11 = some (11, .getfield 56, 14, 8, 9, 1554) := by decide +kernel
theorem s186_11 {L : Nat} {xs : Nat → Int32} {d x : Nat} {M : qxM} {st : List Value} {ls : qxL} {t : Nat} (hk : qx_kd t = 18) : Rs L xs (d) 186 11 ls (.ref t :: st) M x = Rs L xs (d) 186 14 ls (.int (M.1 t 9) :: st) M x := Rs_when (qx_kd_obj (k := 8) (by decide) hk) c186_11 rfl
theorem c186_14 : qx_code 186 14 = some (14, .iload_n 1, 15, 0, 0, 0) := by decide +kernel
theorem s186_14 {L : Nat} {xs : Nat → Int32} {d x : Nat} {M : qxM} {st : List Value} {a0 a2 : Option Value} {z : Int32} : Rs L xs (d) 186 14 [a0, some (.int z), a2] st M x = Rs L xs (d) 186 15 [a0, some (.int z), a2] (.int z :: st) M x := Rs_next c186_14 rfl
theorem c186_15 : qx_code 186 15 = some (15, .bipush 8, 17, 0, 0, 0) := by decide +kernel
theorem s186_15 {L : Nat} {xs : Nat → Int32} {d x : Nat} {M : qxM} {st : List Value} {ls : qxL} : Rs L xs (d) 186 15 ls st M x = Rs L xs (d) 186 17 ls (.int (nI 8) :: st) M x := Rs_next c186_15 rfl
theorem c186_17 : qx_code 186 17 = some (17, .iload_n 2, 18, 0, 0, 0) := by decide +kernel
theorem s186_17 {L : Nat} {xs : Nat → Int32} {d x : Nat} {M : qxM} {st : List Value} {a0 a1 : Option Value} {z : Int32} : Rs L xs (d) 186 17 [a0, a1, some (.int z)] st M x = Rs L xs (d) 186 18 [a0, a1, some (.int z)] (.int z :: st) M x := Rs_next c186_17 rfl
theorem c186_18 : qx_code 186 18 = some (18, .imul, 19, 0, 0, 0) := by decide +kernel
theorem s186_18 {L : Nat} {xs : Nat → Int32} {d x : Nat} {M : qxM} {st : List Value} {ls : qxL} {z y : Int32} : Rs L xs (d) 186 18 ls (.int y :: .int z :: st) M x = Rs L xs (d) 186 19 ls (.int (z * y) :: st) M x := Rs_next c186_18 rfl
theorem c186_19 : qx_code 186 19 = some (19, .ishr, 20, 0, 0, 0) := by decide +kernel
theorem s186_19 {L : Nat} {xs : Nat → Int32} {d x : Nat} {M : qxM} {st : List Value} {ls : qxL} {z y : Int32} : Rs L xs (d) 186 19 ls (.int y :: .int z :: st) M x = Rs L xs (d) 186 20 ls (.int (z >>> (y &&& 31)) :: st) M x := Rs_next c186_19 rfl
theorem c186_20 : qx_code 186 20 = some (20, .i2b, 21, 0, 0, 0) := by decide +kernel
theorem s186_20 {L : Nat} {xs : Nat → Int32} {d x : Nat} {M : qxM} {st : List Value} {ls : qxL} {z : Int32} : Rs L xs (d) 186 20 ls (.int z :: st) M x = Rs L xs (d) 186 21 ls (.int z.toInt8.toInt32 :: st) M x := Rs_next c186_20 rfl
theorem c186_21 : qx_code 186 21 = some (21, .bastore, 22, 0, 0, 0) := by decide +kernel
theorem s186_21 {L : Nat} {xs : Nat → Int32} {d x : Nat} {M : qxM} {st : List Value} {ls : qxL} {t : Nat} {j : Int32} {z : Int32} (hk : qx_kd t = 1) (hj : qx_ib j (qx_ln t) = true) : Rs L xs (d) 186 21 ls (.int z :: .int j :: .ref t :: st) M x = Rs L xs (d) 186 22 ls st (qx_up M t j.toNatClampNeg z.toInt8.toInt32) x := by
  have h1 := qx_kd_row (k := 1) (by decide) hk
  exact Rs_unless (qx_ib_not hj) c186_21 (by unfold qx_act; dsimp only; rw [h1]; rfl)
theorem s186_21z {L : Nat} {xs : Nat → Int32} {d x : Nat} {M : qxM} {st : List Value} {ls : qxL} {t : Nat} {j : Int32} {z : Int32} (hk : qx_kd t = 2) (hj : qx_ib j (qx_ln t) = true) (h01 : z = 0 ∨ z = 1) : Rs L xs (d) 186 21 ls (.int z :: .int j :: .ref t :: st) M x = Rs L xs (d) 186 22 ls st (qx_up M t j.toNatClampNeg z) x := by
  have h1 := qx_kd_row (k := 2) (by decide) hk
  exact Rs_unless (qx_ib_not hj) c186_21 (by unfold qx_act; dsimp only; rw [h1]; first | (rw [if_pos h01]; rfl) | (simp only [if_pos h01]; rfl) | rfl)
theorem c186_22 : qx_code 186 22 = some (22, .aload_n 0, 23, 0, 0, 0) := by decide +kernel
theorem s186_22 {L : Nat} {xs : Nat → Int32} {d x : Nat} {M : qxM} {st : List Value} {a1 a2 : Option Value} {z : Nat} : Rs L xs (d) 186 22 [some (.ref z), a1, a2] st M x = Rs L xs (d) 186 23 [some (.ref z), a1, a2] (.ref z :: st) M x := Rs_next c186_22 rfl
theorem c186_23 : qx_code 186 23 = some (23, .dup, 24, 0, 0, 0) := by decide +kernel
theorem s186_23r {L : Nat} {xs : Nat → Int32} {d x : Nat} {M : qxM} {st : List Value} {ls : qxL} {z : Nat} : Rs L xs (d) 186 23 ls (.ref z :: st) M x = Rs L xs (d) 186 24 ls (.ref z :: .ref z :: st) M x := Rs_next c186_23 rfl
theorem s186_23i {L : Nat} {xs : Nat → Int32} {d x : Nat} {M : qxM} {st : List Value} {ls : qxL} {z : Int32} : Rs L xs (d) 186 23 ls (.int z :: st) M x = Rs L xs (d) 186 24 ls (.int z :: .int z :: st) M x := Rs_next c186_23 rfl
theorem c186_24 : qx_code 186 24 = some (24, .getfield 56, 27, 8, 9, 1554) := by decide +kernel
theorem s186_24 {L : Nat} {xs : Nat → Int32} {d x : Nat} {M : qxM} {st : List Value} {ls : qxL} {t : Nat} (hk : qx_kd t = 18) : Rs L xs (d) 186 24 ls (.ref t :: st) M x = Rs L xs (d) 186 27 ls (.int (M.1 t 9) :: st) M x := Rs_when (qx_kd_obj (k := 8) (by decide) hk) c186_24 rfl
theorem c186_27 : qx_code 186 27 = some (27, .iconst 1, 28, 0, 0, 0) := by decide +kernel
theorem s186_27 {L : Nat} {xs : Nat → Int32} {d x : Nat} {M : qxM} {st : List Value} {ls : qxL} : Rs L xs (d) 186 27 ls st M x = Rs L xs (d) 186 28 ls (.int (nI 1) :: st) M x := Rs_next c186_27 rfl
theorem c186_28 : qx_code 186 28 = some (28, .iadd, 29, 0, 0, 0) := by decide +kernel
theorem s186_28 {L : Nat} {xs : Nat → Int32} {d x : Nat} {M : qxM} {st : List Value} {ls : qxL} {z y : Int32} : Rs L xs (d) 186 28 ls (.int y :: .int z :: st) M x = Rs L xs (d) 186 29 ls (.int (z + y) :: st) M x := Rs_next c186_28 rfl
theorem c186_29 : qx_code 186 29 = some (29, .putfield 56, 32, 8, 9, 1554) := by decide +kernel
theorem s186_29 {L : Nat} {xs : Nat → Int32} {d x : Nat} {M : qxM} {st : List Value} {ls : qxL} {t : Nat} {z : Int32} (hk : qx_kd t = 18) : Rs L xs (d) 186 29 ls (.int z :: .ref t :: st) M x = Rs L xs (d) 186 32 ls st (qx_up M t 9 z) x := Rs_when (cnd := qx_sh t = some (.inl 8) ∧ qx_fo 8 9 = none ∧ (qx_bf 8 9 = true → z = 0 ∨ z = 1)) ⟨qx_kd_obj (k := 8) (by decide) hk, rfl, fun h => nomatch h⟩ c186_29 rfl
theorem c186_32 : qx_code 186 32 = some (32, .iinc 2 (-1), 35, 0, 0, 0) := by decide +kernel
theorem s186_32i {L : Nat} {xs : Nat → Int32} {d x : Nat} {M : qxM} {st : List Value} {a0 : Option Value} {z : Int32} {y : Int32} : Rs L xs (d) 186 32 [a0, some (.int y), some (.int z)] st M x = Rs L xs (d) 186 35 [a0, some (.int y), some (.int (z + (-1)))] st M x := Rs_next c186_32 rfl
theorem s186_32r {L : Nat} {xs : Nat → Int32} {d x : Nat} {M : qxM} {st : List Value} {a0 : Option Value} {z : Int32} {y : Nat} : Rs L xs (d) 186 32 [a0, some (.ref y), some (.int z)] st M x = Rs L xs (d) 186 35 [a0, some (.ref y), some (.int (z + (-1)))] st M x := Rs_next c186_32 rfl
theorem s186_32n {L : Nat} {xs : Nat → Int32} {d x : Nat} {M : qxM} {st : List Value} {a0 : Option Value} {z : Int32} : Rs L xs (d) 186 32 [a0, none, some (.int z)] st M x = Rs L xs (d) 186 35 [a0, none, some (.int (z + (-1)))] st M x := Rs_next c186_32 rfl
theorem c186_35 : qx_code 186 35 = some (35, .goto (-33), 38, 2, 0, 0) := by decide +kernel
theorem s186_35 {L : Nat} {xs : Nat → Int32} {d x : Nat} {M : qxM} {st : List Value} {ls : qxL} : Rs L xs (d) 186 35 ls st M x = Rs L xs (d) 186 2 ls st M x := Rs_next c186_35 rfl
theorem c186_38 : qx_code 186 38 = some (38, .return_, 39, 0, 0, 0) := by decide +kernel
theorem s186_38 {L : Nat} {xs : Nat → Int32} {d x : Nat} {M : qxM} {ls : qxL} : Rs L xs (d) 186 38 ls [] M x = some (.inl none, M, x) := Rs_ret c186_38 rfl
theorem c187_0 : qx_code 187 0 = some (0, .aload_n 0, 1, 0, 0, 0) := by decide +kernel
theorem s187_0 {L : Nat} {xs : Nat → Int32} {d x : Nat} {M : qxM} {st : List Value} {z : Nat} : Rs L xs (d) 187 0 [some (.ref z)] st M x = Rs L xs (d) 187 1 [some (.ref z)] (.ref z :: st) M x := Rs_next c187_0 rfl
theorem c187_1 : qx_code 187 1 = some (1, .iconst 0, 2, 0, 0, 0) := by decide +kernel
theorem s187_1 {L : Nat} {xs : Nat → Int32} {d x : Nat} {M : qxM} {st : List Value} {ls : qxL} : Rs L xs (d) 187 1 ls st M x = Rs L xs (d) 187 2 ls (.int (nI 0) :: st) M x := Rs_next c187_1 rfl
theorem c187_2 : qx_code 187 2 = some (2, .putfield 46, 5, 8, 0, 1545) := by decide +kernel
theorem s187_2 {L : Nat} {xs : Nat → Int32} {d x : Nat} {M : qxM} {st : List Value} {ls : qxL} {t : Nat} {z : Int32} (hk : qx_kd t = 18) : Rs L xs (d) 187 2 ls (.int z :: .ref t :: st) M x = Rs L xs (d) 187 5 ls st (qx_up M t 0 z) x := Rs_when (cnd := qx_sh t = some (.inl 8) ∧ qx_fo 8 0 = none ∧ (qx_bf 8 0 = true → z = 0 ∨ z = 1)) ⟨qx_kd_obj (k := 8) (by decide) hk, rfl, fun h => nomatch h⟩ c187_2 rfl
theorem c187_5 : qx_code 187 5 = some (5, .aload_n 0, 6, 0, 0, 0) := by decide +kernel
theorem s187_5 {L : Nat} {xs : Nat → Int32} {d x : Nat} {M : qxM} {st : List Value} {z : Nat} : Rs L xs (d) 187 5 [some (.ref z)] st M x = Rs L xs (d) 187 6 [some (.ref z)] (.ref z :: st) M x := Rs_next c187_5 rfl
theorem c187_6 : qx_code 187 6 = some (6, .getfield 63, 9, 8, 10, 1555) := by decide +kernel
theorem s187_6 {L : Nat} {xs : Nat → Int32} {d x : Nat} {M : qxM} {st : List Value} {ls : qxL} {t : Nat} (hk : qx_kd t = 18) : Rs L xs (d) 187 6 ls (.ref t :: st) M x = Rs L xs (d) 187 9 ls (.int (M.1 t 10) :: st) M x := Rs_when (qx_kd_obj (k := 8) (by decide) hk) c187_6 rfl
theorem c187_9 : qx_code 187 9 = some (9, .ireturn, 10, 0, 0, 0) := by decide +kernel
theorem s187_9 {L : Nat} {xs : Nat → Int32} {d x : Nat} {M : qxM} {ls : qxL} {z : Int32} : Rs L xs (d) 187 9 ls [.int z] M x = some (.inl (some (.int z)), M, x) := Rs_ret c187_9 rfl
theorem c188_0 : qx_code 188 0 = some (0, .aload_n 0, 1, 0, 0, 0) := by decide +kernel
theorem s188_0 {L : Nat} {xs : Nat → Int32} {d x : Nat} {M : qxM} {st : List Value} {z : Nat} : Rs L xs (d) 188 0 [some (.ref z)] st M x = Rs L xs (d) 188 1 [some (.ref z)] (.ref z :: st) M x := Rs_next c188_0 rfl
theorem c188_1 : qx_code 188 1 = some (1, .iconst 0, 2, 0, 0, 0) := by decide +kernel
theorem s188_1 {L : Nat} {xs : Nat → Int32} {d x : Nat} {M : qxM} {st : List Value} {ls : qxL} : Rs L xs (d) 188 1 ls st M x = Rs L xs (d) 188 2 ls (.int (nI 0) :: st) M x := Rs_next c188_1 rfl
theorem c188_2 : qx_code 188 2 = some (2, .putfield 46, 5, 8, 0, 1545) := by decide +kernel
theorem s188_2 {L : Nat} {xs : Nat → Int32} {d x : Nat} {M : qxM} {st : List Value} {ls : qxL} {t : Nat} {z : Int32} (hk : qx_kd t = 18) : Rs L xs (d) 188 2 ls (.int z :: .ref t :: st) M x = Rs L xs (d) 188 5 ls st (qx_up M t 0 z) x := Rs_when (cnd := qx_sh t = some (.inl 8) ∧ qx_fo 8 0 = none ∧ (qx_bf 8 0 = true → z = 0 ∨ z = 1)) ⟨qx_kd_obj (k := 8) (by decide) hk, rfl, fun h => nomatch h⟩ c188_2 rfl
theorem c188_5 : qx_code 188 5 = some (5, .aload_n 0, 6, 0, 0, 0) := by decide +kernel
theorem s188_5 {L : Nat} {xs : Nat → Int32} {d x : Nat} {M : qxM} {st : List Value} {z : Nat} : Rs L xs (d) 188 5 [some (.ref z)] st M x = Rs L xs (d) 188 6 [some (.ref z)] (.ref z :: st) M x := Rs_next c188_5 rfl
theorem c188_6 : qx_code 188 6 = some (6, .getfield 30, 9, 8, 11, 1556) := by decide +kernel
theorem s188_6 {L : Nat} {xs : Nat → Int32} {d x : Nat} {M : qxM} {st : List Value} {ls : qxL} {t : Nat} (hk : qx_kd t = 18) : Rs L xs (d) 188 6 ls (.ref t :: st) M x = Rs L xs (d) 188 9 ls (.int (M.1 t 11) :: st) M x := Rs_when (qx_kd_obj (k := 8) (by decide) hk) c188_6 rfl
theorem c188_9 : qx_code 188 9 = some (9, .ireturn, 10, 0, 0, 0) := by decide +kernel
theorem s188_9 {L : Nat} {xs : Nat → Int32} {d x : Nat} {M : qxM} {ls : qxL} {z : Int32} : Rs L xs (d) 188 9 ls [.int z] M x = some (.inl (some (.int z)), M, x) := Rs_ret c188_9 rfl
theorem c189_0 : qx_code 189 0 = some (0, .aload_n 0, 1, 0, 0, 0) := by decide +kernel
theorem s189_0 {L : Nat} {xs : Nat → Int32} {d x : Nat} {M : qxM} {st : List Value} {z : Nat} : Rs L xs (d) 189 0 [some (.ref z)] st M x = Rs L xs (d) 189 1 [some (.ref z)] (.ref z :: st) M x := Rs_next c189_0 rfl
theorem c189_1 : qx_code 189 1 = some (1, .iconst 0, 2, 0, 0, 0) := by decide +kernel
theorem s189_1 {L : Nat} {xs : Nat → Int32} {d x : Nat} {M : qxM} {st : List Value} {ls : qxL} : Rs L xs (d) 189 1 ls st M x = Rs L xs (d) 189 2 ls (.int (nI 0) :: st) M x := Rs_next c189_1 rfl
theorem c189_2 : qx_code 189 2 = some (2, .putfield 46, 5, 8, 0, 1545) := by decide +kernel
theorem s189_2 {L : Nat} {xs : Nat → Int32} {d x : Nat} {M : qxM} {st : List Value} {ls : qxL} {t : Nat} {z : Int32} (hk : qx_kd t = 18) : Rs L xs (d) 189 2 ls (.int z :: .ref t :: st) M x = Rs L xs (d) 189 5 ls st (qx_up M t 0 z) x := Rs_when (cnd := qx_sh t = some (.inl 8) ∧ qx_fo 8 0 = none ∧ (qx_bf 8 0 = true → z = 0 ∨ z = 1)) ⟨qx_kd_obj (k := 8) (by decide) hk, rfl, fun h => nomatch h⟩ c189_2 rfl
theorem c189_5 : qx_code 189 5 = some (5, .aload_n 0, 6, 0, 0, 0) := by decide +kernel
theorem s189_5 {L : Nat} {xs : Nat → Int32} {d x : Nat} {M : qxM} {st : List Value} {z : Nat} : Rs L xs (d) 189 5 [some (.ref z)] st M x = Rs L xs (d) 189 6 [some (.ref z)] (.ref z :: st) M x := Rs_next c189_5 rfl
theorem c189_6 : qx_code 189 6 = some (6, .getfield 56, 9, 8, 9, 1554) := by decide +kernel
theorem s189_6 {L : Nat} {xs : Nat → Int32} {d x : Nat} {M : qxM} {st : List Value} {ls : qxL} {t : Nat} (hk : qx_kd t = 18) : Rs L xs (d) 189 6 ls (.ref t :: st) M x = Rs L xs (d) 189 9 ls (.int (M.1 t 9) :: st) M x := Rs_when (qx_kd_obj (k := 8) (by decide) hk) c189_6 rfl
theorem c189_9 : qx_code 189 9 = some (9, .ireturn, 10, 0, 0, 0) := by decide +kernel
theorem s189_9 {L : Nat} {xs : Nat → Int32} {d x : Nat} {M : qxM} {ls : qxL} {z : Int32} : Rs L xs (d) 189 9 ls [.int z] M x = some (.inl (some (.int z)), M, x) := Rs_ret c189_9 rfl
theorem c190_0 : qx_code 190 0 = some (0, .iload_n 1, 1, 0, 0, 0) := by decide +kernel
theorem s190_0 {L : Nat} {xs : Nat → Int32} {d x : Nat} {M : qxM} {st : List Value} {a0 : Option Value} {z : Int32} : Rs L xs (d) 190 0 [a0, some (.int z)] st M x = Rs L xs (d) 190 1 [a0, some (.int z)] (.int z :: st) M x := Rs_next c190_0 rfl
theorem c190_1 : qx_code 190 1 = some (1, .aload_n 0, 2, 0, 0, 0) := by decide +kernel
theorem s190_1 {L : Nat} {xs : Nat → Int32} {d x : Nat} {M : qxM} {st : List Value} {a1 : Option Value} {z : Nat} : Rs L xs (d) 190 1 [some (.ref z), a1] st M x = Rs L xs (d) 190 2 [some (.ref z), a1] (.ref z :: st) M x := Rs_next c190_1 rfl
theorem c190_2 : qx_code 190 2 = some (2, .getfield 66, 5, 8, 12, 1557) := by decide +kernel
theorem s190_2 {L : Nat} {xs : Nat → Int32} {d x : Nat} {M : qxM} {st : List Value} {ls : qxL} {t : Nat} (hk : qx_kd t = 18) : Rs L xs (d) 190 2 ls (.ref t :: st) M x = Rs L xs (d) 190 5 ls (.int (M.1 t 12) :: st) M x := Rs_when (qx_kd_obj (k := 8) (by decide) hk) c190_2 rfl
theorem c190_5 : qx_code 190 5 = some (5, .if_icmp .ge 23, 8, 28, 0, 0) := by decide +kernel
theorem s190_5 {L : Nat} {xs : Nat → Int32} {d x : Nat} {M : qxM} {st : List Value} {ls : qxL} {z y : Int32} : Rs L xs (d) 190 5 ls (.int y :: .int z :: st) M x = if y ≤ z then Rs L xs (d) 190 28 ls st M x else Rs L xs (d) 190 8 ls st M x := Rs_ite c190_5 rfl
theorem c190_8 : qx_code 190 8 = some (8, .aload_n 0, 9, 0, 0, 0) := by decide +kernel
theorem s190_8 {L : Nat} {xs : Nat → Int32} {d x : Nat} {M : qxM} {st : List Value} {a1 : Option Value} {z : Nat} : Rs L xs (d) 190 8 [some (.ref z), a1] st M x = Rs L xs (d) 190 9 [some (.ref z), a1] (.ref z :: st) M x := Rs_next c190_8 rfl
theorem c190_9 : qx_code 190 9 = some (9, .getfield 26, 12, 8, 8, 1553) := by decide +kernel
theorem s190_9 {L : Nat} {xs : Nat → Int32} {d x : Nat} {M : qxM} {st : List Value} {ls : qxL} {t : Nat} (hk : qx_kd t = 18) : Rs L xs (d) 190 9 ls (.ref t :: st) M x = Rs L xs (d) 190 12 ls (.ref (t + 6) :: st) M x := Rs_when (qx_kd_obj (k := 8) (by decide) hk) c190_9 rfl
theorem c190_12 : qx_code 190 12 = some (12, .iload_n 1, 13, 0, 0, 0) := by decide +kernel
theorem s190_12 {L : Nat} {xs : Nat → Int32} {d x : Nat} {M : qxM} {st : List Value} {a0 : Option Value} {z : Int32} : Rs L xs (d) 190 12 [a0, some (.int z)] st M x = Rs L xs (d) 190 13 [a0, some (.int z)] (.int z :: st) M x := Rs_next c190_12 rfl
theorem c190_13 : qx_code 190 13 = some (13, .baload, 14, 0, 0, 0) := by decide +kernel
theorem s190_13 {L : Nat} {xs : Nat → Int32} {d x : Nat} {M : qxM} {st : List Value} {ls : qxL} {t : Nat} {j : Int32} (hk : qx_kd t = 1) (hj : qx_ib j (qx_ln t) = true) : Rs L xs (d) 190 13 ls (.int j :: .ref t :: st) M x = Rs L xs (d) 190 14 ls (.int (M.1 t j.toNatClampNeg) :: st) M x := by
  have h1 := qx_kd_row (k := 1) (by decide) hk
  exact Rs_unless (qx_ib_not hj) c190_13 (by unfold qx_act; dsimp only; rw [h1]; rfl)
theorem s190_13z {L : Nat} {xs : Nat → Int32} {d x : Nat} {M : qxM} {st : List Value} {ls : qxL} {t : Nat} {j : Int32} (hk : qx_kd t = 2) (hj : qx_ib j (qx_ln t) = true) : Rs L xs (d) 190 13 ls (.int j :: .ref t :: st) M x = Rs L xs (d) 190 14 ls (.int (M.1 t j.toNatClampNeg) :: st) M x := by
  have h1 := qx_kd_row (k := 2) (by decide) hk
  exact Rs_unless (qx_ib_not hj) c190_13 (by unfold qx_act; dsimp only; rw [h1]; rfl)
theorem c190_14 : qx_code 190 14 = some (14, .bipush 97, 16, 0, 0, 0) := by decide +kernel
theorem s190_14 {L : Nat} {xs : Nat → Int32} {d x : Nat} {M : qxM} {st : List Value} {ls : qxL} : Rs L xs (d) 190 14 ls st M x = Rs L xs (d) 190 16 ls (.int (nI 97) :: st) M x := Rs_next c190_14 rfl
theorem c190_16 : qx_code 190 16 = some (16, .bipush 122, 18, 0, 0, 0) := by decide +kernel
theorem s190_16 {L : Nat} {xs : Nat → Int32} {d x : Nat} {M : qxM} {st : List Value} {ls : qxL} : Rs L xs (d) 190 16 ls st M x = Rs L xs (d) 190 18 ls (.int (nI 122) :: st) M x := Rs_next c190_16 rfl
theorem c190_18 : qx_code 190 18 = some (18, .invokestatic 69, 21, 178, 3, 1641) := by decide +kernel
theorem s190_18 {L : Nat} {xs : Nat → Int32} {d x : Nat} {M : qxM} {st : List Value} {ls : qxL} {z0 : Int32} {z1 : Int32} {z2 : Int32} (hs : st.length ≤ 4) : Rs L xs (d + 1) 190 18 ls (.int z2 :: .int z1 :: .int z0 :: st) M x = (Rs L xs d 178 0 [some (.int z0), some (.int z1), some (.int z2)] [] M 0).bind (qx_kn L xs (d + 1) 190 18 21 178 ls st x) := by
  have h1 : qx_act L xs (qx_rt 190) (18, .invokestatic 69, 21, 178, 3, 1641) ls (.int z2 :: .int z1 :: .int z0 :: st) M = if 3 ≤ (.int z2 :: .int z1 :: .int z0 :: st).length ∧ st.length ≤ 4 then some (.inr (.inr (.inr (178, [.int z0, .int z1, .int z2], st)))) else none := rfl
  rw [if_pos ⟨by simp [List.length_cons]; try omega, hs⟩] at h1
  exact Rs_call c190_18 h1 rfl
theorem c190_21 : qx_code 190 21 = some (21, .ifCond .eq 7, 24, 28, 0, 0) := by decide +kernel
theorem s190_21 {L : Nat} {xs : Nat → Int32} {d x : Nat} {M : qxM} {st : List Value} {ls : qxL} {z : Int32} : Rs L xs (d) 190 21 ls (.int z :: st) M x = if z = 0 then Rs L xs (d) 190 28 ls st M x else Rs L xs (d) 190 24 ls st M x := Rs_ite c190_21 rfl
theorem c190_24 : qx_code 190 24 = some (24, .iconst 1, 25, 0, 0, 0) := by decide +kernel
theorem s190_24 {L : Nat} {xs : Nat → Int32} {d x : Nat} {M : qxM} {st : List Value} {ls : qxL} : Rs L xs (d) 190 24 ls st M x = Rs L xs (d) 190 25 ls (.int (nI 1) :: st) M x := Rs_next c190_24 rfl
theorem c190_25 : qx_code 190 25 = some (25, .goto 4, 28, 29, 0, 0) := by decide +kernel
theorem s190_25 {L : Nat} {xs : Nat → Int32} {d x : Nat} {M : qxM} {st : List Value} {ls : qxL} : Rs L xs (d) 190 25 ls st M x = Rs L xs (d) 190 29 ls st M x := Rs_next c190_25 rfl
theorem c190_28 : qx_code 190 28 = some (28, .iconst 0, 29, 0, 0, 0) := by decide +kernel
theorem s190_28 {L : Nat} {xs : Nat → Int32} {d x : Nat} {M : qxM} {st : List Value} {ls : qxL} : Rs L xs (d) 190 28 ls st M x = Rs L xs (d) 190 29 ls (.int (nI 0) :: st) M x := Rs_next c190_28 rfl
theorem c190_29 : qx_code 190 29 = some (29, .ireturn, 30, 0, 0, 0) := by decide +kernel
theorem s190_29 {L : Nat} {xs : Nat → Int32} {d x : Nat} {M : qxM} {ls : qxL} {z : Int32} (h01 : z = 0 ∨ z = 1) : Rs L xs (d) 190 29 ls [.int z] M x = some (.inl (some (.int z)), M, x) := Rs_retw h01 c190_29 rfl
theorem c191_0 : qx_code 191 0 = some (0, .iload_n 1, 1, 0, 0, 0) := by decide +kernel
theorem s191_0 {L : Nat} {xs : Nat → Int32} {d x : Nat} {M : qxM} {st : List Value} {a0 : Option Value} {z : Int32} : Rs L xs (d) 191 0 [a0, some (.int z)] st M x = Rs L xs (d) 191 1 [a0, some (.int z)] (.int z :: st) M x := Rs_next c191_0 rfl
theorem c191_1 : qx_code 191 1 = some (1, .aload_n 0, 2, 0, 0, 0) := by decide +kernel
theorem s191_1 {L : Nat} {xs : Nat → Int32} {d x : Nat} {M : qxM} {st : List Value} {a1 : Option Value} {z : Nat} : Rs L xs (d) 191 1 [some (.ref z), a1] st M x = Rs L xs (d) 191 2 [some (.ref z), a1] (.ref z :: st) M x := Rs_next c191_1 rfl
theorem c191_2 : qx_code 191 2 = some (2, .getfield 66, 5, 8, 12, 1557) := by decide +kernel
theorem s191_2 {L : Nat} {xs : Nat → Int32} {d x : Nat} {M : qxM} {st : List Value} {ls : qxL} {t : Nat} (hk : qx_kd t = 18) : Rs L xs (d) 191 2 ls (.ref t :: st) M x = Rs L xs (d) 191 5 ls (.int (M.1 t 12) :: st) M x := Rs_when (qx_kd_obj (k := 8) (by decide) hk) c191_2 rfl
theorem c191_5 : qx_code 191 5 = some (5, .if_icmp .ge 23, 8, 28, 0, 0) := by decide +kernel
theorem s191_5 {L : Nat} {xs : Nat → Int32} {d x : Nat} {M : qxM} {st : List Value} {ls : qxL} {z y : Int32} : Rs L xs (d) 191 5 ls (.int y :: .int z :: st) M x = if y ≤ z then Rs L xs (d) 191 28 ls st M x else Rs L xs (d) 191 8 ls st M x := Rs_ite c191_5 rfl
theorem c191_8 : qx_code 191 8 = some (8, .aload_n 0, 9, 0, 0, 0) := by decide +kernel
theorem s191_8 {L : Nat} {xs : Nat → Int32} {d x : Nat} {M : qxM} {st : List Value} {a1 : Option Value} {z : Nat} : Rs L xs (d) 191 8 [some (.ref z), a1] st M x = Rs L xs (d) 191 9 [some (.ref z), a1] (.ref z :: st) M x := Rs_next c191_8 rfl
theorem c191_9 : qx_code 191 9 = some (9, .getfield 26, 12, 8, 8, 1553) := by decide +kernel
theorem s191_9 {L : Nat} {xs : Nat → Int32} {d x : Nat} {M : qxM} {st : List Value} {ls : qxL} {t : Nat} (hk : qx_kd t = 18) : Rs L xs (d) 191 9 ls (.ref t :: st) M x = Rs L xs (d) 191 12 ls (.ref (t + 6) :: st) M x := Rs_when (qx_kd_obj (k := 8) (by decide) hk) c191_9 rfl
theorem c191_12 : qx_code 191 12 = some (12, .iload_n 1, 13, 0, 0, 0) := by decide +kernel
theorem s191_12 {L : Nat} {xs : Nat → Int32} {d x : Nat} {M : qxM} {st : List Value} {a0 : Option Value} {z : Int32} : Rs L xs (d) 191 12 [a0, some (.int z)] st M x = Rs L xs (d) 191 13 [a0, some (.int z)] (.int z :: st) M x := Rs_next c191_12 rfl
theorem c191_13 : qx_code 191 13 = some (13, .baload, 14, 0, 0, 0) := by decide +kernel
theorem s191_13 {L : Nat} {xs : Nat → Int32} {d x : Nat} {M : qxM} {st : List Value} {ls : qxL} {t : Nat} {j : Int32} (hk : qx_kd t = 1) (hj : qx_ib j (qx_ln t) = true) : Rs L xs (d) 191 13 ls (.int j :: .ref t :: st) M x = Rs L xs (d) 191 14 ls (.int (M.1 t j.toNatClampNeg) :: st) M x := by
  have h1 := qx_kd_row (k := 1) (by decide) hk
  exact Rs_unless (qx_ib_not hj) c191_13 (by unfold qx_act; dsimp only; rw [h1]; rfl)
theorem s191_13z {L : Nat} {xs : Nat → Int32} {d x : Nat} {M : qxM} {st : List Value} {ls : qxL} {t : Nat} {j : Int32} (hk : qx_kd t = 2) (hj : qx_ib j (qx_ln t) = true) : Rs L xs (d) 191 13 ls (.int j :: .ref t :: st) M x = Rs L xs (d) 191 14 ls (.int (M.1 t j.toNatClampNeg) :: st) M x := by
  have h1 := qx_kd_row (k := 2) (by decide) hk
  exact Rs_unless (qx_ib_not hj) c191_13 (by unfold qx_act; dsimp only; rw [h1]; rfl)
theorem c191_14 : qx_code 191 14 = some (14, .bipush 48, 16, 0, 0, 0) := by decide +kernel
theorem s191_14 {L : Nat} {xs : Nat → Int32} {d x : Nat} {M : qxM} {st : List Value} {ls : qxL} : Rs L xs (d) 191 14 ls st M x = Rs L xs (d) 191 16 ls (.int (nI 48) :: st) M x := Rs_next c191_14 rfl
theorem c191_16 : qx_code 191 16 = some (16, .bipush 57, 18, 0, 0, 0) := by decide +kernel
theorem s191_16 {L : Nat} {xs : Nat → Int32} {d x : Nat} {M : qxM} {st : List Value} {ls : qxL} : Rs L xs (d) 191 16 ls st M x = Rs L xs (d) 191 18 ls (.int (nI 57) :: st) M x := Rs_next c191_16 rfl
theorem c191_18 : qx_code 191 18 = some (18, .invokestatic 69, 21, 178, 3, 1641) := by decide +kernel
theorem s191_18 {L : Nat} {xs : Nat → Int32} {d x : Nat} {M : qxM} {st : List Value} {ls : qxL} {z0 : Int32} {z1 : Int32} {z2 : Int32} (hs : st.length ≤ 4) : Rs L xs (d + 1) 191 18 ls (.int z2 :: .int z1 :: .int z0 :: st) M x = (Rs L xs d 178 0 [some (.int z0), some (.int z1), some (.int z2)] [] M 0).bind (qx_kn L xs (d + 1) 191 18 21 178 ls st x) := by
  have h1 : qx_act L xs (qx_rt 191) (18, .invokestatic 69, 21, 178, 3, 1641) ls (.int z2 :: .int z1 :: .int z0 :: st) M = if 3 ≤ (.int z2 :: .int z1 :: .int z0 :: st).length ∧ st.length ≤ 4 then some (.inr (.inr (.inr (178, [.int z0, .int z1, .int z2], st)))) else none := rfl
  rw [if_pos ⟨by simp [List.length_cons]; try omega, hs⟩] at h1
  exact Rs_call c191_18 h1 rfl
theorem c191_21 : qx_code 191 21 = some (21, .ifCond .eq 7, 24, 28, 0, 0) := by decide +kernel
theorem s191_21 {L : Nat} {xs : Nat → Int32} {d x : Nat} {M : qxM} {st : List Value} {ls : qxL} {z : Int32} : Rs L xs (d) 191 21 ls (.int z :: st) M x = if z = 0 then Rs L xs (d) 191 28 ls st M x else Rs L xs (d) 191 24 ls st M x := Rs_ite c191_21 rfl
theorem c191_24 : qx_code 191 24 = some (24, .iconst 1, 25, 0, 0, 0) := by decide +kernel
theorem s191_24 {L : Nat} {xs : Nat → Int32} {d x : Nat} {M : qxM} {st : List Value} {ls : qxL} : Rs L xs (d) 191 24 ls st M x = Rs L xs (d) 191 25 ls (.int (nI 1) :: st) M x := Rs_next c191_24 rfl
theorem c191_25 : qx_code 191 25 = some (25, .goto 4, 28, 29, 0, 0) := by decide +kernel
theorem s191_25 {L : Nat} {xs : Nat → Int32} {d x : Nat} {M : qxM} {st : List Value} {ls : qxL} : Rs L xs (d) 191 25 ls st M x = Rs L xs (d) 191 29 ls st M x := Rs_next c191_25 rfl
theorem c191_28 : qx_code 191 28 = some (28, .iconst 0, 29, 0, 0, 0) := by decide +kernel
theorem s191_28 {L : Nat} {xs : Nat → Int32} {d x : Nat} {M : qxM} {st : List Value} {ls : qxL} : Rs L xs (d) 191 28 ls st M x = Rs L xs (d) 191 29 ls (.int (nI 0) :: st) M x := Rs_next c191_28 rfl
theorem c191_29 : qx_code 191 29 = some (29, .ireturn, 30, 0, 0, 0) := by decide +kernel
theorem s191_29 {L : Nat} {xs : Nat → Int32} {d x : Nat} {M : qxM} {ls : qxL} {z : Int32} (h01 : z = 0 ∨ z = 1) : Rs L xs (d) 191 29 ls [.int z] M x = some (.inl (some (.int z)), M, x) := Rs_retw h01 c191_29 rfl
theorem c192_0 : qx_code 192 0 = some (0, .aload_n 0, 1, 0, 0, 0) := by decide +kernel
theorem s192_0 {L : Nat} {xs : Nat → Int32} {d x : Nat} {M : qxM} {st : List Value} {z : Nat} : Rs L xs (d) 192 0 [some (.ref z)] st M x = Rs L xs (d) 192 1 [some (.ref z)] (.ref z :: st) M x := Rs_next c192_0 rfl
theorem c192_1 : qx_code 192 1 = some (1, .getfield 63, 4, 8, 10, 1555) := by decide +kernel
theorem s192_1 {L : Nat} {xs : Nat → Int32} {d x : Nat} {M : qxM} {st : List Value} {ls : qxL} {t : Nat} (hk : qx_kd t = 18) : Rs L xs (d) 192 1 ls (.ref t :: st) M x = Rs L xs (d) 192 4 ls (.int (M.1 t 10) :: st) M x := Rs_when (qx_kd_obj (k := 8) (by decide) hk) c192_1 rfl
theorem c192_4 : qx_code 192 4 = some (4, .ifCond .le 4, 7, 8, 0, 0) := by decide +kernel
theorem s192_4 {L : Nat} {xs : Nat → Int32} {d x : Nat} {M : qxM} {st : List Value} {ls : qxL} {z : Int32} : Rs L xs (d) 192 4 ls (.int z :: st) M x = if z ≤ 0 then Rs L xs (d) 192 8 ls st M x else Rs L xs (d) 192 7 ls st M x := Rs_ite c192_4 rfl
theorem c192_7 : qx_code 192 7 = some (7, .return_, 8, 0, 0, 0) := by decide +kernel
theorem s192_7 {L : Nat} {xs : Nat → Int32} {d x : Nat} {M : qxM} {ls : qxL} : Rs L xs (d) 192 7 ls [] M x = some (.inl none, M, x) := Rs_ret c192_7 rfl
theorem c192_8 : qx_code 192 8 = some (8, .aload_n 0, 9, 0, 0, 0) := by decide +kernel
theorem s192_8 {L : Nat} {xs : Nat → Int32} {d x : Nat} {M : qxM} {st : List Value} {z : Nat} : Rs L xs (d) 192 8 [some (.ref z)] st M x = Rs L xs (d) 192 9 [some (.ref z)] (.ref z :: st) M x := Rs_next c192_8 rfl
theorem c192_9 : qx_code 192 9 = some (9, .getfield 73, 12, 8, 13, 1558) := by decide +kernel
theorem s192_9 {L : Nat} {xs : Nat → Int32} {d x : Nat} {M : qxM} {st : List Value} {ls : qxL} {t : Nat} (hk : qx_kd t = 18) : Rs L xs (d) 192 9 ls (.ref t :: st) M x = Rs L xs (d) 192 12 ls (.int (M.1 t 13) :: st) M x := Rs_when (qx_kd_obj (k := 8) (by decide) hk) c192_9 rfl
theorem c192_12 : qx_code 192 12 = some (12, .aload_n 0, 13, 0, 0, 0) := by decide +kernel
theorem s192_12 {L : Nat} {xs : Nat → Int32} {d x : Nat} {M : qxM} {st : List Value} {z : Nat} : Rs L xs (d) 192 12 [some (.ref z)] st M x = Rs L xs (d) 192 13 [some (.ref z)] (.ref z :: st) M x := Rs_next c192_12 rfl
theorem c192_13 : qx_code 192 13 = some (13, .getfield 66, 16, 8, 12, 1557) := by decide +kernel
theorem s192_13 {L : Nat} {xs : Nat → Int32} {d x : Nat} {M : qxM} {st : List Value} {ls : qxL} {t : Nat} (hk : qx_kd t = 18) : Rs L xs (d) 192 13 ls (.ref t :: st) M x = Rs L xs (d) 192 16 ls (.int (M.1 t 12) :: st) M x := Rs_when (qx_kd_obj (k := 8) (by decide) hk) c192_13 rfl
theorem c192_16 : qx_code 192 16 = some (16, .if_icmp .ge 30, 19, 46, 0, 0) := by decide +kernel
theorem s192_16 {L : Nat} {xs : Nat → Int32} {d x : Nat} {M : qxM} {st : List Value} {ls : qxL} {z y : Int32} : Rs L xs (d) 192 16 ls (.int y :: .int z :: st) M x = if y ≤ z then Rs L xs (d) 192 46 ls st M x else Rs L xs (d) 192 19 ls st M x := Rs_ite c192_16 rfl
theorem c192_19 : qx_code 192 19 = some (19, .aload_n 0, 20, 0, 0, 0) := by decide +kernel
theorem s192_19 {L : Nat} {xs : Nat → Int32} {d x : Nat} {M : qxM} {st : List Value} {z : Nat} : Rs L xs (d) 192 19 [some (.ref z)] st M x = Rs L xs (d) 192 20 [some (.ref z)] (.ref z :: st) M x := Rs_next c192_19 rfl
theorem c192_20 : qx_code 192 20 = some (20, .getfield 26, 23, 8, 8, 1553) := by decide +kernel
theorem s192_20 {L : Nat} {xs : Nat → Int32} {d x : Nat} {M : qxM} {st : List Value} {ls : qxL} {t : Nat} (hk : qx_kd t = 18) : Rs L xs (d) 192 20 ls (.ref t :: st) M x = Rs L xs (d) 192 23 ls (.ref (t + 6) :: st) M x := Rs_when (qx_kd_obj (k := 8) (by decide) hk) c192_20 rfl
theorem c192_23 : qx_code 192 23 = some (23, .aload_n 0, 24, 0, 0, 0) := by decide +kernel
theorem s192_23 {L : Nat} {xs : Nat → Int32} {d x : Nat} {M : qxM} {st : List Value} {z : Nat} : Rs L xs (d) 192 23 [some (.ref z)] st M x = Rs L xs (d) 192 24 [some (.ref z)] (.ref z :: st) M x := Rs_next c192_23 rfl
theorem c192_24 : qx_code 192 24 = some (24, .getfield 73, 27, 8, 13, 1558) := by decide +kernel
theorem s192_24 {L : Nat} {xs : Nat → Int32} {d x : Nat} {M : qxM} {st : List Value} {ls : qxL} {t : Nat} (hk : qx_kd t = 18) : Rs L xs (d) 192 24 ls (.ref t :: st) M x = Rs L xs (d) 192 27 ls (.int (M.1 t 13) :: st) M x := Rs_when (qx_kd_obj (k := 8) (by decide) hk) c192_24 rfl
theorem c192_27 : qx_code 192 27 = some (27, .baload, 28, 0, 0, 0) := by decide +kernel
theorem s192_27 {L : Nat} {xs : Nat → Int32} {d x : Nat} {M : qxM} {st : List Value} {ls : qxL} {t : Nat} {j : Int32} (hk : qx_kd t = 1) (hj : qx_ib j (qx_ln t) = true) : Rs L xs (d) 192 27 ls (.int j :: .ref t :: st) M x = Rs L xs (d) 192 28 ls (.int (M.1 t j.toNatClampNeg) :: st) M x := by
  have h1 := qx_kd_row (k := 1) (by decide) hk
  exact Rs_unless (qx_ib_not hj) c192_27 (by unfold qx_act; dsimp only; rw [h1]; rfl)
theorem s192_27z {L : Nat} {xs : Nat → Int32} {d x : Nat} {M : qxM} {st : List Value} {ls : qxL} {t : Nat} {j : Int32} (hk : qx_kd t = 2) (hj : qx_ib j (qx_ln t) = true) : Rs L xs (d) 192 27 ls (.int j :: .ref t :: st) M x = Rs L xs (d) 192 28 ls (.int (M.1 t j.toNatClampNeg) :: st) M x := by
  have h1 := qx_kd_row (k := 2) (by decide) hk
  exact Rs_unless (qx_ib_not hj) c192_27 (by unfold qx_act; dsimp only; rw [h1]; rfl)
theorem c192_28 : qx_code 192 28 = some (28, .bipush 32, 30, 0, 0, 0) := by decide +kernel
theorem s192_28 {L : Nat} {xs : Nat → Int32} {d x : Nat} {M : qxM} {st : List Value} {ls : qxL} : Rs L xs (d) 192 28 ls st M x = Rs L xs (d) 192 30 ls (.int (nI 32) :: st) M x := Rs_next c192_28 rfl
theorem c192_30 : qx_code 192 30 = some (30, .if_icmp .ne 16, 33, 46, 0, 0) := by decide +kernel
theorem s192_30 {L : Nat} {xs : Nat → Int32} {d x : Nat} {M : qxM} {st : List Value} {ls : qxL} {z y : Int32} : Rs L xs (d) 192 30 ls (.int y :: .int z :: st) M x = if z = y then Rs L xs (d) 192 33 ls st M x else Rs L xs (d) 192 46 ls st M x := Rs_ite c192_30 rfl
theorem c192_33 : qx_code 192 33 = some (33, .aload_n 0, 34, 0, 0, 0) := by decide +kernel
theorem s192_33 {L : Nat} {xs : Nat → Int32} {d x : Nat} {M : qxM} {st : List Value} {z : Nat} : Rs L xs (d) 192 33 [some (.ref z)] st M x = Rs L xs (d) 192 34 [some (.ref z)] (.ref z :: st) M x := Rs_next c192_33 rfl
theorem c192_34 : qx_code 192 34 = some (34, .dup, 35, 0, 0, 0) := by decide +kernel
theorem s192_34r {L : Nat} {xs : Nat → Int32} {d x : Nat} {M : qxM} {st : List Value} {ls : qxL} {z : Nat} : Rs L xs (d) 192 34 ls (.ref z :: st) M x = Rs L xs (d) 192 35 ls (.ref z :: .ref z :: st) M x := Rs_next c192_34 rfl
theorem s192_34i {L : Nat} {xs : Nat → Int32} {d x : Nat} {M : qxM} {st : List Value} {ls : qxL} {z : Int32} : Rs L xs (d) 192 34 ls (.int z :: st) M x = Rs L xs (d) 192 35 ls (.int z :: .int z :: st) M x := Rs_next c192_34 rfl
theorem c192_35 : qx_code 192 35 = some (35, .getfield 73, 38, 8, 13, 1558) := by decide +kernel
theorem s192_35 {L : Nat} {xs : Nat → Int32} {d x : Nat} {M : qxM} {st : List Value} {ls : qxL} {t : Nat} (hk : qx_kd t = 18) : Rs L xs (d) 192 35 ls (.ref t :: st) M x = Rs L xs (d) 192 38 ls (.int (M.1 t 13) :: st) M x := Rs_when (qx_kd_obj (k := 8) (by decide) hk) c192_35 rfl
theorem c192_38 : qx_code 192 38 = some (38, .iconst 1, 39, 0, 0, 0) := by decide +kernel
theorem s192_38 {L : Nat} {xs : Nat → Int32} {d x : Nat} {M : qxM} {st : List Value} {ls : qxL} : Rs L xs (d) 192 38 ls st M x = Rs L xs (d) 192 39 ls (.int (nI 1) :: st) M x := Rs_next c192_38 rfl
theorem c192_39 : qx_code 192 39 = some (39, .iadd, 40, 0, 0, 0) := by decide +kernel
theorem s192_39 {L : Nat} {xs : Nat → Int32} {d x : Nat} {M : qxM} {st : List Value} {ls : qxL} {z y : Int32} : Rs L xs (d) 192 39 ls (.int y :: .int z :: st) M x = Rs L xs (d) 192 40 ls (.int (z + y) :: st) M x := Rs_next c192_39 rfl
theorem c192_40 : qx_code 192 40 = some (40, .putfield 73, 43, 8, 13, 1558) := by decide +kernel
theorem s192_40 {L : Nat} {xs : Nat → Int32} {d x : Nat} {M : qxM} {st : List Value} {ls : qxL} {t : Nat} {z : Int32} (hk : qx_kd t = 18) : Rs L xs (d) 192 40 ls (.int z :: .ref t :: st) M x = Rs L xs (d) 192 43 ls st (qx_up M t 13 z) x := Rs_when (cnd := qx_sh t = some (.inl 8) ∧ qx_fo 8 13 = none ∧ (qx_bf 8 13 = true → z = 0 ∨ z = 1)) ⟨qx_kd_obj (k := 8) (by decide) hk, rfl, fun h => nomatch h⟩ c192_40 rfl
theorem c192_43 : qx_code 192 43 = some (43, .goto (-35), 46, 8, 0, 0) := by decide +kernel
theorem s192_43 {L : Nat} {xs : Nat → Int32} {d x : Nat} {M : qxM} {st : List Value} {ls : qxL} : Rs L xs (d) 192 43 ls st M x = Rs L xs (d) 192 8 ls st M x := Rs_next c192_43 rfl
theorem c192_46 : qx_code 192 46 = some (46, .aload_n 0, 47, 0, 0, 0) := by decide +kernel
theorem s192_46 {L : Nat} {xs : Nat → Int32} {d x : Nat} {M : qxM} {st : List Value} {z : Nat} : Rs L xs (d) 192 46 [some (.ref z)] st M x = Rs L xs (d) 192 47 [some (.ref z)] (.ref z :: st) M x := Rs_next c192_46 rfl
theorem c192_47 : qx_code 192 47 = some (47, .aload_n 0, 48, 0, 0, 0) := by decide +kernel
theorem s192_47 {L : Nat} {xs : Nat → Int32} {d x : Nat} {M : qxM} {st : List Value} {z : Nat} : Rs L xs (d) 192 47 [some (.ref z)] st M x = Rs L xs (d) 192 48 [some (.ref z)] (.ref z :: st) M x := Rs_next c192_47 rfl
theorem c192_48 : qx_code 192 48 = some (48, .getfield 73, 51, 8, 13, 1558) := by decide +kernel
theorem s192_48 {L : Nat} {xs : Nat → Int32} {d x : Nat} {M : qxM} {st : List Value} {ls : qxL} {t : Nat} (hk : qx_kd t = 18) : Rs L xs (d) 192 48 ls (.ref t :: st) M x = Rs L xs (d) 192 51 ls (.int (M.1 t 13) :: st) M x := Rs_when (qx_kd_obj (k := 8) (by decide) hk) c192_48 rfl
theorem c192_51 : qx_code 192 51 = some (51, .putfield 76, 54, 8, 14, 1559) := by decide +kernel
theorem s192_51 {L : Nat} {xs : Nat → Int32} {d x : Nat} {M : qxM} {st : List Value} {ls : qxL} {t : Nat} {z : Int32} (hk : qx_kd t = 18) : Rs L xs (d) 192 51 ls (.int z :: .ref t :: st) M x = Rs L xs (d) 192 54 ls st (qx_up M t 14 z) x := Rs_when (cnd := qx_sh t = some (.inl 8) ∧ qx_fo 8 14 = none ∧ (qx_bf 8 14 = true → z = 0 ∨ z = 1)) ⟨qx_kd_obj (k := 8) (by decide) hk, rfl, fun h => nomatch h⟩ c192_51 rfl
theorem c192_54 : qx_code 192 54 = some (54, .aload_n 0, 55, 0, 0, 0) := by decide +kernel
theorem s192_54 {L : Nat} {xs : Nat → Int32} {d x : Nat} {M : qxM} {st : List Value} {z : Nat} : Rs L xs (d) 192 54 [some (.ref z)] st M x = Rs L xs (d) 192 55 [some (.ref z)] (.ref z :: st) M x := Rs_next c192_54 rfl
theorem c192_55 : qx_code 192 55 = some (55, .aload_n 0, 56, 0, 0, 0) := by decide +kernel
theorem s192_55 {L : Nat} {xs : Nat → Int32} {d x : Nat} {M : qxM} {st : List Value} {z : Nat} : Rs L xs (d) 192 55 [some (.ref z)] st M x = Rs L xs (d) 192 56 [some (.ref z)] (.ref z :: st) M x := Rs_next c192_55 rfl
theorem c192_56 : qx_code 192 56 = some (56, .getfield 73, 59, 8, 13, 1558) := by decide +kernel
theorem s192_56 {L : Nat} {xs : Nat → Int32} {d x : Nat} {M : qxM} {st : List Value} {ls : qxL} {t : Nat} (hk : qx_kd t = 18) : Rs L xs (d) 192 56 ls (.ref t :: st) M x = Rs L xs (d) 192 59 ls (.int (M.1 t 13) :: st) M x := Rs_when (qx_kd_obj (k := 8) (by decide) hk) c192_56 rfl
theorem c192_59 : qx_code 192 59 = some (59, .aload_n 0, 60, 0, 0, 0) := by decide +kernel
theorem s192_59 {L : Nat} {xs : Nat → Int32} {d x : Nat} {M : qxM} {st : List Value} {z : Nat} : Rs L xs (d) 192 59 [some (.ref z)] st M x = Rs L xs (d) 192 60 [some (.ref z)] (.ref z :: st) M x := Rs_next c192_59 rfl
theorem c192_60 : qx_code 192 60 = some (60, .getfield 66, 63, 8, 12, 1557) := by decide +kernel
theorem s192_60 {L : Nat} {xs : Nat → Int32} {d x : Nat} {M : qxM} {st : List Value} {ls : qxL} {t : Nat} (hk : qx_kd t = 18) : Rs L xs (d) 192 60 ls (.ref t :: st) M x = Rs L xs (d) 192 63 ls (.int (M.1 t 12) :: st) M x := Rs_when (qx_kd_obj (k := 8) (by decide) hk) c192_60 rfl
theorem c192_63 : qx_code 192 63 = some (63, .if_icmp .ne 7, 66, 70, 0, 0) := by decide +kernel
theorem s192_63 {L : Nat} {xs : Nat → Int32} {d x : Nat} {M : qxM} {st : List Value} {ls : qxL} {z y : Int32} : Rs L xs (d) 192 63 ls (.int y :: .int z :: st) M x = if z = y then Rs L xs (d) 192 66 ls st M x else Rs L xs (d) 192 70 ls st M x := Rs_ite c192_63 rfl
theorem c192_66 : qx_code 192 66 = some (66, .iconst 1, 67, 0, 0, 0) := by decide +kernel
theorem s192_66 {L : Nat} {xs : Nat → Int32} {d x : Nat} {M : qxM} {st : List Value} {ls : qxL} : Rs L xs (d) 192 66 ls st M x = Rs L xs (d) 192 67 ls (.int (nI 1) :: st) M x := Rs_next c192_66 rfl
theorem c192_67 : qx_code 192 67 = some (67, .goto 4, 70, 71, 0, 0) := by decide +kernel
theorem s192_67 {L : Nat} {xs : Nat → Int32} {d x : Nat} {M : qxM} {st : List Value} {ls : qxL} : Rs L xs (d) 192 67 ls st M x = Rs L xs (d) 192 71 ls st M x := Rs_next c192_67 rfl
theorem c192_70 : qx_code 192 70 = some (70, .iconst 0, 71, 0, 0, 0) := by decide +kernel
theorem s192_70 {L : Nat} {xs : Nat → Int32} {d x : Nat} {M : qxM} {st : List Value} {ls : qxL} : Rs L xs (d) 192 70 ls st M x = Rs L xs (d) 192 71 ls (.int (nI 0) :: st) M x := Rs_next c192_70 rfl
theorem c192_71 : qx_code 192 71 = some (71, .putfield 79, 74, 8, 15, 1560) := by decide +kernel
theorem s192_71 {L : Nat} {xs : Nat → Int32} {d x : Nat} {M : qxM} {st : List Value} {ls : qxL} {t : Nat} {z : Int32} (hk : qx_kd t = 18) : Rs L xs (d) 192 71 ls (.int z :: .ref t :: st) M x = Rs L xs (d) 192 74 ls st (qx_up M t 15 z) x := Rs_when (cnd := qx_sh t = some (.inl 8) ∧ qx_fo 8 15 = none ∧ (qx_bf 8 15 = true → z = 0 ∨ z = 1)) ⟨qx_kd_obj (k := 8) (by decide) hk, rfl, fun h => nomatch h⟩ c192_71 rfl
theorem c192_74 : qx_code 192 74 = some (74, .aload_n 0, 75, 0, 0, 0) := by decide +kernel
theorem s192_74 {L : Nat} {xs : Nat → Int32} {d x : Nat} {M : qxM} {st : List Value} {z : Nat} : Rs L xs (d) 192 74 [some (.ref z)] st M x = Rs L xs (d) 192 75 [some (.ref z)] (.ref z :: st) M x := Rs_next c192_74 rfl
theorem c192_75 : qx_code 192 75 = some (75, .getfield 79, 78, 8, 15, 1560) := by decide +kernel
theorem s192_75 {L : Nat} {xs : Nat → Int32} {d x : Nat} {M : qxM} {st : List Value} {ls : qxL} {t : Nat} (hk : qx_kd t = 18) : Rs L xs (d) 192 75 ls (.ref t :: st) M x = Rs L xs (d) 192 78 ls (.int (M.1 t 15) :: st) M x := Rs_when (qx_kd_obj (k := 8) (by decide) hk) c192_75 rfl
theorem c192_78 : qx_code 192 78 = some (78, .iconst 1, 79, 0, 0, 0) := by decide +kernel
theorem s192_78 {L : Nat} {xs : Nat → Int32} {d x : Nat} {M : qxM} {st : List Value} {ls : qxL} : Rs L xs (d) 192 78 ls st M x = Rs L xs (d) 192 79 ls (.int (nI 1) :: st) M x := Rs_next c192_78 rfl
theorem c192_79 : qx_code 192 79 = some (79, .if_icmp .ne 4, 82, 83, 0, 0) := by decide +kernel
theorem s192_79 {L : Nat} {xs : Nat → Int32} {d x : Nat} {M : qxM} {st : List Value} {ls : qxL} {z y : Int32} : Rs L xs (d) 192 79 ls (.int y :: .int z :: st) M x = if z = y then Rs L xs (d) 192 82 ls st M x else Rs L xs (d) 192 83 ls st M x := Rs_ite c192_79 rfl
theorem c192_82 : qx_code 192 82 = some (82, .return_, 83, 0, 0, 0) := by decide +kernel
theorem s192_82 {L : Nat} {xs : Nat → Int32} {d x : Nat} {M : qxM} {ls : qxL} : Rs L xs (d) 192 82 ls [] M x = some (.inl none, M, x) := Rs_ret c192_82 rfl
theorem c192_83 : qx_code 192 83 = some (83, .aload_n 0, 84, 0, 0, 0) := by decide +kernel
theorem s192_83 {L : Nat} {xs : Nat → Int32} {d x : Nat} {M : qxM} {st : List Value} {z : Nat} : Rs L xs (d) 192 83 [some (.ref z)] st M x = Rs L xs (d) 192 84 [some (.ref z)] (.ref z :: st) M x := Rs_next c192_83 rfl
theorem c192_84 : qx_code 192 84 = some (84, .aload_n 0, 85, 0, 0, 0) := by decide +kernel
theorem s192_84 {L : Nat} {xs : Nat → Int32} {d x : Nat} {M : qxM} {st : List Value} {z : Nat} : Rs L xs (d) 192 84 [some (.ref z)] st M x = Rs L xs (d) 192 85 [some (.ref z)] (.ref z :: st) M x := Rs_next c192_84 rfl
theorem c192_85 : qx_code 192 85 = some (85, .getfield 73, 88, 8, 13, 1558) := by decide +kernel
theorem s192_85 {L : Nat} {xs : Nat → Int32} {d x : Nat} {M : qxM} {st : List Value} {ls : qxL} {t : Nat} (hk : qx_kd t = 18) : Rs L xs (d) 192 85 ls (.ref t :: st) M x = Rs L xs (d) 192 88 ls (.int (M.1 t 13) :: st) M x := Rs_when (qx_kd_obj (k := 8) (by decide) hk) c192_85 rfl
theorem c192_88 : qx_code 192 88 = some (88, .invokevirtual 82, 91, 190, 2, 1663) := by decide +kernel
theorem s192_88 {L : Nat} {xs : Nat → Int32} {d x : Nat} {M : qxM} {st : List Value} {ls : qxL} {t : Nat} {z0 : Int32} (hk : qx_kd t = 18) (hs : st.length ≤ 4) : Rs L xs (d + 1) 192 88 ls (.int z0 :: .ref t :: st) M x = (Rs L xs d 190 0 [some (.ref t), some (.int z0)] [] M 0).bind (qx_kn L xs (d + 1) 192 88 91 190 ls st x) := by
  have h1 : qx_act L xs (qx_rt 192) (88, .invokevirtual 82, 91, 190, 2, 1663) ls (.int z0 :: .ref t :: st) M = if 2 ≤ (.int z0 :: .ref t :: st).length ∧ st.length ≤ 4 then some (.inr (.inr (.inr (190, [.ref t, .int z0], st)))) else none := rfl
  rw [if_pos ⟨by simp [List.length_cons]; try omega, hs⟩] at h1
  have h2 := qx_kd_obj (k := 8) (by decide) hk
  exact Rs_call c192_88 h1 (by rw [show qx_args 190 [.ref t, .int z0] = decide (qx_sh t = some (.inl 8)) from rfl]; exact decide_eq_true h2)
theorem c192_91 : qx_code 192 91 = some (91, .ifCond .eq 51, 94, 142, 0, 0) := by decide +kernel
theorem s192_91 {L : Nat} {xs : Nat → Int32} {d x : Nat} {M : qxM} {st : List Value} {ls : qxL} {z : Int32} : Rs L xs (d) 192 91 ls (.int z :: st) M x = if z = 0 then Rs L xs (d) 192 142 ls st M x else Rs L xs (d) 192 94 ls st M x := Rs_ite c192_91 rfl
theorem c192_94 : qx_code 192 94 = some (94, .aload_n 0, 95, 0, 0, 0) := by decide +kernel
theorem s192_94 {L : Nat} {xs : Nat → Int32} {d x : Nat} {M : qxM} {st : List Value} {z : Nat} : Rs L xs (d) 192 94 [some (.ref z)] st M x = Rs L xs (d) 192 95 [some (.ref z)] (.ref z :: st) M x := Rs_next c192_94 rfl
theorem c192_95 : qx_code 192 95 = some (95, .aload_n 0, 96, 0, 0, 0) := by decide +kernel
theorem s192_95 {L : Nat} {xs : Nat → Int32} {d x : Nat} {M : qxM} {st : List Value} {z : Nat} : Rs L xs (d) 192 95 [some (.ref z)] st M x = Rs L xs (d) 192 96 [some (.ref z)] (.ref z :: st) M x := Rs_next c192_95 rfl
theorem c192_96 : qx_code 192 96 = some (96, .getfield 73, 99, 8, 13, 1558) := by decide +kernel
theorem s192_96 {L : Nat} {xs : Nat → Int32} {d x : Nat} {M : qxM} {st : List Value} {ls : qxL} {t : Nat} (hk : qx_kd t = 18) : Rs L xs (d) 192 96 ls (.ref t :: st) M x = Rs L xs (d) 192 99 ls (.int (M.1 t 13) :: st) M x := Rs_when (qx_kd_obj (k := 8) (by decide) hk) c192_96 rfl
theorem c192_99 : qx_code 192 99 = some (99, .invokevirtual 82, 102, 190, 2, 1663) := by decide +kernel
theorem s192_99 {L : Nat} {xs : Nat → Int32} {d x : Nat} {M : qxM} {st : List Value} {ls : qxL} {t : Nat} {z0 : Int32} (hk : qx_kd t = 18) (hs : st.length ≤ 4) : Rs L xs (d + 1) 192 99 ls (.int z0 :: .ref t :: st) M x = (Rs L xs d 190 0 [some (.ref t), some (.int z0)] [] M 0).bind (qx_kn L xs (d + 1) 192 99 102 190 ls st x) := by
  have h1 : qx_act L xs (qx_rt 192) (99, .invokevirtual 82, 102, 190, 2, 1663) ls (.int z0 :: .ref t :: st) M = if 2 ≤ (.int z0 :: .ref t :: st).length ∧ st.length ≤ 4 then some (.inr (.inr (.inr (190, [.ref t, .int z0], st)))) else none := rfl
  rw [if_pos ⟨by simp [List.length_cons]; try omega, hs⟩] at h1
  have h2 := qx_kd_obj (k := 8) (by decide) hk
  exact Rs_call c192_99 h1 (by rw [show qx_args 190 [.ref t, .int z0] = decide (qx_sh t = some (.inl 8)) from rfl]; exact decide_eq_true h2)
theorem c192_102 : qx_code 192 102 = some (102, .ifCond .eq 16, 105, 118, 0, 0) := by decide +kernel
theorem s192_102 {L : Nat} {xs : Nat → Int32} {d x : Nat} {M : qxM} {st : List Value} {ls : qxL} {z : Int32} : Rs L xs (d) 192 102 ls (.int z :: st) M x = if z = 0 then Rs L xs (d) 192 118 ls st M x else Rs L xs (d) 192 105 ls st M x := Rs_ite c192_102 rfl
theorem c192_105 : qx_code 192 105 = some (105, .aload_n 0, 106, 0, 0, 0) := by decide +kernel
theorem s192_105 {L : Nat} {xs : Nat → Int32} {d x : Nat} {M : qxM} {st : List Value} {z : Nat} : Rs L xs (d) 192 105 [some (.ref z)] st M x = Rs L xs (d) 192 106 [some (.ref z)] (.ref z :: st) M x := Rs_next c192_105 rfl
theorem c192_106 : qx_code 192 106 = some (106, .dup, 107, 0, 0, 0) := by decide +kernel
theorem s192_106r {L : Nat} {xs : Nat → Int32} {d x : Nat} {M : qxM} {st : List Value} {ls : qxL} {z : Nat} : Rs L xs (d) 192 106 ls (.ref z :: st) M x = Rs L xs (d) 192 107 ls (.ref z :: .ref z :: st) M x := Rs_next c192_106 rfl
theorem s192_106i {L : Nat} {xs : Nat → Int32} {d x : Nat} {M : qxM} {st : List Value} {ls : qxL} {z : Int32} : Rs L xs (d) 192 106 ls (.int z :: st) M x = Rs L xs (d) 192 107 ls (.int z :: .int z :: st) M x := Rs_next c192_106 rfl
theorem c192_107 : qx_code 192 107 = some (107, .getfield 73, 110, 8, 13, 1558) := by decide +kernel
theorem s192_107 {L : Nat} {xs : Nat → Int32} {d x : Nat} {M : qxM} {st : List Value} {ls : qxL} {t : Nat} (hk : qx_kd t = 18) : Rs L xs (d) 192 107 ls (.ref t :: st) M x = Rs L xs (d) 192 110 ls (.int (M.1 t 13) :: st) M x := Rs_when (qx_kd_obj (k := 8) (by decide) hk) c192_107 rfl
theorem c192_110 : qx_code 192 110 = some (110, .iconst 1, 111, 0, 0, 0) := by decide +kernel
theorem s192_110 {L : Nat} {xs : Nat → Int32} {d x : Nat} {M : qxM} {st : List Value} {ls : qxL} : Rs L xs (d) 192 110 ls st M x = Rs L xs (d) 192 111 ls (.int (nI 1) :: st) M x := Rs_next c192_110 rfl
theorem c192_111 : qx_code 192 111 = some (111, .iadd, 112, 0, 0, 0) := by decide +kernel
theorem s192_111 {L : Nat} {xs : Nat → Int32} {d x : Nat} {M : qxM} {st : List Value} {ls : qxL} {z y : Int32} : Rs L xs (d) 192 111 ls (.int y :: .int z :: st) M x = Rs L xs (d) 192 112 ls (.int (z + y) :: st) M x := Rs_next c192_111 rfl
theorem c192_112 : qx_code 192 112 = some (112, .putfield 73, 115, 8, 13, 1558) := by decide +kernel
theorem s192_112 {L : Nat} {xs : Nat → Int32} {d x : Nat} {M : qxM} {st : List Value} {ls : qxL} {t : Nat} {z : Int32} (hk : qx_kd t = 18) : Rs L xs (d) 192 112 ls (.int z :: .ref t :: st) M x = Rs L xs (d) 192 115 ls st (qx_up M t 13 z) x := Rs_when (cnd := qx_sh t = some (.inl 8) ∧ qx_fo 8 13 = none ∧ (qx_bf 8 13 = true → z = 0 ∨ z = 1)) ⟨qx_kd_obj (k := 8) (by decide) hk, rfl, fun h => nomatch h⟩ c192_112 rfl
theorem c192_115 : qx_code 192 115 = some (115, .goto (-21), 118, 94, 0, 0) := by decide +kernel
theorem s192_115 {L : Nat} {xs : Nat → Int32} {d x : Nat} {M : qxM} {st : List Value} {ls : qxL} : Rs L xs (d) 192 115 ls st M x = Rs L xs (d) 192 94 ls st M x := Rs_next c192_115 rfl
theorem c192_118 : qx_code 192 118 = some (118, .aload_n 0, 119, 0, 0, 0) := by decide +kernel
theorem s192_118 {L : Nat} {xs : Nat → Int32} {d x : Nat} {M : qxM} {st : List Value} {z : Nat} : Rs L xs (d) 192 118 [some (.ref z)] st M x = Rs L xs (d) 192 119 [some (.ref z)] (.ref z :: st) M x := Rs_next c192_118 rfl
theorem c192_119 : qx_code 192 119 = some (119, .aload_n 0, 120, 0, 0, 0) := by decide +kernel
theorem s192_119 {L : Nat} {xs : Nat → Int32} {d x : Nat} {M : qxM} {st : List Value} {z : Nat} : Rs L xs (d) 192 119 [some (.ref z)] st M x = Rs L xs (d) 192 120 [some (.ref z)] (.ref z :: st) M x := Rs_next c192_119 rfl
theorem c192_120 : qx_code 192 120 = some (120, .getfield 73, 123, 8, 13, 1558) := by decide +kernel
theorem s192_120 {L : Nat} {xs : Nat → Int32} {d x : Nat} {M : qxM} {st : List Value} {ls : qxL} {t : Nat} (hk : qx_kd t = 18) : Rs L xs (d) 192 120 ls (.ref t :: st) M x = Rs L xs (d) 192 123 ls (.int (M.1 t 13) :: st) M x := Rs_when (qx_kd_obj (k := 8) (by decide) hk) c192_120 rfl
theorem c192_123 : qx_code 192 123 = some (123, .aload_n 0, 124, 0, 0, 0) := by decide +kernel
theorem s192_123 {L : Nat} {xs : Nat → Int32} {d x : Nat} {M : qxM} {st : List Value} {z : Nat} : Rs L xs (d) 192 123 [some (.ref z)] st M x = Rs L xs (d) 192 124 [some (.ref z)] (.ref z :: st) M x := Rs_next c192_123 rfl
theorem c192_124 : qx_code 192 124 = some (124, .getfield 76, 127, 8, 14, 1559) := by decide +kernel
theorem s192_124 {L : Nat} {xs : Nat → Int32} {d x : Nat} {M : qxM} {st : List Value} {ls : qxL} {t : Nat} (hk : qx_kd t = 18) : Rs L xs (d) 192 124 ls (.ref t :: st) M x = Rs L xs (d) 192 127 ls (.int (M.1 t 14) :: st) M x := Rs_when (qx_kd_obj (k := 8) (by decide) hk) c192_124 rfl
theorem c192_127 : qx_code 192 127 = some (127, .isub, 128, 0, 0, 0) := by decide +kernel
theorem s192_127 {L : Nat} {xs : Nat → Int32} {d x : Nat} {M : qxM} {st : List Value} {ls : qxL} {z y : Int32} : Rs L xs (d) 192 127 ls (.int y :: .int z :: st) M x = Rs L xs (d) 192 128 ls (.int (z - y) :: st) M x := Rs_next c192_127 rfl
theorem c192_128 : qx_code 192 128 = some (128, .bipush 6, 130, 0, 0, 0) := by decide +kernel
theorem s192_128 {L : Nat} {xs : Nat → Int32} {d x : Nat} {M : qxM} {st : List Value} {ls : qxL} : Rs L xs (d) 192 128 ls st M x = Rs L xs (d) 192 130 ls (.int (nI 6) :: st) M x := Rs_next c192_128 rfl
theorem c192_130 : qx_code 192 130 = some (130, .if_icmp .gt 7, 133, 137, 0, 0) := by decide +kernel
theorem s192_130 {L : Nat} {xs : Nat → Int32} {d x : Nat} {M : qxM} {st : List Value} {ls : qxL} {z y : Int32} : Rs L xs (d) 192 130 ls (.int y :: .int z :: st) M x = if y < z then Rs L xs (d) 192 137 ls st M x else Rs L xs (d) 192 133 ls st M x := Rs_ite c192_130 rfl
theorem c192_133 : qx_code 192 133 = some (133, .iconst 2, 134, 0, 0, 0) := by decide +kernel
theorem s192_133 {L : Nat} {xs : Nat → Int32} {d x : Nat} {M : qxM} {st : List Value} {ls : qxL} : Rs L xs (d) 192 133 ls st M x = Rs L xs (d) 192 134 ls (.int (nI 2) :: st) M x := Rs_next c192_133 rfl
theorem c192_134 : qx_code 192 134 = some (134, .goto 4, 137, 138, 0, 0) := by decide +kernel
theorem s192_134 {L : Nat} {xs : Nat → Int32} {d x : Nat} {M : qxM} {st : List Value} {ls : qxL} : Rs L xs (d) 192 134 ls st M x = Rs L xs (d) 192 138 ls st M x := Rs_next c192_134 rfl
theorem c192_137 : qx_code 192 137 = some (137, .iconst 0, 138, 0, 0, 0) := by decide +kernel
theorem s192_137 {L : Nat} {xs : Nat → Int32} {d x : Nat} {M : qxM} {st : List Value} {ls : qxL} : Rs L xs (d) 192 137 ls st M x = Rs L xs (d) 192 138 ls (.int (nI 0) :: st) M x := Rs_next c192_137 rfl
theorem c192_138 : qx_code 192 138 = some (138, .putfield 79, 141, 8, 15, 1560) := by decide +kernel
theorem s192_138 {L : Nat} {xs : Nat → Int32} {d x : Nat} {M : qxM} {st : List Value} {ls : qxL} {t : Nat} {z : Int32} (hk : qx_kd t = 18) : Rs L xs (d) 192 138 ls (.int z :: .ref t :: st) M x = Rs L xs (d) 192 141 ls st (qx_up M t 15 z) x := Rs_when (cnd := qx_sh t = some (.inl 8) ∧ qx_fo 8 15 = none ∧ (qx_bf 8 15 = true → z = 0 ∨ z = 1)) ⟨qx_kd_obj (k := 8) (by decide) hk, rfl, fun h => nomatch h⟩ c192_138 rfl
theorem c192_141 : qx_code 192 141 = some (141, .return_, 142, 0, 0, 0) := by decide +kernel
theorem s192_141 {L : Nat} {xs : Nat → Int32} {d x : Nat} {M : qxM} {ls : qxL} : Rs L xs (d) 192 141 ls [] M x = some (.inl none, M, x) := Rs_ret c192_141 rfl
theorem c192_142 : qx_code 192 142 = some (142, .aload_n 0, 143, 0, 0, 0) := by decide +kernel
theorem s192_142 {L : Nat} {xs : Nat → Int32} {d x : Nat} {M : qxM} {st : List Value} {z : Nat} : Rs L xs (d) 192 142 [some (.ref z)] st M x = Rs L xs (d) 192 143 [some (.ref z)] (.ref z :: st) M x := Rs_next c192_142 rfl
theorem c192_143 : qx_code 192 143 = some (143, .aload_n 0, 144, 0, 0, 0) := by decide +kernel
theorem s192_143 {L : Nat} {xs : Nat → Int32} {d x : Nat} {M : qxM} {st : List Value} {z : Nat} : Rs L xs (d) 192 143 [some (.ref z)] st M x = Rs L xs (d) 192 144 [some (.ref z)] (.ref z :: st) M x := Rs_next c192_143 rfl
theorem c192_144 : qx_code 192 144 = some (144, .getfield 73, 147, 8, 13, 1558) := by decide +kernel
theorem s192_144 {L : Nat} {xs : Nat → Int32} {d x : Nat} {M : qxM} {st : List Value} {ls : qxL} {t : Nat} (hk : qx_kd t = 18) : Rs L xs (d) 192 144 ls (.ref t :: st) M x = Rs L xs (d) 192 147 ls (.int (M.1 t 13) :: st) M x := Rs_when (qx_kd_obj (k := 8) (by decide) hk) c192_144 rfl
theorem c192_147 : qx_code 192 147 = some (147, .invokevirtual 86, 150, 191, 2, 1667) := by decide +kernel
theorem s192_147 {L : Nat} {xs : Nat → Int32} {d x : Nat} {M : qxM} {st : List Value} {ls : qxL} {t : Nat} {z0 : Int32} (hk : qx_kd t = 18) (hs : st.length ≤ 4) : Rs L xs (d + 1) 192 147 ls (.int z0 :: .ref t :: st) M x = (Rs L xs d 191 0 [some (.ref t), some (.int z0)] [] M 0).bind (qx_kn L xs (d + 1) 192 147 150 191 ls st x) := by
  have h1 : qx_act L xs (qx_rt 192) (147, .invokevirtual 86, 150, 191, 2, 1667) ls (.int z0 :: .ref t :: st) M = if 2 ≤ (.int z0 :: .ref t :: st).length ∧ st.length ≤ 4 then some (.inr (.inr (.inr (191, [.ref t, .int z0], st)))) else none := rfl
  rw [if_pos ⟨by simp [List.length_cons]; try omega, hs⟩] at h1
  have h2 := qx_kd_obj (k := 8) (by decide) hk
  exact Rs_call c192_147 h1 (by rw [show qx_args 191 [.ref t, .int z0] = decide (qx_sh t = some (.inl 8)) from rfl]; exact decide_eq_true h2)
theorem c192_150 : qx_code 192 150 = some (150, .ifCond .eq 92, 153, 242, 0, 0) := by decide +kernel
theorem s192_150 {L : Nat} {xs : Nat → Int32} {d x : Nat} {M : qxM} {st : List Value} {ls : qxL} {z : Int32} : Rs L xs (d) 192 150 ls (.int z :: st) M x = if z = 0 then Rs L xs (d) 192 242 ls st M x else Rs L xs (d) 192 153 ls st M x := Rs_ite c192_150 rfl
theorem c192_153 : qx_code 192 153 = some (153, .aload_n 0, 154, 0, 0, 0) := by decide +kernel
theorem s192_153 {L : Nat} {xs : Nat → Int32} {d x : Nat} {M : qxM} {st : List Value} {z : Nat} : Rs L xs (d) 192 153 [some (.ref z)] st M x = Rs L xs (d) 192 154 [some (.ref z)] (.ref z :: st) M x := Rs_next c192_153 rfl
theorem c192_154 : qx_code 192 154 = some (154, .iconst 0, 155, 0, 0, 0) := by decide +kernel
theorem s192_154 {L : Nat} {xs : Nat → Int32} {d x : Nat} {M : qxM} {st : List Value} {ls : qxL} : Rs L xs (d) 192 154 ls st M x = Rs L xs (d) 192 155 ls (.int (nI 0) :: st) M x := Rs_next c192_154 rfl
theorem c192_155 : qx_code 192 155 = some (155, .putfield 89, 158, 8, 16, 1561) := by decide +kernel
theorem s192_155 {L : Nat} {xs : Nat → Int32} {d x : Nat} {M : qxM} {st : List Value} {ls : qxL} {t : Nat} {z : Int32} (hk : qx_kd t = 18) : Rs L xs (d) 192 155 ls (.int z :: .ref t :: st) M x = Rs L xs (d) 192 158 ls st (qx_up M t 16 z) x := Rs_when (cnd := qx_sh t = some (.inl 8) ∧ qx_fo 8 16 = none ∧ (qx_bf 8 16 = true → z = 0 ∨ z = 1)) ⟨qx_kd_obj (k := 8) (by decide) hk, rfl, fun h => nomatch h⟩ c192_155 rfl
theorem c192_158 : qx_code 192 158 = some (158, .aload_n 0, 159, 0, 0, 0) := by decide +kernel
theorem s192_158 {L : Nat} {xs : Nat → Int32} {d x : Nat} {M : qxM} {st : List Value} {z : Nat} : Rs L xs (d) 192 158 [some (.ref z)] st M x = Rs L xs (d) 192 159 [some (.ref z)] (.ref z :: st) M x := Rs_next c192_158 rfl
theorem c192_159 : qx_code 192 159 = some (159, .aload_n 0, 160, 0, 0, 0) := by decide +kernel
theorem s192_159 {L : Nat} {xs : Nat → Int32} {d x : Nat} {M : qxM} {st : List Value} {z : Nat} : Rs L xs (d) 192 159 [some (.ref z)] st M x = Rs L xs (d) 192 160 [some (.ref z)] (.ref z :: st) M x := Rs_next c192_159 rfl
theorem c192_160 : qx_code 192 160 = some (160, .getfield 73, 163, 8, 13, 1558) := by decide +kernel
theorem s192_160 {L : Nat} {xs : Nat → Int32} {d x : Nat} {M : qxM} {st : List Value} {ls : qxL} {t : Nat} (hk : qx_kd t = 18) : Rs L xs (d) 192 160 ls (.ref t :: st) M x = Rs L xs (d) 192 163 ls (.int (M.1 t 13) :: st) M x := Rs_when (qx_kd_obj (k := 8) (by decide) hk) c192_160 rfl
theorem c192_163 : qx_code 192 163 = some (163, .invokevirtual 86, 166, 191, 2, 1667) := by decide +kernel
theorem s192_163 {L : Nat} {xs : Nat → Int32} {d x : Nat} {M : qxM} {st : List Value} {ls : qxL} {t : Nat} {z0 : Int32} (hk : qx_kd t = 18) (hs : st.length ≤ 4) : Rs L xs (d + 1) 192 163 ls (.int z0 :: .ref t :: st) M x = (Rs L xs d 191 0 [some (.ref t), some (.int z0)] [] M 0).bind (qx_kn L xs (d + 1) 192 163 166 191 ls st x) := by
  have h1 : qx_act L xs (qx_rt 192) (163, .invokevirtual 86, 166, 191, 2, 1667) ls (.int z0 :: .ref t :: st) M = if 2 ≤ (.int z0 :: .ref t :: st).length ∧ st.length ≤ 4 then some (.inr (.inr (.inr (191, [.ref t, .int z0], st)))) else none := rfl
  rw [if_pos ⟨by simp [List.length_cons]; try omega, hs⟩] at h1
  have h2 := qx_kd_obj (k := 8) (by decide) hk
  exact Rs_call c192_163 h1 (by rw [show qx_args 191 [.ref t, .int z0] = decide (qx_sh t = some (.inl 8)) from rfl]; exact decide_eq_true h2)
theorem c192_166 : qx_code 192 166 = some (166, .ifCond .eq 53, 169, 219, 0, 0) := by decide +kernel
theorem s192_166 {L : Nat} {xs : Nat → Int32} {d x : Nat} {M : qxM} {st : List Value} {ls : qxL} {z : Int32} : Rs L xs (d) 192 166 ls (.int z :: st) M x = if z = 0 then Rs L xs (d) 192 219 ls st M x else Rs L xs (d) 192 169 ls st M x := Rs_ite c192_166 rfl
theorem c192_169 : qx_code 192 169 = some (169, .aload_n 0, 170, 0, 0, 0) := by decide +kernel
theorem s192_169 {L : Nat} {xs : Nat → Int32} {d x : Nat} {M : qxM} {st : List Value} {z : Nat} : Rs L xs (d) 192 169 [some (.ref z)] st M x = Rs L xs (d) 192 170 [some (.ref z)] (.ref z :: st) M x := Rs_next c192_169 rfl
theorem c192_170 : qx_code 192 170 = some (170, .getfield 73, 173, 8, 13, 1558) := by decide +kernel
theorem s192_170 {L : Nat} {xs : Nat → Int32} {d x : Nat} {M : qxM} {st : List Value} {ls : qxL} {t : Nat} (hk : qx_kd t = 18) : Rs L xs (d) 192 170 ls (.ref t :: st) M x = Rs L xs (d) 192 173 ls (.int (M.1 t 13) :: st) M x := Rs_when (qx_kd_obj (k := 8) (by decide) hk) c192_170 rfl
theorem c192_173 : qx_code 192 173 = some (173, .aload_n 0, 174, 0, 0, 0) := by decide +kernel
theorem s192_173 {L : Nat} {xs : Nat → Int32} {d x : Nat} {M : qxM} {st : List Value} {z : Nat} : Rs L xs (d) 192 173 [some (.ref z)] st M x = Rs L xs (d) 192 174 [some (.ref z)] (.ref z :: st) M x := Rs_next c192_173 rfl
theorem c192_174 : qx_code 192 174 = some (174, .getfield 76, 177, 8, 14, 1559) := by decide +kernel
theorem s192_174 {L : Nat} {xs : Nat → Int32} {d x : Nat} {M : qxM} {st : List Value} {ls : qxL} {t : Nat} (hk : qx_kd t = 18) : Rs L xs (d) 192 174 ls (.ref t :: st) M x = Rs L xs (d) 192 177 ls (.int (M.1 t 14) :: st) M x := Rs_when (qx_kd_obj (k := 8) (by decide) hk) c192_174 rfl
theorem c192_177 : qx_code 192 177 = some (177, .isub, 178, 0, 0, 0) := by decide +kernel
theorem s192_177 {L : Nat} {xs : Nat → Int32} {d x : Nat} {M : qxM} {st : List Value} {ls : qxL} {z y : Int32} : Rs L xs (d) 192 177 ls (.int y :: .int z :: st) M x = Rs L xs (d) 192 178 ls (.int (z - y) :: st) M x := Rs_next c192_177 rfl
theorem c192_178 : qx_code 192 178 = some (178, .iconst 2, 179, 0, 0, 0) := by decide +kernel
theorem s192_178 {L : Nat} {xs : Nat → Int32} {d x : Nat} {M : qxM} {st : List Value} {ls : qxL} : Rs L xs (d) 192 178 ls st M x = Rs L xs (d) 192 179 ls (.int (nI 2) :: st) M x := Rs_next c192_178 rfl
theorem c192_179 : qx_code 192 179 = some (179, .if_icmp .ge 27, 182, 206, 0, 0) := by decide +kernel
theorem s192_179 {L : Nat} {xs : Nat → Int32} {d x : Nat} {M : qxM} {st : List Value} {ls : qxL} {z y : Int32} : Rs L xs (d) 192 179 ls (.int y :: .int z :: st) M x = if y ≤ z then Rs L xs (d) 192 206 ls st M x else Rs L xs (d) 192 182 ls st M x := Rs_ite c192_179 rfl
theorem c192_182 : qx_code 192 182 = some (182, .aload_n 0, 183, 0, 0, 0) := by decide +kernel
theorem s192_182 {L : Nat} {xs : Nat → Int32} {d x : Nat} {M : qxM} {st : List Value} {z : Nat} : Rs L xs (d) 192 182 [some (.ref z)] st M x = Rs L xs (d) 192 183 [some (.ref z)] (.ref z :: st) M x := Rs_next c192_182 rfl
theorem c192_183 : qx_code 192 183 = some (183, .bipush 10, 185, 0, 0, 0) := by decide +kernel
theorem s192_183 {L : Nat} {xs : Nat → Int32} {d x : Nat} {M : qxM} {st : List Value} {ls : qxL} : Rs L xs (d) 192 183 ls st M x = Rs L xs (d) 192 185 ls (.int (nI 10) :: st) M x := Rs_next c192_183 rfl
theorem c192_185 : qx_code 192 185 = some (185, .aload_n 0, 186, 0, 0, 0) := by decide +kernel
theorem s192_185 {L : Nat} {xs : Nat → Int32} {d x : Nat} {M : qxM} {st : List Value} {z : Nat} : Rs L xs (d) 192 185 [some (.ref z)] st M x = Rs L xs (d) 192 186 [some (.ref z)] (.ref z :: st) M x := Rs_next c192_185 rfl
theorem c192_186 : qx_code 192 186 = some (186, .getfield 89, 189, 8, 16, 1561) := by decide +kernel
theorem s192_186 {L : Nat} {xs : Nat → Int32} {d x : Nat} {M : qxM} {st : List Value} {ls : qxL} {t : Nat} (hk : qx_kd t = 18) : Rs L xs (d) 192 186 ls (.ref t :: st) M x = Rs L xs (d) 192 189 ls (.int (M.1 t 16) :: st) M x := Rs_when (qx_kd_obj (k := 8) (by decide) hk) c192_186 rfl
theorem c192_189 : qx_code 192 189 = some (189, .imul, 190, 0, 0, 0) := by decide +kernel
theorem s192_189 {L : Nat} {xs : Nat → Int32} {d x : Nat} {M : qxM} {st : List Value} {ls : qxL} {z y : Int32} : Rs L xs (d) 192 189 ls (.int y :: .int z :: st) M x = Rs L xs (d) 192 190 ls (.int (z * y) :: st) M x := Rs_next c192_189 rfl
theorem c192_190 : qx_code 192 190 = some (190, .aload_n 0, 191, 0, 0, 0) := by decide +kernel
theorem s192_190 {L : Nat} {xs : Nat → Int32} {d x : Nat} {M : qxM} {st : List Value} {z : Nat} : Rs L xs (d) 192 190 [some (.ref z)] st M x = Rs L xs (d) 192 191 [some (.ref z)] (.ref z :: st) M x := Rs_next c192_190 rfl
theorem c192_191 : qx_code 192 191 = some (191, .getfield 26, 194, 8, 8, 1553) := by decide +kernel
theorem s192_191 {L : Nat} {xs : Nat → Int32} {d x : Nat} {M : qxM} {st : List Value} {ls : qxL} {t : Nat} (hk : qx_kd t = 18) : Rs L xs (d) 192 191 ls (.ref t :: st) M x = Rs L xs (d) 192 194 ls (.ref (t + 6) :: st) M x := Rs_when (qx_kd_obj (k := 8) (by decide) hk) c192_191 rfl
theorem c192_194 : qx_code 192 194 = some (194, .aload_n 0, 195, 0, 0, 0) := by decide +kernel
theorem s192_194 {L : Nat} {xs : Nat → Int32} {d x : Nat} {M : qxM} {st : List Value} {z : Nat} : Rs L xs (d) 192 194 [some (.ref z)] st M x = Rs L xs (d) 192 195 [some (.ref z)] (.ref z :: st) M x := Rs_next c192_194 rfl
theorem c192_195 : qx_code 192 195 = some (195, .getfield 73, 198, 8, 13, 1558) := by decide +kernel
theorem s192_195 {L : Nat} {xs : Nat → Int32} {d x : Nat} {M : qxM} {st : List Value} {ls : qxL} {t : Nat} (hk : qx_kd t = 18) : Rs L xs (d) 192 195 ls (.ref t :: st) M x = Rs L xs (d) 192 198 ls (.int (M.1 t 13) :: st) M x := Rs_when (qx_kd_obj (k := 8) (by decide) hk) c192_195 rfl
theorem c192_198 : qx_code 192 198 = some (198, .baload, 199, 0, 0, 0) := by decide +kernel
theorem s192_198 {L : Nat} {xs : Nat → Int32} {d x : Nat} {M : qxM} {st : List Value} {ls : qxL} {t : Nat} {j : Int32} (hk : qx_kd t = 1) (hj : qx_ib j (qx_ln t) = true) : Rs L xs (d) 192 198 ls (.int j :: .ref t :: st) M x = Rs L xs (d) 192 199 ls (.int (M.1 t j.toNatClampNeg) :: st) M x := by
  have h1 := qx_kd_row (k := 1) (by decide) hk
  exact Rs_unless (qx_ib_not hj) c192_198 (by unfold qx_act; dsimp only; rw [h1]; rfl)
theorem s192_198z {L : Nat} {xs : Nat → Int32} {d x : Nat} {M : qxM} {st : List Value} {ls : qxL} {t : Nat} {j : Int32} (hk : qx_kd t = 2) (hj : qx_ib j (qx_ln t) = true) : Rs L xs (d) 192 198 ls (.int j :: .ref t :: st) M x = Rs L xs (d) 192 199 ls (.int (M.1 t j.toNatClampNeg) :: st) M x := by
  have h1 := qx_kd_row (k := 2) (by decide) hk
  exact Rs_unless (qx_ib_not hj) c192_198 (by unfold qx_act; dsimp only; rw [h1]; rfl)
theorem c192_199 : qx_code 192 199 = some (199, .iadd, 200, 0, 0, 0) := by decide +kernel
theorem s192_199 {L : Nat} {xs : Nat → Int32} {d x : Nat} {M : qxM} {st : List Value} {ls : qxL} {z y : Int32} : Rs L xs (d) 192 199 ls (.int y :: .int z :: st) M x = Rs L xs (d) 192 200 ls (.int (z + y) :: st) M x := Rs_next c192_199 rfl
theorem c192_200 : qx_code 192 200 = some (200, .bipush 48, 202, 0, 0, 0) := by decide +kernel
theorem s192_200 {L : Nat} {xs : Nat → Int32} {d x : Nat} {M : qxM} {st : List Value} {ls : qxL} : Rs L xs (d) 192 200 ls st M x = Rs L xs (d) 192 202 ls (.int (nI 48) :: st) M x := Rs_next c192_200 rfl
theorem c192_202 : qx_code 192 202 = some (202, .isub, 203, 0, 0, 0) := by decide +kernel
theorem s192_202 {L : Nat} {xs : Nat → Int32} {d x : Nat} {M : qxM} {st : List Value} {ls : qxL} {z y : Int32} : Rs L xs (d) 192 202 ls (.int y :: .int z :: st) M x = Rs L xs (d) 192 203 ls (.int (z - y) :: st) M x := Rs_next c192_202 rfl
theorem c192_203 : qx_code 192 203 = some (203, .putfield 89, 206, 8, 16, 1561) := by decide +kernel
theorem s192_203 {L : Nat} {xs : Nat → Int32} {d x : Nat} {M : qxM} {st : List Value} {ls : qxL} {t : Nat} {z : Int32} (hk : qx_kd t = 18) : Rs L xs (d) 192 203 ls (.int z :: .ref t :: st) M x = Rs L xs (d) 192 206 ls st (qx_up M t 16 z) x := Rs_when (cnd := qx_sh t = some (.inl 8) ∧ qx_fo 8 16 = none ∧ (qx_bf 8 16 = true → z = 0 ∨ z = 1)) ⟨qx_kd_obj (k := 8) (by decide) hk, rfl, fun h => nomatch h⟩ c192_203 rfl
theorem c192_206 : qx_code 192 206 = some (206, .aload_n 0, 207, 0, 0, 0) := by decide +kernel
theorem s192_206 {L : Nat} {xs : Nat → Int32} {d x : Nat} {M : qxM} {st : List Value} {z : Nat} : Rs L xs (d) 192 206 [some (.ref z)] st M x = Rs L xs (d) 192 207 [some (.ref z)] (.ref z :: st) M x := Rs_next c192_206 rfl
theorem c192_207 : qx_code 192 207 = some (207, .dup, 208, 0, 0, 0) := by decide +kernel
theorem s192_207r {L : Nat} {xs : Nat → Int32} {d x : Nat} {M : qxM} {st : List Value} {ls : qxL} {z : Nat} : Rs L xs (d) 192 207 ls (.ref z :: st) M x = Rs L xs (d) 192 208 ls (.ref z :: .ref z :: st) M x := Rs_next c192_207 rfl
theorem s192_207i {L : Nat} {xs : Nat → Int32} {d x : Nat} {M : qxM} {st : List Value} {ls : qxL} {z : Int32} : Rs L xs (d) 192 207 ls (.int z :: st) M x = Rs L xs (d) 192 208 ls (.int z :: .int z :: st) M x := Rs_next c192_207 rfl
theorem c192_208 : qx_code 192 208 = some (208, .getfield 73, 211, 8, 13, 1558) := by decide +kernel
theorem s192_208 {L : Nat} {xs : Nat → Int32} {d x : Nat} {M : qxM} {st : List Value} {ls : qxL} {t : Nat} (hk : qx_kd t = 18) : Rs L xs (d) 192 208 ls (.ref t :: st) M x = Rs L xs (d) 192 211 ls (.int (M.1 t 13) :: st) M x := Rs_when (qx_kd_obj (k := 8) (by decide) hk) c192_208 rfl
theorem c192_211 : qx_code 192 211 = some (211, .iconst 1, 212, 0, 0, 0) := by decide +kernel
theorem s192_211 {L : Nat} {xs : Nat → Int32} {d x : Nat} {M : qxM} {st : List Value} {ls : qxL} : Rs L xs (d) 192 211 ls st M x = Rs L xs (d) 192 212 ls (.int (nI 1) :: st) M x := Rs_next c192_211 rfl
theorem c192_212 : qx_code 192 212 = some (212, .iadd, 213, 0, 0, 0) := by decide +kernel
theorem s192_212 {L : Nat} {xs : Nat → Int32} {d x : Nat} {M : qxM} {st : List Value} {ls : qxL} {z y : Int32} : Rs L xs (d) 192 212 ls (.int y :: .int z :: st) M x = Rs L xs (d) 192 213 ls (.int (z + y) :: st) M x := Rs_next c192_212 rfl
theorem c192_213 : qx_code 192 213 = some (213, .putfield 73, 216, 8, 13, 1558) := by decide +kernel
theorem s192_213 {L : Nat} {xs : Nat → Int32} {d x : Nat} {M : qxM} {st : List Value} {ls : qxL} {t : Nat} {z : Int32} (hk : qx_kd t = 18) : Rs L xs (d) 192 213 ls (.int z :: .ref t :: st) M x = Rs L xs (d) 192 216 ls st (qx_up M t 13 z) x := Rs_when (cnd := qx_sh t = some (.inl 8) ∧ qx_fo 8 13 = none ∧ (qx_bf 8 13 = true → z = 0 ∨ z = 1)) ⟨qx_kd_obj (k := 8) (by decide) hk, rfl, fun h => nomatch h⟩ c192_213 rfl
theorem c192_216 : qx_code 192 216 = some (216, .goto (-58), 219, 158, 0, 0) := by decide +kernel
theorem s192_216 {L : Nat} {xs : Nat → Int32} {d x : Nat} {M : qxM} {st : List Value} {ls : qxL} : Rs L xs (d) 192 216 ls st M x = Rs L xs (d) 192 158 ls st M x := Rs_next c192_216 rfl
theorem c192_219 : qx_code 192 219 = some (219, .aload_n 0, 220, 0, 0, 0) := by decide +kernel
theorem s192_219 {L : Nat} {xs : Nat → Int32} {d x : Nat} {M : qxM} {st : List Value} {z : Nat} : Rs L xs (d) 192 219 [some (.ref z)] st M x = Rs L xs (d) 192 220 [some (.ref z)] (.ref z :: st) M x := Rs_next c192_219 rfl
theorem c192_220 : qx_code 192 220 = some (220, .aload_n 0, 221, 0, 0, 0) := by decide +kernel
theorem s192_220 {L : Nat} {xs : Nat → Int32} {d x : Nat} {M : qxM} {st : List Value} {z : Nat} : Rs L xs (d) 192 220 [some (.ref z)] st M x = Rs L xs (d) 192 221 [some (.ref z)] (.ref z :: st) M x := Rs_next c192_220 rfl
theorem c192_221 : qx_code 192 221 = some (221, .getfield 73, 224, 8, 13, 1558) := by decide +kernel
theorem s192_221 {L : Nat} {xs : Nat → Int32} {d x : Nat} {M : qxM} {st : List Value} {ls : qxL} {t : Nat} (hk : qx_kd t = 18) : Rs L xs (d) 192 221 ls (.ref t :: st) M x = Rs L xs (d) 192 224 ls (.int (M.1 t 13) :: st) M x := Rs_when (qx_kd_obj (k := 8) (by decide) hk) c192_221 rfl
theorem c192_224 : qx_code 192 224 = some (224, .aload_n 0, 225, 0, 0, 0) := by decide +kernel
theorem s192_224 {L : Nat} {xs : Nat → Int32} {d x : Nat} {M : qxM} {st : List Value} {z : Nat} : Rs L xs (d) 192 224 [some (.ref z)] st M x = Rs L xs (d) 192 225 [some (.ref z)] (.ref z :: st) M x := Rs_next c192_224 rfl
theorem c192_225 : qx_code 192 225 = some (225, .getfield 76, 228, 8, 14, 1559) := by decide +kernel
theorem s192_225 {L : Nat} {xs : Nat → Int32} {d x : Nat} {M : qxM} {st : List Value} {ls : qxL} {t : Nat} (hk : qx_kd t = 18) : Rs L xs (d) 192 225 ls (.ref t :: st) M x = Rs L xs (d) 192 228 ls (.int (M.1 t 14) :: st) M x := Rs_when (qx_kd_obj (k := 8) (by decide) hk) c192_225 rfl
theorem c192_228 : qx_code 192 228 = some (228, .isub, 229, 0, 0, 0) := by decide +kernel
theorem s192_228 {L : Nat} {xs : Nat → Int32} {d x : Nat} {M : qxM} {st : List Value} {ls : qxL} {z y : Int32} : Rs L xs (d) 192 228 ls (.int y :: .int z :: st) M x = Rs L xs (d) 192 229 ls (.int (z - y) :: st) M x := Rs_next c192_228 rfl
theorem c192_229 : qx_code 192 229 = some (229, .iconst 2, 230, 0, 0, 0) := by decide +kernel
theorem s192_229 {L : Nat} {xs : Nat → Int32} {d x : Nat} {M : qxM} {st : List Value} {ls : qxL} : Rs L xs (d) 192 229 ls st M x = Rs L xs (d) 192 230 ls (.int (nI 2) :: st) M x := Rs_next c192_229 rfl
theorem c192_230 : qx_code 192 230 = some (230, .if_icmp .gt 7, 233, 237, 0, 0) := by decide +kernel
theorem s192_230 {L : Nat} {xs : Nat → Int32} {d x : Nat} {M : qxM} {st : List Value} {ls : qxL} {z y : Int32} : Rs L xs (d) 192 230 ls (.int y :: .int z :: st) M x = if y < z then Rs L xs (d) 192 237 ls st M x else Rs L xs (d) 192 233 ls st M x := Rs_ite c192_230 rfl
theorem c192_233 : qx_code 192 233 = some (233, .iconst 3, 234, 0, 0, 0) := by decide +kernel
theorem s192_233 {L : Nat} {xs : Nat → Int32} {d x : Nat} {M : qxM} {st : List Value} {ls : qxL} : Rs L xs (d) 192 233 ls st M x = Rs L xs (d) 192 234 ls (.int (nI 3) :: st) M x := Rs_next c192_233 rfl
theorem c192_234 : qx_code 192 234 = some (234, .goto 4, 237, 238, 0, 0) := by decide +kernel
theorem s192_234 {L : Nat} {xs : Nat → Int32} {d x : Nat} {M : qxM} {st : List Value} {ls : qxL} : Rs L xs (d) 192 234 ls st M x = Rs L xs (d) 192 238 ls st M x := Rs_next c192_234 rfl
theorem c192_237 : qx_code 192 237 = some (237, .iconst 0, 238, 0, 0, 0) := by decide +kernel
theorem s192_237 {L : Nat} {xs : Nat → Int32} {d x : Nat} {M : qxM} {st : List Value} {ls : qxL} : Rs L xs (d) 192 237 ls st M x = Rs L xs (d) 192 238 ls (.int (nI 0) :: st) M x := Rs_next c192_237 rfl
theorem c192_238 : qx_code 192 238 = some (238, .putfield 79, 241, 8, 15, 1560) := by decide +kernel
theorem s192_238 {L : Nat} {xs : Nat → Int32} {d x : Nat} {M : qxM} {st : List Value} {ls : qxL} {t : Nat} {z : Int32} (hk : qx_kd t = 18) : Rs L xs (d) 192 238 ls (.int z :: .ref t :: st) M x = Rs L xs (d) 192 241 ls st (qx_up M t 15 z) x := Rs_when (cnd := qx_sh t = some (.inl 8) ∧ qx_fo 8 15 = none ∧ (qx_bf 8 15 = true → z = 0 ∨ z = 1)) ⟨qx_kd_obj (k := 8) (by decide) hk, rfl, fun h => nomatch h⟩ c192_238 rfl
theorem c192_241 : qx_code 192 241 = some (241, .return_, 242, 0, 0, 0) := by decide +kernel
theorem s192_241 {L : Nat} {xs : Nat → Int32} {d x : Nat} {M : qxM} {ls : qxL} : Rs L xs (d) 192 241 ls [] M x = some (.inl none, M, x) := Rs_ret c192_241 rfl
theorem c192_242 : qx_code 192 242 = some (242, .aload_n 0, 243, 0, 0, 0) := by decide +kernel
theorem s192_242 {L : Nat} {xs : Nat → Int32} {d x : Nat} {M : qxM} {st : List Value} {z : Nat} : Rs L xs (d) 192 242 [some (.ref z)] st M x = Rs L xs (d) 192 243 [some (.ref z)] (.ref z :: st) M x := Rs_next c192_242 rfl
theorem c192_243 : qx_code 192 243 = some (243, .getfield 26, 246, 8, 8, 1553) := by decide +kernel
theorem s192_243 {L : Nat} {xs : Nat → Int32} {d x : Nat} {M : qxM} {st : List Value} {ls : qxL} {t : Nat} (hk : qx_kd t = 18) : Rs L xs (d) 192 243 ls (.ref t :: st) M x = Rs L xs (d) 192 246 ls (.ref (t + 6) :: st) M x := Rs_when (qx_kd_obj (k := 8) (by decide) hk) c192_243 rfl
theorem c192_246 : qx_code 192 246 = some (246, .aload_n 0, 247, 0, 0, 0) := by decide +kernel
theorem s192_246 {L : Nat} {xs : Nat → Int32} {d x : Nat} {M : qxM} {st : List Value} {z : Nat} : Rs L xs (d) 192 246 [some (.ref z)] st M x = Rs L xs (d) 192 247 [some (.ref z)] (.ref z :: st) M x := Rs_next c192_246 rfl
theorem c192_247 : qx_code 192 247 = some (247, .getfield 73, 250, 8, 13, 1558) := by decide +kernel
theorem s192_247 {L : Nat} {xs : Nat → Int32} {d x : Nat} {M : qxM} {st : List Value} {ls : qxL} {t : Nat} (hk : qx_kd t = 18) : Rs L xs (d) 192 247 ls (.ref t :: st) M x = Rs L xs (d) 192 250 ls (.int (M.1 t 13) :: st) M x := Rs_when (qx_kd_obj (k := 8) (by decide) hk) c192_247 rfl
theorem c192_250 : qx_code 192 250 = some (250, .baload, 251, 0, 0, 0) := by decide +kernel
theorem s192_250 {L : Nat} {xs : Nat → Int32} {d x : Nat} {M : qxM} {st : List Value} {ls : qxL} {t : Nat} {j : Int32} (hk : qx_kd t = 1) (hj : qx_ib j (qx_ln t) = true) : Rs L xs (d) 192 250 ls (.int j :: .ref t :: st) M x = Rs L xs (d) 192 251 ls (.int (M.1 t j.toNatClampNeg) :: st) M x := by
  have h1 := qx_kd_row (k := 1) (by decide) hk
  exact Rs_unless (qx_ib_not hj) c192_250 (by unfold qx_act; dsimp only; rw [h1]; rfl)
theorem s192_250z {L : Nat} {xs : Nat → Int32} {d x : Nat} {M : qxM} {st : List Value} {ls : qxL} {t : Nat} {j : Int32} (hk : qx_kd t = 2) (hj : qx_ib j (qx_ln t) = true) : Rs L xs (d) 192 250 ls (.int j :: .ref t :: st) M x = Rs L xs (d) 192 251 ls (.int (M.1 t j.toNatClampNeg) :: st) M x := by
  have h1 := qx_kd_row (k := 2) (by decide) hk
  exact Rs_unless (qx_ib_not hj) c192_250 (by unfold qx_act; dsimp only; rw [h1]; rfl)
theorem c192_251 : qx_code 192 251 = some (251, .bipush 59, 253, 0, 0, 0) := by decide +kernel
theorem s192_251 {L : Nat} {xs : Nat → Int32} {d x : Nat} {M : qxM} {st : List Value} {ls : qxL} : Rs L xs (d) 192 251 ls st M x = Rs L xs (d) 192 253 ls (.int (nI 59) :: st) M x := Rs_next c192_251 rfl
theorem c192_253 : qx_code 192 253 = some (253, .if_icmp .ne 8, 256, 261, 0, 0) := by decide +kernel
theorem s192_253 {L : Nat} {xs : Nat → Int32} {d x : Nat} {M : qxM} {st : List Value} {ls : qxL} {z y : Int32} : Rs L xs (d) 192 253 ls (.int y :: .int z :: st) M x = if z = y then Rs L xs (d) 192 256 ls st M x else Rs L xs (d) 192 261 ls st M x := Rs_ite c192_253 rfl
theorem c192_256 : qx_code 192 256 = some (256, .aload_n 0, 257, 0, 0, 0) := by decide +kernel
theorem s192_256 {L : Nat} {xs : Nat → Int32} {d x : Nat} {M : qxM} {st : List Value} {z : Nat} : Rs L xs (d) 192 256 [some (.ref z)] st M x = Rs L xs (d) 192 257 [some (.ref z)] (.ref z :: st) M x := Rs_next c192_256 rfl
theorem c192_257 : qx_code 192 257 = some (257, .iconst 4, 258, 0, 0, 0) := by decide +kernel
theorem s192_257 {L : Nat} {xs : Nat → Int32} {d x : Nat} {M : qxM} {st : List Value} {ls : qxL} : Rs L xs (d) 192 257 ls st M x = Rs L xs (d) 192 258 ls (.int (nI 4) :: st) M x := Rs_next c192_257 rfl
theorem c192_258 : qx_code 192 258 = some (258, .putfield 79, 261, 8, 15, 1560) := by decide +kernel
theorem s192_258 {L : Nat} {xs : Nat → Int32} {d x : Nat} {M : qxM} {st : List Value} {ls : qxL} {t : Nat} {z : Int32} (hk : qx_kd t = 18) : Rs L xs (d) 192 258 ls (.int z :: .ref t :: st) M x = Rs L xs (d) 192 261 ls st (qx_up M t 15 z) x := Rs_when (cnd := qx_sh t = some (.inl 8) ∧ qx_fo 8 15 = none ∧ (qx_bf 8 15 = true → z = 0 ∨ z = 1)) ⟨qx_kd_obj (k := 8) (by decide) hk, rfl, fun h => nomatch h⟩ c192_258 rfl
theorem c192_261 : qx_code 192 261 = some (261, .aload_n 0, 262, 0, 0, 0) := by decide +kernel
theorem s192_261 {L : Nat} {xs : Nat → Int32} {d x : Nat} {M : qxM} {st : List Value} {z : Nat} : Rs L xs (d) 192 261 [some (.ref z)] st M x = Rs L xs (d) 192 262 [some (.ref z)] (.ref z :: st) M x := Rs_next c192_261 rfl
theorem c192_262 : qx_code 192 262 = some (262, .dup, 263, 0, 0, 0) := by decide +kernel
theorem s192_262r {L : Nat} {xs : Nat → Int32} {d x : Nat} {M : qxM} {st : List Value} {ls : qxL} {z : Nat} : Rs L xs (d) 192 262 ls (.ref z :: st) M x = Rs L xs (d) 192 263 ls (.ref z :: .ref z :: st) M x := Rs_next c192_262 rfl
theorem s192_262i {L : Nat} {xs : Nat → Int32} {d x : Nat} {M : qxM} {st : List Value} {ls : qxL} {z : Int32} : Rs L xs (d) 192 262 ls (.int z :: st) M x = Rs L xs (d) 192 263 ls (.int z :: .int z :: st) M x := Rs_next c192_262 rfl
theorem c192_263 : qx_code 192 263 = some (263, .getfield 73, 266, 8, 13, 1558) := by decide +kernel
theorem s192_263 {L : Nat} {xs : Nat → Int32} {d x : Nat} {M : qxM} {st : List Value} {ls : qxL} {t : Nat} (hk : qx_kd t = 18) : Rs L xs (d) 192 263 ls (.ref t :: st) M x = Rs L xs (d) 192 266 ls (.int (M.1 t 13) :: st) M x := Rs_when (qx_kd_obj (k := 8) (by decide) hk) c192_263 rfl
theorem c192_266 : qx_code 192 266 = some (266, .iconst 1, 267, 0, 0, 0) := by decide +kernel
theorem s192_266 {L : Nat} {xs : Nat → Int32} {d x : Nat} {M : qxM} {st : List Value} {ls : qxL} : Rs L xs (d) 192 266 ls st M x = Rs L xs (d) 192 267 ls (.int (nI 1) :: st) M x := Rs_next c192_266 rfl
theorem c192_267 : qx_code 192 267 = some (267, .iadd, 268, 0, 0, 0) := by decide +kernel
theorem s192_267 {L : Nat} {xs : Nat → Int32} {d x : Nat} {M : qxM} {st : List Value} {ls : qxL} {z y : Int32} : Rs L xs (d) 192 267 ls (.int y :: .int z :: st) M x = Rs L xs (d) 192 268 ls (.int (z + y) :: st) M x := Rs_next c192_267 rfl
theorem c192_268 : qx_code 192 268 = some (268, .putfield 73, 271, 8, 13, 1558) := by decide +kernel
theorem s192_268 {L : Nat} {xs : Nat → Int32} {d x : Nat} {M : qxM} {st : List Value} {ls : qxL} {t : Nat} {z : Int32} (hk : qx_kd t = 18) : Rs L xs (d) 192 268 ls (.int z :: .ref t :: st) M x = Rs L xs (d) 192 271 ls st (qx_up M t 13 z) x := Rs_when (cnd := qx_sh t = some (.inl 8) ∧ qx_fo 8 13 = none ∧ (qx_bf 8 13 = true → z = 0 ∨ z = 1)) ⟨qx_kd_obj (k := 8) (by decide) hk, rfl, fun h => nomatch h⟩ c192_268 rfl
theorem c192_271 : qx_code 192 271 = some (271, .return_, 272, 0, 0, 0) := by decide +kernel
theorem s192_271 {L : Nat} {xs : Nat → Int32} {d x : Nat} {M : qxM} {ls : qxL} : Rs L xs (d) 192 271 ls [] M x = some (.inl none, M, x) := Rs_ret c192_271 rfl
theorem c193_0 : qx_code 193 0 = some (0, .aload_n 0, 1, 0, 0, 0) := by decide +kernel
theorem s193_0 {L : Nat} {xs : Nat → Int32} {d x : Nat} {M : qxM} {st : List Value} {a1 : Option Value} {z : Nat} : Rs L xs (d) 193 0 [some (.ref z), a1] st M x = Rs L xs (d) 193 1 [some (.ref z), a1] (.ref z :: st) M x := Rs_next c193_0 rfl
theorem c193_1 : qx_code 193 1 = some (1, .getfield 63, 4, 8, 10, 1555) := by decide +kernel
theorem s193_1 {L : Nat} {xs : Nat → Int32} {d x : Nat} {M : qxM} {st : List Value} {ls : qxL} {t : Nat} (hk : qx_kd t = 18) : Rs L xs (d) 193 1 ls (.ref t :: st) M x = Rs L xs (d) 193 4 ls (.int (M.1 t 10) :: st) M x := Rs_when (qx_kd_obj (k := 8) (by decide) hk) c193_1 rfl
theorem c193_4 : qx_code 193 4 = some (4, .ifCond .le 4, 7, 8, 0, 0) := by decide +kernel
theorem s193_4 {L : Nat} {xs : Nat → Int32} {d x : Nat} {M : qxM} {st : List Value} {ls : qxL} {z : Int32} : Rs L xs (d) 193 4 ls (.int z :: st) M x = if z ≤ 0 then Rs L xs (d) 193 8 ls st M x else Rs L xs (d) 193 7 ls st M x := Rs_ite c193_4 rfl
theorem c193_7 : qx_code 193 7 = some (7, .return_, 8, 0, 0, 0) := by decide +kernel
theorem s193_7 {L : Nat} {xs : Nat → Int32} {d x : Nat} {M : qxM} {ls : qxL} : Rs L xs (d) 193 7 ls [] M x = some (.inl none, M, x) := Rs_ret c193_7 rfl
theorem c193_8 : qx_code 193 8 = some (8, .aload_n 0, 9, 0, 0, 0) := by decide +kernel
theorem s193_8 {L : Nat} {xs : Nat → Int32} {d x : Nat} {M : qxM} {st : List Value} {a1 : Option Value} {z : Nat} : Rs L xs (d) 193 8 [some (.ref z), a1] st M x = Rs L xs (d) 193 9 [some (.ref z), a1] (.ref z :: st) M x := Rs_next c193_8 rfl
theorem c193_9 : qx_code 193 9 = some (9, .iload_n 1, 10, 0, 0, 0) := by decide +kernel
theorem s193_9 {L : Nat} {xs : Nat → Int32} {d x : Nat} {M : qxM} {st : List Value} {a0 : Option Value} {z : Int32} : Rs L xs (d) 193 9 [a0, some (.int z)] st M x = Rs L xs (d) 193 10 [a0, some (.int z)] (.int z :: st) M x := Rs_next c193_9 rfl
theorem c193_10 : qx_code 193 10 = some (10, .putfield 63, 13, 8, 10, 1555) := by decide +kernel
theorem s193_10 {L : Nat} {xs : Nat → Int32} {d x : Nat} {M : qxM} {st : List Value} {ls : qxL} {t : Nat} {z : Int32} (hk : qx_kd t = 18) : Rs L xs (d) 193 10 ls (.int z :: .ref t :: st) M x = Rs L xs (d) 193 13 ls st (qx_up M t 10 z) x := Rs_when (cnd := qx_sh t = some (.inl 8) ∧ qx_fo 8 10 = none ∧ (qx_bf 8 10 = true → z = 0 ∨ z = 1)) ⟨qx_kd_obj (k := 8) (by decide) hk, rfl, fun h => nomatch h⟩ c193_10 rfl
theorem c193_13 : qx_code 193 13 = some (13, .aload_n 0, 14, 0, 0, 0) := by decide +kernel
theorem s193_13 {L : Nat} {xs : Nat → Int32} {d x : Nat} {M : qxM} {st : List Value} {a1 : Option Value} {z : Nat} : Rs L xs (d) 193 13 [some (.ref z), a1] st M x = Rs L xs (d) 193 14 [some (.ref z), a1] (.ref z :: st) M x := Rs_next c193_13 rfl
theorem c193_14 : qx_code 193 14 = some (14, .aload_n 0, 15, 0, 0, 0) := by decide +kernel
theorem s193_14 {L : Nat} {xs : Nat → Int32} {d x : Nat} {M : qxM} {st : List Value} {a1 : Option Value} {z : Nat} : Rs L xs (d) 193 14 [some (.ref z), a1] st M x = Rs L xs (d) 193 15 [some (.ref z), a1] (.ref z :: st) M x := Rs_next c193_14 rfl
theorem c193_15 : qx_code 193 15 = some (15, .getfield 76, 18, 8, 14, 1559) := by decide +kernel
theorem s193_15 {L : Nat} {xs : Nat → Int32} {d x : Nat} {M : qxM} {st : List Value} {ls : qxL} {t : Nat} (hk : qx_kd t = 18) : Rs L xs (d) 193 15 ls (.ref t :: st) M x = Rs L xs (d) 193 18 ls (.int (M.1 t 14) :: st) M x := Rs_when (qx_kd_obj (k := 8) (by decide) hk) c193_15 rfl
theorem c193_18 : qx_code 193 18 = some (18, .putfield 30, 21, 8, 11, 1556) := by decide +kernel
theorem s193_18 {L : Nat} {xs : Nat → Int32} {d x : Nat} {M : qxM} {st : List Value} {ls : qxL} {t : Nat} {z : Int32} (hk : qx_kd t = 18) : Rs L xs (d) 193 18 ls (.int z :: .ref t :: st) M x = Rs L xs (d) 193 21 ls st (qx_up M t 11 z) x := Rs_when (cnd := qx_sh t = some (.inl 8) ∧ qx_fo 8 11 = none ∧ (qx_bf 8 11 = true → z = 0 ∨ z = 1)) ⟨qx_kd_obj (k := 8) (by decide) hk, rfl, fun h => nomatch h⟩ c193_18 rfl
theorem c193_21 : qx_code 193 21 = some (21, .return_, 22, 0, 0, 0) := by decide +kernel
theorem s193_21 {L : Nat} {xs : Nat → Int32} {d x : Nat} {M : qxM} {ls : qxL} : Rs L xs (d) 193 21 ls [] M x = some (.inl none, M, x) := Rs_ret c193_21 rfl
theorem c194_0 : qx_code 194 0 = some (0, .aload_n 0, 1, 0, 0, 0) := by decide +kernel
theorem s194_0 {L : Nat} {xs : Nat → Int32} {d x : Nat} {M : qxM} {st : List Value} {a1 : Option Value} {z : Nat} : Rs L xs (d) 194 0 [some (.ref z), a1] st M x = Rs L xs (d) 194 1 [some (.ref z), a1] (.ref z :: st) M x := Rs_next c194_0 rfl
theorem c194_1 : qx_code 194 1 = some (1, .getfield 63, 4, 8, 10, 1555) := by decide +kernel
theorem s194_1 {L : Nat} {xs : Nat → Int32} {d x : Nat} {M : qxM} {st : List Value} {ls : qxL} {t : Nat} (hk : qx_kd t = 18) : Rs L xs (d) 194 1 ls (.ref t :: st) M x = Rs L xs (d) 194 4 ls (.int (M.1 t 10) :: st) M x := Rs_when (qx_kd_obj (k := 8) (by decide) hk) c194_1 rfl
theorem c194_4 : qx_code 194 4 = some (4, .ifCond .ne 15, 7, 19, 0, 0) := by decide +kernel
theorem s194_4 {L : Nat} {xs : Nat → Int32} {d x : Nat} {M : qxM} {st : List Value} {ls : qxL} {z : Int32} : Rs L xs (d) 194 4 ls (.int z :: st) M x = if z = 0 then Rs L xs (d) 194 7 ls st M x else Rs L xs (d) 194 19 ls st M x := Rs_ite c194_4 rfl
theorem c194_7 : qx_code 194 7 = some (7, .aload_n 0, 8, 0, 0, 0) := by decide +kernel
theorem s194_7 {L : Nat} {xs : Nat → Int32} {d x : Nat} {M : qxM} {st : List Value} {a1 : Option Value} {z : Nat} : Rs L xs (d) 194 7 [some (.ref z), a1] st M x = Rs L xs (d) 194 8 [some (.ref z), a1] (.ref z :: st) M x := Rs_next c194_7 rfl
theorem c194_8 : qx_code 194 8 = some (8, .getfield 79, 11, 8, 15, 1560) := by decide +kernel
theorem s194_8 {L : Nat} {xs : Nat → Int32} {d x : Nat} {M : qxM} {st : List Value} {ls : qxL} {t : Nat} (hk : qx_kd t = 18) : Rs L xs (d) 194 8 ls (.ref t :: st) M x = Rs L xs (d) 194 11 ls (.int (M.1 t 15) :: st) M x := Rs_when (qx_kd_obj (k := 8) (by decide) hk) c194_8 rfl
theorem c194_11 : qx_code 194 11 = some (11, .iload_n 1, 12, 0, 0, 0) := by decide +kernel
theorem s194_11 {L : Nat} {xs : Nat → Int32} {d x : Nat} {M : qxM} {st : List Value} {a0 : Option Value} {z : Int32} : Rs L xs (d) 194 11 [a0, some (.int z)] st M x = Rs L xs (d) 194 12 [a0, some (.int z)] (.int z :: st) M x := Rs_next c194_11 rfl
theorem c194_12 : qx_code 194 12 = some (12, .if_icmp .ne 7, 15, 19, 0, 0) := by decide +kernel
theorem s194_12 {L : Nat} {xs : Nat → Int32} {d x : Nat} {M : qxM} {st : List Value} {ls : qxL} {z y : Int32} : Rs L xs (d) 194 12 ls (.int y :: .int z :: st) M x = if z = y then Rs L xs (d) 194 15 ls st M x else Rs L xs (d) 194 19 ls st M x := Rs_ite c194_12 rfl
theorem c194_15 : qx_code 194 15 = some (15, .iconst 1, 16, 0, 0, 0) := by decide +kernel
theorem s194_15 {L : Nat} {xs : Nat → Int32} {d x : Nat} {M : qxM} {st : List Value} {ls : qxL} : Rs L xs (d) 194 15 ls st M x = Rs L xs (d) 194 16 ls (.int (nI 1) :: st) M x := Rs_next c194_15 rfl
theorem c194_16 : qx_code 194 16 = some (16, .goto 4, 19, 20, 0, 0) := by decide +kernel
theorem s194_16 {L : Nat} {xs : Nat → Int32} {d x : Nat} {M : qxM} {st : List Value} {ls : qxL} : Rs L xs (d) 194 16 ls st M x = Rs L xs (d) 194 20 ls st M x := Rs_next c194_16 rfl
theorem c194_19 : qx_code 194 19 = some (19, .iconst 0, 20, 0, 0, 0) := by decide +kernel
theorem s194_19 {L : Nat} {xs : Nat → Int32} {d x : Nat} {M : qxM} {st : List Value} {ls : qxL} : Rs L xs (d) 194 19 ls st M x = Rs L xs (d) 194 20 ls (.int (nI 0) :: st) M x := Rs_next c194_19 rfl
theorem c194_20 : qx_code 194 20 = some (20, .ireturn, 21, 0, 0, 0) := by decide +kernel
theorem s194_20 {L : Nat} {xs : Nat → Int32} {d x : Nat} {M : qxM} {ls : qxL} {z : Int32} (h01 : z = 0 ∨ z = 1) : Rs L xs (d) 194 20 ls [.int z] M x = some (.inl (some (.int z)), M, x) := Rs_retw h01 c194_20 rfl
theorem c195_0 : qx_code 195 0 = some (0, .aload_n 0, 1, 0, 0, 0) := by decide +kernel
theorem s195_0 {L : Nat} {xs : Nat → Int32} {d x : Nat} {M : qxM} {st : List Value} {a1 a2 : Option Value} {z : Nat} : Rs L xs (d) 195 0 [some (.ref z), a1, a2] st M x = Rs L xs (d) 195 1 [some (.ref z), a1, a2] (.ref z :: st) M x := Rs_next c195_0 rfl
theorem c195_1 : qx_code 195 1 = some (1, .iconst 2, 2, 0, 0, 0) := by decide +kernel
theorem s195_1 {L : Nat} {xs : Nat → Int32} {d x : Nat} {M : qxM} {st : List Value} {ls : qxL} : Rs L xs (d) 195 1 ls st M x = Rs L xs (d) 195 2 ls (.int (nI 2) :: st) M x := Rs_next c195_1 rfl
theorem c195_2 : qx_code 195 2 = some (2, .invokevirtual 92, 5, 194, 2, 1676) := by decide +kernel
theorem s195_2 {L : Nat} {xs : Nat → Int32} {d x : Nat} {M : qxM} {st : List Value} {ls : qxL} {t : Nat} {z0 : Int32} (hk : qx_kd t = 18) (hs : st.length ≤ 4) : Rs L xs (d + 1) 195 2 ls (.int z0 :: .ref t :: st) M x = (Rs L xs d 194 0 [some (.ref t), some (.int z0)] [] M 0).bind (qx_kn L xs (d + 1) 195 2 5 194 ls st x) := by
  have h1 : qx_act L xs (qx_rt 195) (2, .invokevirtual 92, 5, 194, 2, 1676) ls (.int z0 :: .ref t :: st) M = if 2 ≤ (.int z0 :: .ref t :: st).length ∧ st.length ≤ 4 then some (.inr (.inr (.inr (194, [.ref t, .int z0], st)))) else none := rfl
  rw [if_pos ⟨by simp [List.length_cons]; try omega, hs⟩] at h1
  have h2 := qx_kd_obj (k := 8) (by decide) hk
  exact Rs_call c195_2 h1 (by rw [show qx_args 194 [.ref t, .int z0] = decide (qx_sh t = some (.inl 8)) from rfl]; exact decide_eq_true h2)
theorem c195_5 : qx_code 195 5 = some (5, .ifCond .eq 19, 8, 24, 0, 0) := by decide +kernel
theorem s195_5 {L : Nat} {xs : Nat → Int32} {d x : Nat} {M : qxM} {st : List Value} {ls : qxL} {z : Int32} : Rs L xs (d) 195 5 ls (.int z :: st) M x = if z = 0 then Rs L xs (d) 195 24 ls st M x else Rs L xs (d) 195 8 ls st M x := Rs_ite c195_5 rfl
theorem c195_8 : qx_code 195 8 = some (8, .aload_n 0, 9, 0, 0, 0) := by decide +kernel
theorem s195_8 {L : Nat} {xs : Nat → Int32} {d x : Nat} {M : qxM} {st : List Value} {a1 a2 : Option Value} {z : Nat} : Rs L xs (d) 195 8 [some (.ref z), a1, a2] st M x = Rs L xs (d) 195 9 [some (.ref z), a1, a2] (.ref z :: st) M x := Rs_next c195_8 rfl
theorem c195_9 : qx_code 195 9 = some (9, .getfield 73, 12, 8, 13, 1558) := by decide +kernel
theorem s195_9 {L : Nat} {xs : Nat → Int32} {d x : Nat} {M : qxM} {st : List Value} {ls : qxL} {t : Nat} (hk : qx_kd t = 18) : Rs L xs (d) 195 9 ls (.ref t :: st) M x = Rs L xs (d) 195 12 ls (.int (M.1 t 13) :: st) M x := Rs_when (qx_kd_obj (k := 8) (by decide) hk) c195_9 rfl
theorem c195_12 : qx_code 195 12 = some (12, .aload_n 0, 13, 0, 0, 0) := by decide +kernel
theorem s195_12 {L : Nat} {xs : Nat → Int32} {d x : Nat} {M : qxM} {st : List Value} {a1 a2 : Option Value} {z : Nat} : Rs L xs (d) 195 12 [some (.ref z), a1, a2] st M x = Rs L xs (d) 195 13 [some (.ref z), a1, a2] (.ref z :: st) M x := Rs_next c195_12 rfl
theorem c195_13 : qx_code 195 13 = some (13, .getfield 76, 16, 8, 14, 1559) := by decide +kernel
theorem s195_13 {L : Nat} {xs : Nat → Int32} {d x : Nat} {M : qxM} {st : List Value} {ls : qxL} {t : Nat} (hk : qx_kd t = 18) : Rs L xs (d) 195 13 ls (.ref t :: st) M x = Rs L xs (d) 195 16 ls (.int (M.1 t 14) :: st) M x := Rs_when (qx_kd_obj (k := 8) (by decide) hk) c195_13 rfl
theorem c195_16 : qx_code 195 16 = some (16, .isub, 17, 0, 0, 0) := by decide +kernel
theorem s195_16 {L : Nat} {xs : Nat → Int32} {d x : Nat} {M : qxM} {st : List Value} {ls : qxL} {z y : Int32} : Rs L xs (d) 195 16 ls (.int y :: .int z :: st) M x = Rs L xs (d) 195 17 ls (.int (z - y) :: st) M x := Rs_next c195_16 rfl
theorem c195_17 : qx_code 195 17 = some (17, .aload_n 1, 18, 0, 0, 0) := by decide +kernel
theorem s195_17 {L : Nat} {xs : Nat → Int32} {d x : Nat} {M : qxM} {st : List Value} {a0 a2 : Option Value} {z : Nat} : Rs L xs (d) 195 17 [a0, some (.ref z), a2] st M x = Rs L xs (d) 195 18 [a0, some (.ref z), a2] (.ref z :: st) M x := Rs_next c195_17 rfl
theorem c195_18 : qx_code 195 18 = some (18, .invokevirtual 95, 21, 1000, 1, 1680) := by decide +kernel
theorem s195_18 {L : Nat} {xs : Nat → Int32} {d x : Nat} {M : qxM} {st : List Value} {ls : qxL} {k : Nat} (hk : 1 ≤ k ∧ k ≤ 5 ∨ 21 ≤ k ∧ k < 26) (hs : st.length ≤ 4) : Rs L xs (d) 195 18 ls (.ref (500 + k) :: st) M x = Rs L xs (d) 195 21 ls (.int (nI (qx_txc k).length) :: st) M x := by
  have h1 : qx_act L xs (qx_rt 195) (18, .invokevirtual 95, 21, 1000, 1, 1680) ls (.ref (500 + k) :: st) M = if (501 ≤ 500 + k ∧ 500 + k ≤ 505 ∨ 521 ≤ 500 + k ∧ 500 + k < 526) ∧ st.length ≤ 4 then some (.inl (21, ls, .int (nI (qx_txc (500 + k - 500)).length) :: st, M)) else none := rfl
  rw [Nat.add_sub_cancel_left] at h1
  exact Rs_when ⟨by omega, hs⟩ c195_18 h1
theorem c195_21 : qx_code 195 21 = some (21, .if_icmp .eq 5, 24, 26, 0, 0) := by decide +kernel
theorem s195_21 {L : Nat} {xs : Nat → Int32} {d x : Nat} {M : qxM} {st : List Value} {ls : qxL} {z y : Int32} : Rs L xs (d) 195 21 ls (.int y :: .int z :: st) M x = if z = y then Rs L xs (d) 195 26 ls st M x else Rs L xs (d) 195 24 ls st M x := Rs_ite c195_21 rfl
theorem c195_24 : qx_code 195 24 = some (24, .iconst 0, 25, 0, 0, 0) := by decide +kernel
theorem s195_24 {L : Nat} {xs : Nat → Int32} {d x : Nat} {M : qxM} {st : List Value} {ls : qxL} : Rs L xs (d) 195 24 ls st M x = Rs L xs (d) 195 25 ls (.int (nI 0) :: st) M x := Rs_next c195_24 rfl
theorem c195_25 : qx_code 195 25 = some (25, .ireturn, 26, 0, 0, 0) := by decide +kernel
theorem s195_25 {L : Nat} {xs : Nat → Int32} {d x : Nat} {M : qxM} {ls : qxL} {z : Int32} (h01 : z = 0 ∨ z = 1) : Rs L xs (d) 195 25 ls [.int z] M x = some (.inl (some (.int z)), M, x) := Rs_retw h01 c195_25 rfl
theorem c195_26 : qx_code 195 26 = some (26, .iconst 0, 27, 0, 0, 0) := by decide +kernel
theorem s195_26 {L : Nat} {xs : Nat → Int32} {d x : Nat} {M : qxM} {st : List Value} {ls : qxL} : Rs L xs (d) 195 26 ls st M x = Rs L xs (d) 195 27 ls (.int (nI 0) :: st) M x := Rs_next c195_26 rfl
theorem c195_27 : qx_code 195 27 = some (27, .istore_n 2, 28, 0, 0, 0) := by decide +kernel
theorem s195_27i {L : Nat} {xs : Nat → Int32} {d x : Nat} {M : qxM} {st : List Value} {a0 a2 : Option Value} {z : Int32} {y : Int32} : Rs L xs (d) 195 27 [a0, some (.int y), a2] (.int z :: st) M x = Rs L xs (d) 195 28 [a0, some (.int y), some (.int z)] st M x := Rs_next c195_27 rfl
theorem s195_27r {L : Nat} {xs : Nat → Int32} {d x : Nat} {M : qxM} {st : List Value} {a0 a2 : Option Value} {z : Int32} {y : Nat} : Rs L xs (d) 195 27 [a0, some (.ref y), a2] (.int z :: st) M x = Rs L xs (d) 195 28 [a0, some (.ref y), some (.int z)] st M x := Rs_next c195_27 rfl
theorem s195_27n {L : Nat} {xs : Nat → Int32} {d x : Nat} {M : qxM} {st : List Value} {a0 a2 : Option Value} {z : Int32} : Rs L xs (d) 195 27 [a0, none, a2] (.int z :: st) M x = Rs L xs (d) 195 28 [a0, none, some (.int z)] st M x := Rs_next c195_27 rfl
theorem c195_28 : qx_code 195 28 = some (28, .iload_n 2, 29, 0, 0, 0) := by decide +kernel
theorem s195_28 {L : Nat} {xs : Nat → Int32} {d x : Nat} {M : qxM} {st : List Value} {a0 a1 : Option Value} {z : Int32} : Rs L xs (d) 195 28 [a0, a1, some (.int z)] st M x = Rs L xs (d) 195 29 [a0, a1, some (.int z)] (.int z :: st) M x := Rs_next c195_28 rfl
theorem c195_29 : qx_code 195 29 = some (29, .aload_n 1, 30, 0, 0, 0) := by decide +kernel
theorem s195_29 {L : Nat} {xs : Nat → Int32} {d x : Nat} {M : qxM} {st : List Value} {a0 a2 : Option Value} {z : Nat} : Rs L xs (d) 195 29 [a0, some (.ref z), a2] st M x = Rs L xs (d) 195 30 [a0, some (.ref z), a2] (.ref z :: st) M x := Rs_next c195_29 rfl
theorem c195_30 : qx_code 195 30 = some (30, .invokevirtual 95, 33, 1000, 1, 1680) := by decide +kernel
theorem s195_30 {L : Nat} {xs : Nat → Int32} {d x : Nat} {M : qxM} {st : List Value} {ls : qxL} {k : Nat} (hk : 1 ≤ k ∧ k ≤ 5 ∨ 21 ≤ k ∧ k < 26) (hs : st.length ≤ 4) : Rs L xs (d) 195 30 ls (.ref (500 + k) :: st) M x = Rs L xs (d) 195 33 ls (.int (nI (qx_txc k).length) :: st) M x := by
  have h1 : qx_act L xs (qx_rt 195) (30, .invokevirtual 95, 33, 1000, 1, 1680) ls (.ref (500 + k) :: st) M = if (501 ≤ 500 + k ∧ 500 + k ≤ 505 ∨ 521 ≤ 500 + k ∧ 500 + k < 526) ∧ st.length ≤ 4 then some (.inl (33, ls, .int (nI (qx_txc (500 + k - 500)).length) :: st, M)) else none := rfl
  rw [Nat.add_sub_cancel_left] at h1
  exact Rs_when ⟨by omega, hs⟩ c195_30 h1
theorem c195_33 : qx_code 195 33 = some (33, .if_icmp .ge 30, 36, 63, 0, 0) := by decide +kernel
theorem s195_33 {L : Nat} {xs : Nat → Int32} {d x : Nat} {M : qxM} {st : List Value} {ls : qxL} {z y : Int32} : Rs L xs (d) 195 33 ls (.int y :: .int z :: st) M x = if y ≤ z then Rs L xs (d) 195 63 ls st M x else Rs L xs (d) 195 36 ls st M x := Rs_ite c195_33 rfl
theorem c195_36 : qx_code 195 36 = some (36, .aload_n 0, 37, 0, 0, 0) := by decide +kernel
theorem s195_36 {L : Nat} {xs : Nat → Int32} {d x : Nat} {M : qxM} {st : List Value} {a1 a2 : Option Value} {z : Nat} : Rs L xs (d) 195 36 [some (.ref z), a1, a2] st M x = Rs L xs (d) 195 37 [some (.ref z), a1, a2] (.ref z :: st) M x := Rs_next c195_36 rfl
theorem c195_37 : qx_code 195 37 = some (37, .getfield 26, 40, 8, 8, 1553) := by decide +kernel
theorem s195_37 {L : Nat} {xs : Nat → Int32} {d x : Nat} {M : qxM} {st : List Value} {ls : qxL} {t : Nat} (hk : qx_kd t = 18) : Rs L xs (d) 195 37 ls (.ref t :: st) M x = Rs L xs (d) 195 40 ls (.ref (t + 6) :: st) M x := Rs_when (qx_kd_obj (k := 8) (by decide) hk) c195_37 rfl
theorem c195_40 : qx_code 195 40 = some (40, .aload_n 0, 41, 0, 0, 0) := by decide +kernel
theorem s195_40 {L : Nat} {xs : Nat → Int32} {d x : Nat} {M : qxM} {st : List Value} {a1 a2 : Option Value} {z : Nat} : Rs L xs (d) 195 40 [some (.ref z), a1, a2] st M x = Rs L xs (d) 195 41 [some (.ref z), a1, a2] (.ref z :: st) M x := Rs_next c195_40 rfl
theorem c195_41 : qx_code 195 41 = some (41, .getfield 76, 44, 8, 14, 1559) := by decide +kernel
theorem s195_41 {L : Nat} {xs : Nat → Int32} {d x : Nat} {M : qxM} {st : List Value} {ls : qxL} {t : Nat} (hk : qx_kd t = 18) : Rs L xs (d) 195 41 ls (.ref t :: st) M x = Rs L xs (d) 195 44 ls (.int (M.1 t 14) :: st) M x := Rs_when (qx_kd_obj (k := 8) (by decide) hk) c195_41 rfl
theorem c195_44 : qx_code 195 44 = some (44, .iload_n 2, 45, 0, 0, 0) := by decide +kernel
theorem s195_44 {L : Nat} {xs : Nat → Int32} {d x : Nat} {M : qxM} {st : List Value} {a0 a1 : Option Value} {z : Int32} : Rs L xs (d) 195 44 [a0, a1, some (.int z)] st M x = Rs L xs (d) 195 45 [a0, a1, some (.int z)] (.int z :: st) M x := Rs_next c195_44 rfl
theorem c195_45 : qx_code 195 45 = some (45, .iadd, 46, 0, 0, 0) := by decide +kernel
theorem s195_45 {L : Nat} {xs : Nat → Int32} {d x : Nat} {M : qxM} {st : List Value} {ls : qxL} {z y : Int32} : Rs L xs (d) 195 45 ls (.int y :: .int z :: st) M x = Rs L xs (d) 195 46 ls (.int (z + y) :: st) M x := Rs_next c195_45 rfl
theorem c195_46 : qx_code 195 46 = some (46, .baload, 47, 0, 0, 0) := by decide +kernel
theorem s195_46 {L : Nat} {xs : Nat → Int32} {d x : Nat} {M : qxM} {st : List Value} {ls : qxL} {t : Nat} {j : Int32} (hk : qx_kd t = 1) (hj : qx_ib j (qx_ln t) = true) : Rs L xs (d) 195 46 ls (.int j :: .ref t :: st) M x = Rs L xs (d) 195 47 ls (.int (M.1 t j.toNatClampNeg) :: st) M x := by
  have h1 := qx_kd_row (k := 1) (by decide) hk
  exact Rs_unless (qx_ib_not hj) c195_46 (by unfold qx_act; dsimp only; rw [h1]; rfl)
theorem s195_46z {L : Nat} {xs : Nat → Int32} {d x : Nat} {M : qxM} {st : List Value} {ls : qxL} {t : Nat} {j : Int32} (hk : qx_kd t = 2) (hj : qx_ib j (qx_ln t) = true) : Rs L xs (d) 195 46 ls (.int j :: .ref t :: st) M x = Rs L xs (d) 195 47 ls (.int (M.1 t j.toNatClampNeg) :: st) M x := by
  have h1 := qx_kd_row (k := 2) (by decide) hk
  exact Rs_unless (qx_ib_not hj) c195_46 (by unfold qx_act; dsimp only; rw [h1]; rfl)
theorem c195_47 : qx_code 195 47 = some (47, .aload_n 1, 48, 0, 0, 0) := by decide +kernel
theorem s195_47 {L : Nat} {xs : Nat → Int32} {d x : Nat} {M : qxM} {st : List Value} {a0 a2 : Option Value} {z : Nat} : Rs L xs (d) 195 47 [a0, some (.ref z), a2] st M x = Rs L xs (d) 195 48 [a0, some (.ref z), a2] (.ref z :: st) M x := Rs_next c195_47 rfl
theorem c195_48 : qx_code 195 48 = some (48, .iload_n 2, 49, 0, 0, 0) := by decide +kernel
theorem s195_48 {L : Nat} {xs : Nat → Int32} {d x : Nat} {M : qxM} {st : List Value} {a0 a1 : Option Value} {z : Int32} : Rs L xs (d) 195 48 [a0, a1, some (.int z)] st M x = Rs L xs (d) 195 49 [a0, a1, some (.int z)] (.int z :: st) M x := Rs_next c195_48 rfl
theorem c195_49 : qx_code 195 49 = some (49, .invokevirtual 101, 52, 1001, 2, 1681) := by decide +kernel
theorem s195_49 {L : Nat} {xs : Nat → Int32} {d x : Nat} {M : qxM} {st : List Value} {ls : qxL} {k : Nat} {j : Int32} (hk : 1 ≤ k ∧ k ≤ 5 ∨ 21 ≤ k ∧ k < 26) (hs : st.length ≤ 4) (hj : qx_ib j (qx_txc k).length = true) : Rs L xs (d) 195 49 ls (.int j :: .ref (500 + k) :: st) M x = Rs L xs (d) 195 52 ls (.int (nI ((qx_txc k).getD j.toNatClampNeg 0)) :: st) M x := by
  have h1 : qx_act L xs (qx_rt 195) (49, .invokevirtual 101, 52, 1001, 2, 1681) ls (.int j :: .ref (500 + k) :: st) M = if (501 ≤ 500 + k ∧ 500 + k ≤ 505 ∨ 521 ≤ 500 + k ∧ 500 + k < 526) ∧ st.length ≤ 4 ∧ ¬ (j < 0 ∨ (qx_txc (500 + k - 500)).length ≤ j.toNatClampNeg) then some (.inl (52, ls, .int (nI ((qx_txc (500 + k - 500)).getD j.toNatClampNeg 0)) :: st, M)) else none := rfl
  rw [Nat.add_sub_cancel_left] at h1
  exact Rs_when ⟨by omega, hs, qx_ib_not hj⟩ c195_49 h1
theorem c195_52 : qx_code 195 52 = some (52, .if_icmp .eq 5, 55, 57, 0, 0) := by decide +kernel
theorem s195_52 {L : Nat} {xs : Nat → Int32} {d x : Nat} {M : qxM} {st : List Value} {ls : qxL} {z y : Int32} : Rs L xs (d) 195 52 ls (.int y :: .int z :: st) M x = if z = y then Rs L xs (d) 195 57 ls st M x else Rs L xs (d) 195 55 ls st M x := Rs_ite c195_52 rfl
theorem c195_55 : qx_code 195 55 = some (55, .iconst 0, 56, 0, 0, 0) := by decide +kernel
theorem s195_55 {L : Nat} {xs : Nat → Int32} {d x : Nat} {M : qxM} {st : List Value} {ls : qxL} : Rs L xs (d) 195 55 ls st M x = Rs L xs (d) 195 56 ls (.int (nI 0) :: st) M x := Rs_next c195_55 rfl
theorem c195_56 : qx_code 195 56 = some (56, .ireturn, 57, 0, 0, 0) := by decide +kernel
theorem s195_56 {L : Nat} {xs : Nat → Int32} {d x : Nat} {M : qxM} {ls : qxL} {z : Int32} (h01 : z = 0 ∨ z = 1) : Rs L xs (d) 195 56 ls [.int z] M x = some (.inl (some (.int z)), M, x) := Rs_retw h01 c195_56 rfl
theorem c195_57 : qx_code 195 57 = some (57, .iinc 2 1, 60, 0, 0, 0) := by decide +kernel
theorem s195_57i {L : Nat} {xs : Nat → Int32} {d x : Nat} {M : qxM} {st : List Value} {a0 : Option Value} {z : Int32} {y : Int32} : Rs L xs (d) 195 57 [a0, some (.int y), some (.int z)] st M x = Rs L xs (d) 195 60 [a0, some (.int y), some (.int (z + (nI 1)))] st M x := Rs_next c195_57 rfl
theorem s195_57r {L : Nat} {xs : Nat → Int32} {d x : Nat} {M : qxM} {st : List Value} {a0 : Option Value} {z : Int32} {y : Nat} : Rs L xs (d) 195 57 [a0, some (.ref y), some (.int z)] st M x = Rs L xs (d) 195 60 [a0, some (.ref y), some (.int (z + (nI 1)))] st M x := Rs_next c195_57 rfl
theorem s195_57n {L : Nat} {xs : Nat → Int32} {d x : Nat} {M : qxM} {st : List Value} {a0 : Option Value} {z : Int32} : Rs L xs (d) 195 57 [a0, none, some (.int z)] st M x = Rs L xs (d) 195 60 [a0, none, some (.int (z + (nI 1)))] st M x := Rs_next c195_57 rfl
theorem c195_60 : qx_code 195 60 = some (60, .goto (-32), 63, 28, 0, 0) := by decide +kernel
theorem s195_60 {L : Nat} {xs : Nat → Int32} {d x : Nat} {M : qxM} {st : List Value} {ls : qxL} : Rs L xs (d) 195 60 ls st M x = Rs L xs (d) 195 28 ls st M x := Rs_next c195_60 rfl
theorem c195_63 : qx_code 195 63 = some (63, .iconst 1, 64, 0, 0, 0) := by decide +kernel
theorem s195_63 {L : Nat} {xs : Nat → Int32} {d x : Nat} {M : qxM} {st : List Value} {ls : qxL} : Rs L xs (d) 195 63 ls st M x = Rs L xs (d) 195 64 ls (.int (nI 1) :: st) M x := Rs_next c195_63 rfl
theorem c195_64 : qx_code 195 64 = some (64, .ireturn, 65, 0, 0, 0) := by decide +kernel
theorem s195_64 {L : Nat} {xs : Nat → Int32} {d x : Nat} {M : qxM} {ls : qxL} {z : Int32} (h01 : z = 0 ∨ z = 1) : Rs L xs (d) 195 64 ls [.int z] M x = some (.inl (some (.int z)), M, x) := Rs_retw h01 c195_64 rfl
theorem c196_0 : qx_code 196 0 = some (0, .aload_n 0, 1, 0, 0, 0) := by decide +kernel
theorem s196_0 {L : Nat} {xs : Nat → Int32} {d x : Nat} {M : qxM} {st : List Value} {a1 a2 : Option Value} {z : Nat} : Rs L xs (d) 196 0 [some (.ref z), a1, a2] st M x = Rs L xs (d) 196 1 [some (.ref z), a1, a2] (.ref z :: st) M x := Rs_next c196_0 rfl
theorem c196_1 : qx_code 196 1 = some (1, .iconst 3, 2, 0, 0, 0) := by decide +kernel
theorem s196_1 {L : Nat} {xs : Nat → Int32} {d x : Nat} {M : qxM} {st : List Value} {ls : qxL} : Rs L xs (d) 196 1 ls st M x = Rs L xs (d) 196 2 ls (.int (nI 3) :: st) M x := Rs_next c196_1 rfl
theorem c196_2 : qx_code 196 2 = some (2, .invokevirtual 92, 5, 194, 2, 1676) := by decide +kernel
theorem s196_2 {L : Nat} {xs : Nat → Int32} {d x : Nat} {M : qxM} {st : List Value} {ls : qxL} {t : Nat} {z0 : Int32} (hk : qx_kd t = 18) (hs : st.length ≤ 4) : Rs L xs (d + 1) 196 2 ls (.int z0 :: .ref t :: st) M x = (Rs L xs d 194 0 [some (.ref t), some (.int z0)] [] M 0).bind (qx_kn L xs (d + 1) 196 2 5 194 ls st x) := by
  have h1 : qx_act L xs (qx_rt 196) (2, .invokevirtual 92, 5, 194, 2, 1676) ls (.int z0 :: .ref t :: st) M = if 2 ≤ (.int z0 :: .ref t :: st).length ∧ st.length ≤ 4 then some (.inr (.inr (.inr (194, [.ref t, .int z0], st)))) else none := rfl
  rw [if_pos ⟨by simp [List.length_cons]; try omega, hs⟩] at h1
  have h2 := qx_kd_obj (k := 8) (by decide) hk
  exact Rs_call c196_2 h1 (by rw [show qx_args 194 [.ref t, .int z0] = decide (qx_sh t = some (.inl 8)) from rfl]; exact decide_eq_true h2)
theorem c196_5 : qx_code 196 5 = some (5, .ifCond .ne 11, 8, 16, 0, 0) := by decide +kernel
theorem s196_5 {L : Nat} {xs : Nat → Int32} {d x : Nat} {M : qxM} {st : List Value} {ls : qxL} {z : Int32} : Rs L xs (d) 196 5 ls (.int z :: st) M x = if z = 0 then Rs L xs (d) 196 8 ls st M x else Rs L xs (d) 196 16 ls st M x := Rs_ite c196_5 rfl
theorem c196_8 : qx_code 196 8 = some (8, .aload_n 0, 9, 0, 0, 0) := by decide +kernel
theorem s196_8 {L : Nat} {xs : Nat → Int32} {d x : Nat} {M : qxM} {st : List Value} {a1 a2 : Option Value} {z : Nat} : Rs L xs (d) 196 8 [some (.ref z), a1, a2] st M x = Rs L xs (d) 196 9 [some (.ref z), a1, a2] (.ref z :: st) M x := Rs_next c196_8 rfl
theorem c196_9 : qx_code 196 9 = some (9, .iconst 1, 10, 0, 0, 0) := by decide +kernel
theorem s196_9 {L : Nat} {xs : Nat → Int32} {d x : Nat} {M : qxM} {st : List Value} {ls : qxL} : Rs L xs (d) 196 9 ls st M x = Rs L xs (d) 196 10 ls (.int (nI 1) :: st) M x := Rs_next c196_9 rfl
theorem c196_10 : qx_code 196 10 = some (10, .invokevirtual 105, 13, 193, 2, 1682) := by decide +kernel
theorem s196_10 {L : Nat} {xs : Nat → Int32} {d x : Nat} {M : qxM} {st : List Value} {ls : qxL} {t : Nat} {z0 : Int32} (hk : qx_kd t = 18) (hs : st.length ≤ 4) : Rs L xs (d + 1) 196 10 ls (.int z0 :: .ref t :: st) M x = (Rs L xs d 193 0 [some (.ref t), some (.int z0)] [] M 0).bind (qx_kn L xs (d + 1) 196 10 13 193 ls st x) := by
  have h1 : qx_act L xs (qx_rt 196) (10, .invokevirtual 105, 13, 193, 2, 1682) ls (.int z0 :: .ref t :: st) M = if 2 ≤ (.int z0 :: .ref t :: st).length ∧ st.length ≤ 4 then some (.inr (.inr (.inr (193, [.ref t, .int z0], st)))) else none := rfl
  rw [if_pos ⟨by simp [List.length_cons]; try omega, hs⟩] at h1
  have h2 := qx_kd_obj (k := 8) (by decide) hk
  exact Rs_call c196_10 h1 (by rw [show qx_args 193 [.ref t, .int z0] = decide (qx_sh t = some (.inl 8)) from rfl]; exact decide_eq_true h2)
theorem c196_13 : qx_code 196 13 = some (13, .goto 20, 16, 33, 0, 0) := by decide +kernel
theorem s196_13 {L : Nat} {xs : Nat → Int32} {d x : Nat} {M : qxM} {st : List Value} {ls : qxL} : Rs L xs (d) 196 13 ls st M x = Rs L xs (d) 196 33 ls st M x := Rs_next c196_13 rfl
theorem c196_16 : qx_code 196 16 = some (16, .aload_n 0, 17, 0, 0, 0) := by decide +kernel
theorem s196_16 {L : Nat} {xs : Nat → Int32} {d x : Nat} {M : qxM} {st : List Value} {a1 a2 : Option Value} {z : Nat} : Rs L xs (d) 196 16 [some (.ref z), a1, a2] st M x = Rs L xs (d) 196 17 [some (.ref z), a1, a2] (.ref z :: st) M x := Rs_next c196_16 rfl
theorem c196_17 : qx_code 196 17 = some (17, .getfield 89, 20, 8, 16, 1561) := by decide +kernel
theorem s196_17 {L : Nat} {xs : Nat → Int32} {d x : Nat} {M : qxM} {st : List Value} {ls : qxL} {t : Nat} (hk : qx_kd t = 18) : Rs L xs (d) 196 17 ls (.ref t :: st) M x = Rs L xs (d) 196 20 ls (.int (M.1 t 16) :: st) M x := Rs_when (qx_kd_obj (k := 8) (by decide) hk) c196_17 rfl
theorem c196_20 : qx_code 196 20 = some (20, .iload_n 1, 21, 0, 0, 0) := by decide +kernel
theorem s196_20 {L : Nat} {xs : Nat → Int32} {d x : Nat} {M : qxM} {st : List Value} {a0 a2 : Option Value} {z : Int32} : Rs L xs (d) 196 20 [a0, some (.int z), a2] st M x = Rs L xs (d) 196 21 [a0, some (.int z), a2] (.int z :: st) M x := Rs_next c196_20 rfl
theorem c196_21 : qx_code 196 21 = some (21, .iload_n 2, 22, 0, 0, 0) := by decide +kernel
theorem s196_21 {L : Nat} {xs : Nat → Int32} {d x : Nat} {M : qxM} {st : List Value} {a0 a1 : Option Value} {z : Int32} : Rs L xs (d) 196 21 [a0, a1, some (.int z)] st M x = Rs L xs (d) 196 22 [a0, a1, some (.int z)] (.int z :: st) M x := Rs_next c196_21 rfl
theorem c196_22 : qx_code 196 22 = some (22, .invokestatic 69, 25, 178, 3, 1641) := by decide +kernel
theorem s196_22 {L : Nat} {xs : Nat → Int32} {d x : Nat} {M : qxM} {st : List Value} {ls : qxL} {z0 : Int32} {z1 : Int32} {z2 : Int32} (hs : st.length ≤ 4) : Rs L xs (d + 1) 196 22 ls (.int z2 :: .int z1 :: .int z0 :: st) M x = (Rs L xs d 178 0 [some (.int z0), some (.int z1), some (.int z2)] [] M 0).bind (qx_kn L xs (d + 1) 196 22 25 178 ls st x) := by
  have h1 : qx_act L xs (qx_rt 196) (22, .invokestatic 69, 25, 178, 3, 1641) ls (.int z2 :: .int z1 :: .int z0 :: st) M = if 3 ≤ (.int z2 :: .int z1 :: .int z0 :: st).length ∧ st.length ≤ 4 then some (.inr (.inr (.inr (178, [.int z0, .int z1, .int z2], st)))) else none := rfl
  rw [if_pos ⟨by simp [List.length_cons]; try omega, hs⟩] at h1
  exact Rs_call c196_22 h1 rfl
theorem c196_25 : qx_code 196 25 = some (25, .ifCond .ne 8, 28, 33, 0, 0) := by decide +kernel
theorem s196_25 {L : Nat} {xs : Nat → Int32} {d x : Nat} {M : qxM} {st : List Value} {ls : qxL} {z : Int32} : Rs L xs (d) 196 25 ls (.int z :: st) M x = if z = 0 then Rs L xs (d) 196 28 ls st M x else Rs L xs (d) 196 33 ls st M x := Rs_ite c196_25 rfl
theorem c196_28 : qx_code 196 28 = some (28, .aload_n 0, 29, 0, 0, 0) := by decide +kernel
theorem s196_28 {L : Nat} {xs : Nat → Int32} {d x : Nat} {M : qxM} {st : List Value} {a1 a2 : Option Value} {z : Nat} : Rs L xs (d) 196 28 [some (.ref z), a1, a2] st M x = Rs L xs (d) 196 29 [some (.ref z), a1, a2] (.ref z :: st) M x := Rs_next c196_28 rfl
theorem c196_29 : qx_code 196 29 = some (29, .iconst 2, 30, 0, 0, 0) := by decide +kernel
theorem s196_29 {L : Nat} {xs : Nat → Int32} {d x : Nat} {M : qxM} {st : List Value} {ls : qxL} : Rs L xs (d) 196 29 ls st M x = Rs L xs (d) 196 30 ls (.int (nI 2) :: st) M x := Rs_next c196_29 rfl
theorem c196_30 : qx_code 196 30 = some (30, .invokevirtual 105, 33, 193, 2, 1682) := by decide +kernel
theorem s196_30 {L : Nat} {xs : Nat → Int32} {d x : Nat} {M : qxM} {st : List Value} {ls : qxL} {t : Nat} {z0 : Int32} (hk : qx_kd t = 18) (hs : st.length ≤ 4) : Rs L xs (d + 1) 196 30 ls (.int z0 :: .ref t :: st) M x = (Rs L xs d 193 0 [some (.ref t), some (.int z0)] [] M 0).bind (qx_kn L xs (d + 1) 196 30 33 193 ls st x) := by
  have h1 : qx_act L xs (qx_rt 196) (30, .invokevirtual 105, 33, 193, 2, 1682) ls (.int z0 :: .ref t :: st) M = if 2 ≤ (.int z0 :: .ref t :: st).length ∧ st.length ≤ 4 then some (.inr (.inr (.inr (193, [.ref t, .int z0], st)))) else none := rfl
  rw [if_pos ⟨by simp [List.length_cons]; try omega, hs⟩] at h1
  have h2 := qx_kd_obj (k := 8) (by decide) hk
  exact Rs_call c196_30 h1 (by rw [show qx_args 193 [.ref t, .int z0] = decide (qx_sh t = some (.inl 8)) from rfl]; exact decide_eq_true h2)
theorem c196_33 : qx_code 196 33 = some (33, .aload_n 0, 34, 0, 0, 0) := by decide +kernel
theorem s196_33 {L : Nat} {xs : Nat → Int32} {d x : Nat} {M : qxM} {st : List Value} {a1 a2 : Option Value} {z : Nat} : Rs L xs (d) 196 33 [some (.ref z), a1, a2] st M x = Rs L xs (d) 196 34 [some (.ref z), a1, a2] (.ref z :: st) M x := Rs_next c196_33 rfl
theorem c196_34 : qx_code 196 34 = some (34, .getfield 63, 37, 8, 10, 1555) := by decide +kernel
theorem s196_34 {L : Nat} {xs : Nat → Int32} {d x : Nat} {M : qxM} {st : List Value} {ls : qxL} {t : Nat} (hk : qx_kd t = 18) : Rs L xs (d) 196 34 ls (.ref t :: st) M x = Rs L xs (d) 196 37 ls (.int (M.1 t 10) :: st) M x := Rs_when (qx_kd_obj (k := 8) (by decide) hk) c196_34 rfl
theorem c196_37 : qx_code 196 37 = some (37, .ifCond .le 7, 40, 44, 0, 0) := by decide +kernel
theorem s196_37 {L : Nat} {xs : Nat → Int32} {d x : Nat} {M : qxM} {st : List Value} {ls : qxL} {z : Int32} : Rs L xs (d) 196 37 ls (.int z :: st) M x = if z ≤ 0 then Rs L xs (d) 196 44 ls st M x else Rs L xs (d) 196 40 ls st M x := Rs_ite c196_37 rfl
theorem c196_40 : qx_code 196 40 = some (40, .iload_n 1, 41, 0, 0, 0) := by decide +kernel
theorem s196_40 {L : Nat} {xs : Nat → Int32} {d x : Nat} {M : qxM} {st : List Value} {a0 a2 : Option Value} {z : Int32} : Rs L xs (d) 196 40 [a0, some (.int z), a2] st M x = Rs L xs (d) 196 41 [a0, some (.int z), a2] (.int z :: st) M x := Rs_next c196_40 rfl
theorem c196_41 : qx_code 196 41 = some (41, .goto 7, 44, 48, 0, 0) := by decide +kernel
theorem s196_41 {L : Nat} {xs : Nat → Int32} {d x : Nat} {M : qxM} {st : List Value} {ls : qxL} : Rs L xs (d) 196 41 ls st M x = Rs L xs (d) 196 48 ls st M x := Rs_next c196_41 rfl
theorem c196_44 : qx_code 196 44 = some (44, .aload_n 0, 45, 0, 0, 0) := by decide +kernel
theorem s196_44 {L : Nat} {xs : Nat → Int32} {d x : Nat} {M : qxM} {st : List Value} {a1 a2 : Option Value} {z : Nat} : Rs L xs (d) 196 44 [some (.ref z), a1, a2] st M x = Rs L xs (d) 196 45 [some (.ref z), a1, a2] (.ref z :: st) M x := Rs_next c196_44 rfl
theorem c196_45 : qx_code 196 45 = some (45, .getfield 89, 48, 8, 16, 1561) := by decide +kernel
theorem s196_45 {L : Nat} {xs : Nat → Int32} {d x : Nat} {M : qxM} {st : List Value} {ls : qxL} {t : Nat} (hk : qx_kd t = 18) : Rs L xs (d) 196 45 ls (.ref t :: st) M x = Rs L xs (d) 196 48 ls (.int (M.1 t 16) :: st) M x := Rs_when (qx_kd_obj (k := 8) (by decide) hk) c196_45 rfl
theorem c196_48 : qx_code 196 48 = some (48, .ireturn, 49, 0, 0, 0) := by decide +kernel
theorem s196_48 {L : Nat} {xs : Nat → Int32} {d x : Nat} {M : qxM} {ls : qxL} {z : Int32} : Rs L xs (d) 196 48 ls [.int z] M x = some (.inl (some (.int z)), M, x) := Rs_ret c196_48 rfl
theorem c197_0 : qx_code 197 0 = some (0, .aload_n 0, 1, 0, 0, 0) := by decide +kernel
theorem s197_0 {L : Nat} {xs : Nat → Int32} {d x : Nat} {M : qxM} {st : List Value} {a1 a2 a3 : Option Value} {z : Nat} : Rs L xs (d) 197 0 [some (.ref z), a1, a2, a3] st M x = Rs L xs (d) 197 1 [some (.ref z), a1, a2, a3] (.ref z :: st) M x := Rs_next c197_0 rfl
theorem c197_1 : qx_code 197 1 = some (1, .iload_n 1, 2, 0, 0, 0) := by decide +kernel
theorem s197_1 {L : Nat} {xs : Nat → Int32} {d x : Nat} {M : qxM} {st : List Value} {a0 a2 a3 : Option Value} {z : Int32} : Rs L xs (d) 197 1 [a0, some (.int z), a2, a3] st M x = Rs L xs (d) 197 2 [a0, some (.int z), a2, a3] (.int z :: st) M x := Rs_next c197_1 rfl
theorem c197_2 : qx_code 197 2 = some (2, .iload_n 2, 3, 0, 0, 0) := by decide +kernel
theorem s197_2 {L : Nat} {xs : Nat → Int32} {d x : Nat} {M : qxM} {st : List Value} {a0 a1 a3 : Option Value} {z : Int32} : Rs L xs (d) 197 2 [a0, a1, some (.int z), a3] st M x = Rs L xs (d) 197 3 [a0, a1, some (.int z), a3] (.int z :: st) M x := Rs_next c197_2 rfl
theorem c197_3 : qx_code 197 3 = some (3, .invokevirtual 108, 6, 196, 3, 1690) := by decide +kernel
theorem s197_3 {L : Nat} {xs : Nat → Int32} {d x : Nat} {M : qxM} {st : List Value} {ls : qxL} {t : Nat} {z0 : Int32} {z1 : Int32} (hk : qx_kd t = 18) (hs : st.length ≤ 4) : Rs L xs (d + 1) 197 3 ls (.int z1 :: .int z0 :: .ref t :: st) M x = (Rs L xs d 196 0 [some (.ref t), some (.int z0), some (.int z1)] [] M 0).bind (qx_kn L xs (d + 1) 197 3 6 196 ls st x) := by
  have h1 : qx_act L xs (qx_rt 197) (3, .invokevirtual 108, 6, 196, 3, 1690) ls (.int z1 :: .int z0 :: .ref t :: st) M = if 3 ≤ (.int z1 :: .int z0 :: .ref t :: st).length ∧ st.length ≤ 4 then some (.inr (.inr (.inr (196, [.ref t, .int z0, .int z1], st)))) else none := rfl
  rw [if_pos ⟨by simp [List.length_cons]; try omega, hs⟩] at h1
  have h2 := qx_kd_obj (k := 8) (by decide) hk
  exact Rs_call c197_3 h1 (by rw [show qx_args 196 [.ref t, .int z0, .int z1] = decide (qx_sh t = some (.inl 8)) from rfl]; exact decide_eq_true h2)
theorem c197_6 : qx_code 197 6 = some (6, .istore_n 3, 7, 0, 0, 0) := by decide +kernel
theorem s197_6i {L : Nat} {xs : Nat → Int32} {d x : Nat} {M : qxM} {st : List Value} {a0 a1 a3 : Option Value} {z : Int32} {y : Int32} : Rs L xs (d) 197 6 [a0, a1, some (.int y), a3] (.int z :: st) M x = Rs L xs (d) 197 7 [a0, a1, some (.int y), some (.int z)] st M x := Rs_next c197_6 rfl
theorem s197_6r {L : Nat} {xs : Nat → Int32} {d x : Nat} {M : qxM} {st : List Value} {a0 a1 a3 : Option Value} {z : Int32} {y : Nat} : Rs L xs (d) 197 6 [a0, a1, some (.ref y), a3] (.int z :: st) M x = Rs L xs (d) 197 7 [a0, a1, some (.ref y), some (.int z)] st M x := Rs_next c197_6 rfl
theorem s197_6n {L : Nat} {xs : Nat → Int32} {d x : Nat} {M : qxM} {st : List Value} {a0 a1 a3 : Option Value} {z : Int32} : Rs L xs (d) 197 6 [a0, a1, none, a3] (.int z :: st) M x = Rs L xs (d) 197 7 [a0, a1, none, some (.int z)] st M x := Rs_next c197_6 rfl
theorem c197_7 : qx_code 197 7 = some (7, .aload_n 0, 8, 0, 0, 0) := by decide +kernel
theorem s197_7 {L : Nat} {xs : Nat → Int32} {d x : Nat} {M : qxM} {st : List Value} {a1 a2 a3 : Option Value} {z : Nat} : Rs L xs (d) 197 7 [some (.ref z), a1, a2, a3] st M x = Rs L xs (d) 197 8 [some (.ref z), a1, a2, a3] (.ref z :: st) M x := Rs_next c197_7 rfl
theorem c197_8 : qx_code 197 8 = some (8, .invokevirtual 112, 11, 192, 1, 1659) := by decide +kernel
theorem s197_8 {L : Nat} {xs : Nat → Int32} {d x : Nat} {M : qxM} {st : List Value} {ls : qxL} {t : Nat} (hk : qx_kd t = 18) (hs : st.length ≤ 4) : Rs L xs (d + 1) 197 8 ls (.ref t :: st) M x = (Rs L xs d 192 0 [some (.ref t)] [] M 0).bind (qx_kn L xs (d + 1) 197 8 11 192 ls st x) := by
  have h1 : qx_act L xs (qx_rt 197) (8, .invokevirtual 112, 11, 192, 1, 1659) ls (.ref t :: st) M = if 1 ≤ (.ref t :: st).length ∧ st.length ≤ 4 then some (.inr (.inr (.inr (192, [.ref t], st)))) else none := rfl
  rw [if_pos ⟨by simp [List.length_cons]; try omega, hs⟩] at h1
  have h2 := qx_kd_obj (k := 8) (by decide) hk
  exact Rs_call c197_8 h1 (by rw [show qx_args 192 [.ref t] = decide (qx_sh t = some (.inl 8)) from rfl]; exact decide_eq_true h2)
theorem c197_11 : qx_code 197 11 = some (11, .iload_n 3, 12, 0, 0, 0) := by decide +kernel
theorem s197_11 {L : Nat} {xs : Nat → Int32} {d x : Nat} {M : qxM} {st : List Value} {a0 a1 a2 : Option Value} {z : Int32} : Rs L xs (d) 197 11 [a0, a1, a2, some (.int z)] st M x = Rs L xs (d) 197 12 [a0, a1, a2, some (.int z)] (.int z :: st) M x := Rs_next c197_11 rfl
theorem c197_12 : qx_code 197 12 = some (12, .ireturn, 13, 0, 0, 0) := by decide +kernel
theorem s197_12 {L : Nat} {xs : Nat → Int32} {d x : Nat} {M : qxM} {ls : qxL} {z : Int32} : Rs L xs (d) 197 12 ls [.int z] M x = some (.inl (some (.int z)), M, x) := Rs_ret c197_12 rfl
theorem c198_0 : qx_code 198 0 = some (0, .aload_n 0, 1, 0, 0, 0) := by decide +kernel
theorem s198_0 {L : Nat} {xs : Nat → Int32} {d x : Nat} {M : qxM} {st : List Value} {z : Nat} : Rs L xs (d) 198 0 [some (.ref z)] st M x = Rs L xs (d) 198 1 [some (.ref z)] (.ref z :: st) M x := Rs_next c198_0 rfl
theorem c198_1 : qx_code 198 1 = some (1, .iconst 0, 2, 0, 0, 0) := by decide +kernel
theorem s198_1 {L : Nat} {xs : Nat → Int32} {d x : Nat} {M : qxM} {st : List Value} {ls : qxL} : Rs L xs (d) 198 1 ls st M x = Rs L xs (d) 198 2 ls (.int (nI 0) :: st) M x := Rs_next c198_1 rfl
theorem c198_2 : qx_code 198 2 = some (2, .aload_n 0, 3, 0, 0, 0) := by decide +kernel
theorem s198_2 {L : Nat} {xs : Nat → Int32} {d x : Nat} {M : qxM} {st : List Value} {z : Nat} : Rs L xs (d) 198 2 [some (.ref z)] st M x = Rs L xs (d) 198 3 [some (.ref z)] (.ref z :: st) M x := Rs_next c198_2 rfl
theorem c198_3 : qx_code 198 3 = some (3, .getfield 9, 6, 8, 1, 1546) := by decide +kernel
theorem s198_3 {L : Nat} {xs : Nat → Int32} {d x : Nat} {M : qxM} {st : List Value} {ls : qxL} {t : Nat} (hk : qx_kd t = 18) : Rs L xs (d) 198 3 ls (.ref t :: st) M x = Rs L xs (d) 198 6 ls (.ref (t + 1) :: st) M x := Rs_when (qx_kd_obj (k := 8) (by decide) hk) c198_3 rfl
theorem c198_6 : qx_code 198 6 = some (6, .iconst 0, 7, 0, 0, 0) := by decide +kernel
theorem s198_6 {L : Nat} {xs : Nat → Int32} {d x : Nat} {M : qxM} {st : List Value} {ls : qxL} : Rs L xs (d) 198 6 ls st M x = Rs L xs (d) 198 7 ls (.int (nI 0) :: st) M x := Rs_next c198_6 rfl
theorem c198_7 : qx_code 198 7 = some (7, .iaload, 8, 0, 0, 0) := by decide +kernel
theorem s198_7 {L : Nat} {xs : Nat → Int32} {d x : Nat} {M : qxM} {st : List Value} {ls : qxL} {t : Nat} {j : Int32} (hk : qx_kd t = 0) (hj : qx_ib j (qx_ln t) = true) : Rs L xs (d) 198 7 ls (.int j :: .ref t :: st) M x = Rs L xs (d) 198 8 ls (.int (M.1 t j.toNatClampNeg) :: st) M x := by
  have h1 := qx_kd_row (k := 0) (by decide) hk
  exact Rs_unless (qx_ib_not hj) c198_7 (by unfold qx_act; dsimp only; rw [h1]; rfl)
theorem c198_8 : qx_code 198 8 = some (8, .iconst 1, 9, 0, 0, 0) := by decide +kernel
theorem s198_8 {L : Nat} {xs : Nat → Int32} {d x : Nat} {M : qxM} {st : List Value} {ls : qxL} : Rs L xs (d) 198 8 ls st M x = Rs L xs (d) 198 9 ls (.int (nI 1) :: st) M x := Rs_next c198_8 rfl
theorem c198_9 : qx_code 198 9 = some (9, .isub, 10, 0, 0, 0) := by decide +kernel
theorem s198_9 {L : Nat} {xs : Nat → Int32} {d x : Nat} {M : qxM} {st : List Value} {ls : qxL} {z y : Int32} : Rs L xs (d) 198 9 ls (.int y :: .int z :: st) M x = Rs L xs (d) 198 10 ls (.int (z - y) :: st) M x := Rs_next c198_9 rfl
theorem c198_10 : qx_code 198 10 = some (10, .invokevirtual 108, 13, 196, 3, 1690) := by decide +kernel
theorem s198_10 {L : Nat} {xs : Nat → Int32} {d x : Nat} {M : qxM} {st : List Value} {ls : qxL} {t : Nat} {z0 : Int32} {z1 : Int32} (hk : qx_kd t = 18) (hs : st.length ≤ 4) : Rs L xs (d + 1) 198 10 ls (.int z1 :: .int z0 :: .ref t :: st) M x = (Rs L xs d 196 0 [some (.ref t), some (.int z0), some (.int z1)] [] M 0).bind (qx_kn L xs (d + 1) 198 10 13 196 ls st x) := by
  have h1 : qx_act L xs (qx_rt 198) (10, .invokevirtual 108, 13, 196, 3, 1690) ls (.int z1 :: .int z0 :: .ref t :: st) M = if 3 ≤ (.int z1 :: .int z0 :: .ref t :: st).length ∧ st.length ≤ 4 then some (.inr (.inr (.inr (196, [.ref t, .int z0, .int z1], st)))) else none := rfl
  rw [if_pos ⟨by simp [List.length_cons]; try omega, hs⟩] at h1
  have h2 := qx_kd_obj (k := 8) (by decide) hk
  exact Rs_call c198_10 h1 (by rw [show qx_args 196 [.ref t, .int z0, .int z1] = decide (qx_sh t = some (.inl 8)) from rfl]; exact decide_eq_true h2)
theorem c198_13 : qx_code 198 13 = some (13, .ireturn, 14, 0, 0, 0) := by decide +kernel
theorem s198_13 {L : Nat} {xs : Nat → Int32} {d x : Nat} {M : qxM} {ls : qxL} {z : Int32} : Rs L xs (d) 198 13 ls [.int z] M x = some (.inl (some (.int z)), M, x) := Rs_ret c198_13 rfl
theorem c199_0 : qx_code 199 0 = some (0, .aload_n 0, 1, 0, 0, 0) := by decide +kernel
theorem s199_0 {L : Nat} {xs : Nat → Int32} {d x : Nat} {M : qxM} {st : List Value} {a1 : Option Value} {z : Nat} : Rs L xs (d) 199 0 [some (.ref z), a1] st M x = Rs L xs (d) 199 1 [some (.ref z), a1] (.ref z :: st) M x := Rs_next c199_0 rfl
theorem c199_1 : qx_code 199 1 = some (1, .invokevirtual 115, 4, 198, 1, 1707) := by decide +kernel
theorem s199_1 {L : Nat} {xs : Nat → Int32} {d x : Nat} {M : qxM} {st : List Value} {ls : qxL} {t : Nat} (hk : qx_kd t = 18) (hs : st.length ≤ 4) : Rs L xs (d + 1) 199 1 ls (.ref t :: st) M x = (Rs L xs d 198 0 [some (.ref t)] [] M 0).bind (qx_kn L xs (d + 1) 199 1 4 198 ls st x) := by
  have h1 : qx_act L xs (qx_rt 199) (1, .invokevirtual 115, 4, 198, 1, 1707) ls (.ref t :: st) M = if 1 ≤ (.ref t :: st).length ∧ st.length ≤ 4 then some (.inr (.inr (.inr (198, [.ref t], st)))) else none := rfl
  rw [if_pos ⟨by simp [List.length_cons]; try omega, hs⟩] at h1
  have h2 := qx_kd_obj (k := 8) (by decide) hk
  exact Rs_call c199_1 h1 (by rw [show qx_args 198 [.ref t] = decide (qx_sh t = some (.inl 8)) from rfl]; exact decide_eq_true h2)
theorem c199_4 : qx_code 199 4 = some (4, .istore_n 1, 5, 0, 0, 0) := by decide +kernel
theorem s199_4i {L : Nat} {xs : Nat → Int32} {d x : Nat} {M : qxM} {st : List Value} {a1 : Option Value} {z : Int32} {y : Int32} : Rs L xs (d) 199 4 [some (.int y), a1] (.int z :: st) M x = Rs L xs (d) 199 5 [some (.int y), some (.int z)] st M x := Rs_next c199_4 rfl
theorem s199_4r {L : Nat} {xs : Nat → Int32} {d x : Nat} {M : qxM} {st : List Value} {a1 : Option Value} {z : Int32} {y : Nat} : Rs L xs (d) 199 4 [some (.ref y), a1] (.int z :: st) M x = Rs L xs (d) 199 5 [some (.ref y), some (.int z)] st M x := Rs_next c199_4 rfl
theorem s199_4n {L : Nat} {xs : Nat → Int32} {d x : Nat} {M : qxM} {st : List Value} {a1 : Option Value} {z : Int32} : Rs L xs (d) 199 4 [none, a1] (.int z :: st) M x = Rs L xs (d) 199 5 [none, some (.int z)] st M x := Rs_next c199_4 rfl
theorem c199_5 : qx_code 199 5 = some (5, .aload_n 0, 6, 0, 0, 0) := by decide +kernel
theorem s199_5 {L : Nat} {xs : Nat → Int32} {d x : Nat} {M : qxM} {st : List Value} {a1 : Option Value} {z : Nat} : Rs L xs (d) 199 5 [some (.ref z), a1] st M x = Rs L xs (d) 199 6 [some (.ref z), a1] (.ref z :: st) M x := Rs_next c199_5 rfl
theorem c199_6 : qx_code 199 6 = some (6, .invokevirtual 112, 9, 192, 1, 1659) := by decide +kernel
theorem s199_6 {L : Nat} {xs : Nat → Int32} {d x : Nat} {M : qxM} {st : List Value} {ls : qxL} {t : Nat} (hk : qx_kd t = 18) (hs : st.length ≤ 4) : Rs L xs (d + 1) 199 6 ls (.ref t :: st) M x = (Rs L xs d 192 0 [some (.ref t)] [] M 0).bind (qx_kn L xs (d + 1) 199 6 9 192 ls st x) := by
  have h1 : qx_act L xs (qx_rt 199) (6, .invokevirtual 112, 9, 192, 1, 1659) ls (.ref t :: st) M = if 1 ≤ (.ref t :: st).length ∧ st.length ≤ 4 then some (.inr (.inr (.inr (192, [.ref t], st)))) else none := rfl
  rw [if_pos ⟨by simp [List.length_cons]; try omega, hs⟩] at h1
  have h2 := qx_kd_obj (k := 8) (by decide) hk
  exact Rs_call c199_6 h1 (by rw [show qx_args 192 [.ref t] = decide (qx_sh t = some (.inl 8)) from rfl]; exact decide_eq_true h2)
theorem c199_9 : qx_code 199 9 = some (9, .iload_n 1, 10, 0, 0, 0) := by decide +kernel
theorem s199_9 {L : Nat} {xs : Nat → Int32} {d x : Nat} {M : qxM} {st : List Value} {a0 : Option Value} {z : Int32} : Rs L xs (d) 199 9 [a0, some (.int z)] st M x = Rs L xs (d) 199 10 [a0, some (.int z)] (.int z :: st) M x := Rs_next c199_9 rfl
theorem c199_10 : qx_code 199 10 = some (10, .ireturn, 11, 0, 0, 0) := by decide +kernel
theorem s199_10 {L : Nat} {xs : Nat → Int32} {d x : Nat} {M : qxM} {ls : qxL} {z : Int32} : Rs L xs (d) 199 10 ls [.int z] M x = some (.inl (some (.int z)), M, x) := Rs_ret c199_10 rfl
theorem c200_0 : qx_code 200 0 = some (0, .aload_n 0, 1, 0, 0, 0) := by decide +kernel
theorem s200_0 {L : Nat} {xs : Nat → Int32} {d x : Nat} {M : qxM} {st : List Value} {z : Nat} : Rs L xs (d) 200 0 [some (.ref z)] st M x = Rs L xs (d) 200 1 [some (.ref z)] (.ref z :: st) M x := Rs_next c200_0 rfl
theorem c200_1 : qx_code 200 1 = some (1, .invokevirtual 112, 4, 192, 1, 1659) := by decide +kernel
theorem s200_1 {L : Nat} {xs : Nat → Int32} {d x : Nat} {M : qxM} {st : List Value} {ls : qxL} {t : Nat} (hk : qx_kd t = 18) (hs : st.length ≤ 4) : Rs L xs (d + 1) 200 1 ls (.ref t :: st) M x = (Rs L xs d 192 0 [some (.ref t)] [] M 0).bind (qx_kn L xs (d + 1) 200 1 4 192 ls st x) := by
  have h1 : qx_act L xs (qx_rt 200) (1, .invokevirtual 112, 4, 192, 1, 1659) ls (.ref t :: st) M = if 1 ≤ (.ref t :: st).length ∧ st.length ≤ 4 then some (.inr (.inr (.inr (192, [.ref t], st)))) else none := rfl
  rw [if_pos ⟨by simp [List.length_cons]; try omega, hs⟩] at h1
  have h2 := qx_kd_obj (k := 8) (by decide) hk
  exact Rs_call c200_1 h1 (by rw [show qx_args 192 [.ref t] = decide (qx_sh t = some (.inl 8)) from rfl]; exact decide_eq_true h2)
theorem c200_4 : qx_code 200 4 = some (4, .aload_n 0, 5, 0, 0, 0) := by decide +kernel
theorem s200_4 {L : Nat} {xs : Nat → Int32} {d x : Nat} {M : qxM} {st : List Value} {z : Nat} : Rs L xs (d) 200 4 [some (.ref z)] st M x = Rs L xs (d) 200 5 [some (.ref z)] (.ref z :: st) M x := Rs_next c200_4 rfl
theorem c200_5 : qx_code 200 5 = some (5, .getfield 9, 8, 8, 1, 1546) := by decide +kernel
theorem s200_5 {L : Nat} {xs : Nat → Int32} {d x : Nat} {M : qxM} {st : List Value} {ls : qxL} {t : Nat} (hk : qx_kd t = 18) : Rs L xs (d) 200 5 ls (.ref t :: st) M x = Rs L xs (d) 200 8 ls (.ref (t + 1) :: st) M x := Rs_when (qx_kd_obj (k := 8) (by decide) hk) c200_5 rfl
theorem c200_8 : qx_code 200 8 = some (8, .iconst 2, 9, 0, 0, 0) := by decide +kernel
theorem s200_8 {L : Nat} {xs : Nat → Int32} {d x : Nat} {M : qxM} {st : List Value} {ls : qxL} : Rs L xs (d) 200 8 ls st M x = Rs L xs (d) 200 9 ls (.int (nI 2) :: st) M x := Rs_next c200_8 rfl
theorem c200_9 : qx_code 200 9 = some (9, .dup2, 10, 0, 0, 0) := by decide +kernel
theorem s200_9 {L : Nat} {xs : Nat → Int32} {d x : Nat} {M : qxM} {st : List Value} {ls : qxL} {z : Nat} {y : Int32} : Rs L xs (d) 200 9 ls (.int y :: .ref z :: st) M x = Rs L xs (d) 200 10 ls (.int y :: .ref z :: .int y :: .ref z :: st) M x := Rs_next c200_9 rfl
theorem c200_10 : qx_code 200 10 = some (10, .iaload, 11, 0, 0, 0) := by decide +kernel
theorem s200_10 {L : Nat} {xs : Nat → Int32} {d x : Nat} {M : qxM} {st : List Value} {ls : qxL} {t : Nat} {j : Int32} (hk : qx_kd t = 0) (hj : qx_ib j (qx_ln t) = true) : Rs L xs (d) 200 10 ls (.int j :: .ref t :: st) M x = Rs L xs (d) 200 11 ls (.int (M.1 t j.toNatClampNeg) :: st) M x := by
  have h1 := qx_kd_row (k := 0) (by decide) hk
  exact Rs_unless (qx_ib_not hj) c200_10 (by unfold qx_act; dsimp only; rw [h1]; rfl)
theorem c200_11 : qx_code 200 11 = some (11, .iconst 1, 12, 0, 0, 0) := by decide +kernel
theorem s200_11 {L : Nat} {xs : Nat → Int32} {d x : Nat} {M : qxM} {st : List Value} {ls : qxL} : Rs L xs (d) 200 11 ls st M x = Rs L xs (d) 200 12 ls (.int (nI 1) :: st) M x := Rs_next c200_11 rfl
theorem c200_12 : qx_code 200 12 = some (12, .aload_n 0, 13, 0, 0, 0) := by decide +kernel
theorem s200_12 {L : Nat} {xs : Nat → Int32} {d x : Nat} {M : qxM} {st : List Value} {z : Nat} : Rs L xs (d) 200 12 [some (.ref z)] st M x = Rs L xs (d) 200 13 [some (.ref z)] (.ref z :: st) M x := Rs_next c200_12 rfl
theorem c200_13 : qx_code 200 13 = some (13, .invokevirtual 118, 16, 199, 1, 1703) := by decide +kernel
theorem s200_13 {L : Nat} {xs : Nat → Int32} {d x : Nat} {M : qxM} {st : List Value} {ls : qxL} {t : Nat} (hk : qx_kd t = 18) (hs : st.length ≤ 4) : Rs L xs (d + 1) 200 13 ls (.ref t :: st) M x = (Rs L xs d 199 0 [some (.ref t), none] [] M 0).bind (qx_kn L xs (d + 1) 200 13 16 199 ls st x) := by
  have h1 : qx_act L xs (qx_rt 200) (13, .invokevirtual 118, 16, 199, 1, 1703) ls (.ref t :: st) M = if 1 ≤ (.ref t :: st).length ∧ st.length ≤ 4 then some (.inr (.inr (.inr (199, [.ref t], st)))) else none := rfl
  rw [if_pos ⟨by simp [List.length_cons]; try omega, hs⟩] at h1
  have h2 := qx_kd_obj (k := 8) (by decide) hk
  exact Rs_call c200_13 h1 (by rw [show qx_args 199 [.ref t] = decide (qx_sh t = some (.inl 8)) from rfl]; exact decide_eq_true h2)
theorem c200_16 : qx_code 200 16 = some (16, .ishl, 17, 0, 0, 0) := by decide +kernel
theorem s200_16 {L : Nat} {xs : Nat → Int32} {d x : Nat} {M : qxM} {st : List Value} {ls : qxL} {z y : Int32} : Rs L xs (d) 200 16 ls (.int y :: .int z :: st) M x = Rs L xs (d) 200 17 ls (.int (z <<< (y &&& 31)) :: st) M x := Rs_next c200_16 rfl
theorem c200_17 : qx_code 200 17 = some (17, .ior, 18, 0, 0, 0) := by decide +kernel
theorem s200_17 {L : Nat} {xs : Nat → Int32} {d x : Nat} {M : qxM} {st : List Value} {ls : qxL} {z y : Int32} : Rs L xs (d) 200 17 ls (.int y :: .int z :: st) M x = Rs L xs (d) 200 18 ls (.int (z ||| y) :: st) M x := Rs_next c200_17 rfl
theorem c200_18 : qx_code 200 18 = some (18, .iastore, 19, 0, 0, 0) := by decide +kernel
theorem s200_18 {L : Nat} {xs : Nat → Int32} {d x : Nat} {M : qxM} {st : List Value} {ls : qxL} {t : Nat} {j : Int32} {z : Int32} (hk : qx_kd t = 0) (hj : qx_ib j (qx_ln t) = true) : Rs L xs (d) 200 18 ls (.int z :: .int j :: .ref t :: st) M x = Rs L xs (d) 200 19 ls st (qx_up M t j.toNatClampNeg z) x := by
  have h1 := qx_kd_row (k := 0) (by decide) hk
  exact Rs_unless (qx_ib_not hj) c200_18 (by unfold qx_act; dsimp only; rw [h1]; rfl)
theorem c200_19 : qx_code 200 19 = some (19, .aload_n 0, 20, 0, 0, 0) := by decide +kernel
theorem s200_19 {L : Nat} {xs : Nat → Int32} {d x : Nat} {M : qxM} {st : List Value} {z : Nat} : Rs L xs (d) 200 19 [some (.ref z)] st M x = Rs L xs (d) 200 20 [some (.ref z)] (.ref z :: st) M x := Rs_next c200_19 rfl
theorem c200_20 : qx_code 200 20 = some (20, .iconst 3, 21, 0, 0, 0) := by decide +kernel
theorem s200_20 {L : Nat} {xs : Nat → Int32} {d x : Nat} {M : qxM} {st : List Value} {ls : qxL} : Rs L xs (d) 200 20 ls st M x = Rs L xs (d) 200 21 ls (.int (nI 3) :: st) M x := Rs_next c200_20 rfl
theorem c200_21 : qx_code 200 21 = some (21, .invokevirtual 92, 24, 194, 2, 1676) := by decide +kernel
theorem s200_21 {L : Nat} {xs : Nat → Int32} {d x : Nat} {M : qxM} {st : List Value} {ls : qxL} {t : Nat} {z0 : Int32} (hk : qx_kd t = 18) (hs : st.length ≤ 4) : Rs L xs (d + 1) 200 21 ls (.int z0 :: .ref t :: st) M x = (Rs L xs d 194 0 [some (.ref t), some (.int z0)] [] M 0).bind (qx_kn L xs (d + 1) 200 21 24 194 ls st x) := by
  have h1 : qx_act L xs (qx_rt 200) (21, .invokevirtual 92, 24, 194, 2, 1676) ls (.int z0 :: .ref t :: st) M = if 2 ≤ (.int z0 :: .ref t :: st).length ∧ st.length ≤ 4 then some (.inr (.inr (.inr (194, [.ref t, .int z0], st)))) else none := rfl
  rw [if_pos ⟨by simp [List.length_cons]; try omega, hs⟩] at h1
  have h2 := qx_kd_obj (k := 8) (by decide) hk
  exact Rs_call c200_21 h1 (by rw [show qx_args 194 [.ref t, .int z0] = decide (qx_sh t = some (.inl 8)) from rfl]; exact decide_eq_true h2)
theorem c200_24 : qx_code 200 24 = some (24, .ifCond .eq 21, 27, 45, 0, 0) := by decide +kernel
theorem s200_24 {L : Nat} {xs : Nat → Int32} {d x : Nat} {M : qxM} {st : List Value} {ls : qxL} {z : Int32} : Rs L xs (d) 200 24 ls (.int z :: st) M x = if z = 0 then Rs L xs (d) 200 45 ls st M x else Rs L xs (d) 200 27 ls st M x := Rs_ite c200_24 rfl
theorem c200_27 : qx_code 200 27 = some (27, .aload_n 0, 28, 0, 0, 0) := by decide +kernel
theorem s200_27 {L : Nat} {xs : Nat → Int32} {d x : Nat} {M : qxM} {st : List Value} {z : Nat} : Rs L xs (d) 200 27 [some (.ref z)] st M x = Rs L xs (d) 200 28 [some (.ref z)] (.ref z :: st) M x := Rs_next c200_27 rfl
theorem c200_28 : qx_code 200 28 = some (28, .getfield 9, 31, 8, 1, 1546) := by decide +kernel
theorem s200_28 {L : Nat} {xs : Nat → Int32} {d x : Nat} {M : qxM} {st : List Value} {ls : qxL} {t : Nat} (hk : qx_kd t = 18) : Rs L xs (d) 200 28 ls (.ref t :: st) M x = Rs L xs (d) 200 31 ls (.ref (t + 1) :: st) M x := Rs_when (qx_kd_obj (k := 8) (by decide) hk) c200_28 rfl
theorem c200_31 : qx_code 200 31 = some (31, .iconst 2, 32, 0, 0, 0) := by decide +kernel
theorem s200_31 {L : Nat} {xs : Nat → Int32} {d x : Nat} {M : qxM} {st : List Value} {ls : qxL} : Rs L xs (d) 200 31 ls st M x = Rs L xs (d) 200 32 ls (.int (nI 2) :: st) M x := Rs_next c200_31 rfl
theorem c200_32 : qx_code 200 32 = some (32, .dup2, 33, 0, 0, 0) := by decide +kernel
theorem s200_32 {L : Nat} {xs : Nat → Int32} {d x : Nat} {M : qxM} {st : List Value} {ls : qxL} {z : Nat} {y : Int32} : Rs L xs (d) 200 32 ls (.int y :: .ref z :: st) M x = Rs L xs (d) 200 33 ls (.int y :: .ref z :: .int y :: .ref z :: st) M x := Rs_next c200_32 rfl
theorem c200_33 : qx_code 200 33 = some (33, .iaload, 34, 0, 0, 0) := by decide +kernel
theorem s200_33 {L : Nat} {xs : Nat → Int32} {d x : Nat} {M : qxM} {st : List Value} {ls : qxL} {t : Nat} {j : Int32} (hk : qx_kd t = 0) (hj : qx_ib j (qx_ln t) = true) : Rs L xs (d) 200 33 ls (.int j :: .ref t :: st) M x = Rs L xs (d) 200 34 ls (.int (M.1 t j.toNatClampNeg) :: st) M x := by
  have h1 := qx_kd_row (k := 0) (by decide) hk
  exact Rs_unless (qx_ib_not hj) c200_33 (by unfold qx_act; dsimp only; rw [h1]; rfl)
theorem c200_34 : qx_code 200 34 = some (34, .iconst 1, 35, 0, 0, 0) := by decide +kernel
theorem s200_34 {L : Nat} {xs : Nat → Int32} {d x : Nat} {M : qxM} {st : List Value} {ls : qxL} : Rs L xs (d) 200 34 ls st M x = Rs L xs (d) 200 35 ls (.int (nI 1) :: st) M x := Rs_next c200_34 rfl
theorem c200_35 : qx_code 200 35 = some (35, .aload_n 0, 36, 0, 0, 0) := by decide +kernel
theorem s200_35 {L : Nat} {xs : Nat → Int32} {d x : Nat} {M : qxM} {st : List Value} {z : Nat} : Rs L xs (d) 200 35 [some (.ref z)] st M x = Rs L xs (d) 200 36 [some (.ref z)] (.ref z :: st) M x := Rs_next c200_35 rfl
theorem c200_36 : qx_code 200 36 = some (36, .invokevirtual 118, 39, 199, 1, 1703) := by decide +kernel
theorem s200_36 {L : Nat} {xs : Nat → Int32} {d x : Nat} {M : qxM} {st : List Value} {ls : qxL} {t : Nat} (hk : qx_kd t = 18) (hs : st.length ≤ 4) : Rs L xs (d + 1) 200 36 ls (.ref t :: st) M x = (Rs L xs d 199 0 [some (.ref t), none] [] M 0).bind (qx_kn L xs (d + 1) 200 36 39 199 ls st x) := by
  have h1 : qx_act L xs (qx_rt 200) (36, .invokevirtual 118, 39, 199, 1, 1703) ls (.ref t :: st) M = if 1 ≤ (.ref t :: st).length ∧ st.length ≤ 4 then some (.inr (.inr (.inr (199, [.ref t], st)))) else none := rfl
  rw [if_pos ⟨by simp [List.length_cons]; try omega, hs⟩] at h1
  have h2 := qx_kd_obj (k := 8) (by decide) hk
  exact Rs_call c200_36 h1 (by rw [show qx_args 199 [.ref t] = decide (qx_sh t = some (.inl 8)) from rfl]; exact decide_eq_true h2)
theorem c200_39 : qx_code 200 39 = some (39, .ishl, 40, 0, 0, 0) := by decide +kernel
theorem s200_39 {L : Nat} {xs : Nat → Int32} {d x : Nat} {M : qxM} {st : List Value} {ls : qxL} {z y : Int32} : Rs L xs (d) 200 39 ls (.int y :: .int z :: st) M x = Rs L xs (d) 200 40 ls (.int (z <<< (y &&& 31)) :: st) M x := Rs_next c200_39 rfl
theorem c200_40 : qx_code 200 40 = some (40, .ior, 41, 0, 0, 0) := by decide +kernel
theorem s200_40 {L : Nat} {xs : Nat → Int32} {d x : Nat} {M : qxM} {st : List Value} {ls : qxL} {z y : Int32} : Rs L xs (d) 200 40 ls (.int y :: .int z :: st) M x = Rs L xs (d) 200 41 ls (.int (z ||| y) :: st) M x := Rs_next c200_40 rfl
theorem c200_41 : qx_code 200 41 = some (41, .iastore, 42, 0, 0, 0) := by decide +kernel
theorem s200_41 {L : Nat} {xs : Nat → Int32} {d x : Nat} {M : qxM} {st : List Value} {ls : qxL} {t : Nat} {j : Int32} {z : Int32} (hk : qx_kd t = 0) (hj : qx_ib j (qx_ln t) = true) : Rs L xs (d) 200 41 ls (.int z :: .int j :: .ref t :: st) M x = Rs L xs (d) 200 42 ls st (qx_up M t j.toNatClampNeg z) x := by
  have h1 := qx_kd_row (k := 0) (by decide) hk
  exact Rs_unless (qx_ib_not hj) c200_41 (by unfold qx_act; dsimp only; rw [h1]; rfl)
theorem c200_42 : qx_code 200 42 = some (42, .goto (-23), 45, 19, 0, 0) := by decide +kernel
theorem s200_42 {L : Nat} {xs : Nat → Int32} {d x : Nat} {M : qxM} {st : List Value} {ls : qxL} : Rs L xs (d) 200 42 ls st M x = Rs L xs (d) 200 19 ls st M x := Rs_next c200_42 rfl
theorem c200_45 : qx_code 200 45 = some (45, .return_, 46, 0, 0, 0) := by decide +kernel
theorem s200_45 {L : Nat} {xs : Nat → Int32} {d x : Nat} {M : qxM} {ls : qxL} : Rs L xs (d) 200 45 ls [] M x = some (.inl none, M, x) := Rs_ret c200_45 rfl
theorem c201_0 : qx_code 201 0 = some (0, .aload_n 0, 1, 0, 0, 0) := by decide +kernel
theorem s201_0 {L : Nat} {xs : Nat → Int32} {d x : Nat} {M : qxM} {st : List Value} {a1 a2 : Option Value} {z : Nat} : Rs L xs (d) 201 0 [some (.ref z), a1, a2] st M x = Rs L xs (d) 201 1 [some (.ref z), a1, a2] (.ref z :: st) M x := Rs_next c201_0 rfl
theorem c201_1 : qx_code 201 1 = some (1, .invokevirtual 115, 4, 198, 1, 1707) := by decide +kernel
theorem s201_1 {L : Nat} {xs : Nat → Int32} {d x : Nat} {M : qxM} {st : List Value} {ls : qxL} {t : Nat} (hk : qx_kd t = 18) (hs : st.length ≤ 4) : Rs L xs (d + 1) 201 1 ls (.ref t :: st) M x = (Rs L xs d 198 0 [some (.ref t)] [] M 0).bind (qx_kn L xs (d + 1) 201 1 4 198 ls st x) := by
  have h1 : qx_act L xs (qx_rt 201) (1, .invokevirtual 115, 4, 198, 1, 1707) ls (.ref t :: st) M = if 1 ≤ (.ref t :: st).length ∧ st.length ≤ 4 then some (.inr (.inr (.inr (198, [.ref t], st)))) else none := rfl
  rw [if_pos ⟨by simp [List.length_cons]; try omega, hs⟩] at h1
  have h2 := qx_kd_obj (k := 8) (by decide) hk
  exact Rs_call c201_1 h1 (by rw [show qx_args 198 [.ref t] = decide (qx_sh t = some (.inl 8)) from rfl]; exact decide_eq_true h2)
theorem c201_4 : qx_code 201 4 = some (4, .istore_n 2, 5, 0, 0, 0) := by decide +kernel
theorem s201_4i {L : Nat} {xs : Nat → Int32} {d x : Nat} {M : qxM} {st : List Value} {a0 a2 : Option Value} {z : Int32} {y : Int32} : Rs L xs (d) 201 4 [a0, some (.int y), a2] (.int z :: st) M x = Rs L xs (d) 201 5 [a0, some (.int y), some (.int z)] st M x := Rs_next c201_4 rfl
theorem s201_4r {L : Nat} {xs : Nat → Int32} {d x : Nat} {M : qxM} {st : List Value} {a0 a2 : Option Value} {z : Int32} {y : Nat} : Rs L xs (d) 201 4 [a0, some (.ref y), a2] (.int z :: st) M x = Rs L xs (d) 201 5 [a0, some (.ref y), some (.int z)] st M x := Rs_next c201_4 rfl
theorem s201_4n {L : Nat} {xs : Nat → Int32} {d x : Nat} {M : qxM} {st : List Value} {a0 a2 : Option Value} {z : Int32} : Rs L xs (d) 201 4 [a0, none, a2] (.int z :: st) M x = Rs L xs (d) 201 5 [a0, none, some (.int z)] st M x := Rs_next c201_4 rfl
theorem c201_5 : qx_code 201 5 = some (5, .aload_n 0, 6, 0, 0, 0) := by decide +kernel
theorem s201_5 {L : Nat} {xs : Nat → Int32} {d x : Nat} {M : qxM} {st : List Value} {a1 a2 : Option Value} {z : Nat} : Rs L xs (d) 201 5 [some (.ref z), a1, a2] st M x = Rs L xs (d) 201 6 [some (.ref z), a1, a2] (.ref z :: st) M x := Rs_next c201_5 rfl
theorem c201_6 : qx_code 201 6 = some (6, .getfield 63, 9, 8, 10, 1555) := by decide +kernel
theorem s201_6 {L : Nat} {xs : Nat → Int32} {d x : Nat} {M : qxM} {st : List Value} {ls : qxL} {t : Nat} (hk : qx_kd t = 18) : Rs L xs (d) 201 6 ls (.ref t :: st) M x = Rs L xs (d) 201 9 ls (.int (M.1 t 10) :: st) M x := Rs_when (qx_kd_obj (k := 8) (by decide) hk) c201_6 rfl
theorem c201_9 : qx_code 201 9 = some (9, .ifCond .ne 13, 12, 22, 0, 0) := by decide +kernel
theorem s201_9 {L : Nat} {xs : Nat → Int32} {d x : Nat} {M : qxM} {st : List Value} {ls : qxL} {z : Int32} : Rs L xs (d) 201 9 ls (.int z :: st) M x = if z = 0 then Rs L xs (d) 201 12 ls st M x else Rs L xs (d) 201 22 ls st M x := Rs_ite c201_9 rfl
theorem c201_12 : qx_code 201 12 = some (12, .iload_n 2, 13, 0, 0, 0) := by decide +kernel
theorem s201_12 {L : Nat} {xs : Nat → Int32} {d x : Nat} {M : qxM} {st : List Value} {a0 a1 : Option Value} {z : Int32} : Rs L xs (d) 201 12 [a0, a1, some (.int z)] st M x = Rs L xs (d) 201 13 [a0, a1, some (.int z)] (.int z :: st) M x := Rs_next c201_12 rfl
theorem c201_13 : qx_code 201 13 = some (13, .iload_n 1, 14, 0, 0, 0) := by decide +kernel
theorem s201_13 {L : Nat} {xs : Nat → Int32} {d x : Nat} {M : qxM} {st : List Value} {a0 a2 : Option Value} {z : Int32} : Rs L xs (d) 201 13 [a0, some (.int z), a2] st M x = Rs L xs (d) 201 14 [a0, some (.int z), a2] (.int z :: st) M x := Rs_next c201_13 rfl
theorem c201_14 : qx_code 201 14 = some (14, .if_icmp .ne 8, 17, 22, 0, 0) := by decide +kernel
theorem s201_14 {L : Nat} {xs : Nat → Int32} {d x : Nat} {M : qxM} {st : List Value} {ls : qxL} {z y : Int32} : Rs L xs (d) 201 14 ls (.int y :: .int z :: st) M x = if z = y then Rs L xs (d) 201 17 ls st M x else Rs L xs (d) 201 22 ls st M x := Rs_ite c201_14 rfl
theorem c201_17 : qx_code 201 17 = some (17, .aload_n 0, 18, 0, 0, 0) := by decide +kernel
theorem s201_17 {L : Nat} {xs : Nat → Int32} {d x : Nat} {M : qxM} {st : List Value} {a1 a2 : Option Value} {z : Nat} : Rs L xs (d) 201 17 [some (.ref z), a1, a2] st M x = Rs L xs (d) 201 18 [some (.ref z), a1, a2] (.ref z :: st) M x := Rs_next c201_17 rfl
theorem c201_18 : qx_code 201 18 = some (18, .iconst 3, 19, 0, 0, 0) := by decide +kernel
theorem s201_18 {L : Nat} {xs : Nat → Int32} {d x : Nat} {M : qxM} {st : List Value} {ls : qxL} : Rs L xs (d) 201 18 ls st M x = Rs L xs (d) 201 19 ls (.int (nI 3) :: st) M x := Rs_next c201_18 rfl
theorem c201_19 : qx_code 201 19 = some (19, .invokevirtual 105, 22, 193, 2, 1682) := by decide +kernel
theorem s201_19 {L : Nat} {xs : Nat → Int32} {d x : Nat} {M : qxM} {st : List Value} {ls : qxL} {t : Nat} {z0 : Int32} (hk : qx_kd t = 18) (hs : st.length ≤ 4) : Rs L xs (d + 1) 201 19 ls (.int z0 :: .ref t :: st) M x = (Rs L xs d 193 0 [some (.ref t), some (.int z0)] [] M 0).bind (qx_kn L xs (d + 1) 201 19 22 193 ls st x) := by
  have h1 : qx_act L xs (qx_rt 201) (19, .invokevirtual 105, 22, 193, 2, 1682) ls (.int z0 :: .ref t :: st) M = if 2 ≤ (.int z0 :: .ref t :: st).length ∧ st.length ≤ 4 then some (.inr (.inr (.inr (193, [.ref t, .int z0], st)))) else none := rfl
  rw [if_pos ⟨by simp [List.length_cons]; try omega, hs⟩] at h1
  have h2 := qx_kd_obj (k := 8) (by decide) hk
  exact Rs_call c201_19 h1 (by rw [show qx_args 193 [.ref t, .int z0] = decide (qx_sh t = some (.inl 8)) from rfl]; exact decide_eq_true h2)
theorem c201_22 : qx_code 201 22 = some (22, .aload_n 0, 23, 0, 0, 0) := by decide +kernel
theorem s201_22 {L : Nat} {xs : Nat → Int32} {d x : Nat} {M : qxM} {st : List Value} {a1 a2 : Option Value} {z : Nat} : Rs L xs (d) 201 22 [some (.ref z), a1, a2] st M x = Rs L xs (d) 201 23 [some (.ref z), a1, a2] (.ref z :: st) M x := Rs_next c201_22 rfl
theorem c201_23 : qx_code 201 23 = some (23, .getfield 63, 26, 8, 10, 1555) := by decide +kernel
theorem s201_23 {L : Nat} {xs : Nat → Int32} {d x : Nat} {M : qxM} {st : List Value} {ls : qxL} {t : Nat} (hk : qx_kd t = 18) : Rs L xs (d) 201 23 ls (.ref t :: st) M x = Rs L xs (d) 201 26 ls (.int (M.1 t 10) :: st) M x := Rs_when (qx_kd_obj (k := 8) (by decide) hk) c201_23 rfl
theorem c201_26 : qx_code 201 26 = some (26, .ifCond .le 4, 29, 30, 0, 0) := by decide +kernel
theorem s201_26 {L : Nat} {xs : Nat → Int32} {d x : Nat} {M : qxM} {st : List Value} {ls : qxL} {z : Int32} : Rs L xs (d) 201 26 ls (.int z :: st) M x = if z ≤ 0 then Rs L xs (d) 201 30 ls st M x else Rs L xs (d) 201 29 ls st M x := Rs_ite c201_26 rfl
theorem c201_29 : qx_code 201 29 = some (29, .return_, 30, 0, 0, 0) := by decide +kernel
theorem s201_29 {L : Nat} {xs : Nat → Int32} {d x : Nat} {M : qxM} {ls : qxL} : Rs L xs (d) 201 29 ls [] M x = some (.inl none, M, x) := Rs_ret c201_29 rfl
theorem c201_30 : qx_code 201 30 = some (30, .aload_n 0, 31, 0, 0, 0) := by decide +kernel
theorem s201_30 {L : Nat} {xs : Nat → Int32} {d x : Nat} {M : qxM} {st : List Value} {a1 a2 : Option Value} {z : Nat} : Rs L xs (d) 201 30 [some (.ref z), a1, a2] st M x = Rs L xs (d) 201 31 [some (.ref z), a1, a2] (.ref z :: st) M x := Rs_next c201_30 rfl
theorem c201_31 : qx_code 201 31 = some (31, .iload_n 1, 32, 0, 0, 0) := by decide +kernel
theorem s201_31 {L : Nat} {xs : Nat → Int32} {d x : Nat} {M : qxM} {st : List Value} {a0 a2 : Option Value} {z : Int32} : Rs L xs (d) 201 31 [a0, some (.int z), a2] st M x = Rs L xs (d) 201 32 [a0, some (.int z), a2] (.int z :: st) M x := Rs_next c201_31 rfl
theorem c201_32 : qx_code 201 32 = some (32, .iload_n 2, 33, 0, 0, 0) := by decide +kernel
theorem s201_32 {L : Nat} {xs : Nat → Int32} {d x : Nat} {M : qxM} {st : List Value} {a0 a1 : Option Value} {z : Int32} : Rs L xs (d) 201 32 [a0, a1, some (.int z)] st M x = Rs L xs (d) 201 33 [a0, a1, some (.int z)] (.int z :: st) M x := Rs_next c201_32 rfl
theorem c201_33 : qx_code 201 33 = some (33, .iconst 1, 34, 0, 0, 0) := by decide +kernel
theorem s201_33 {L : Nat} {xs : Nat → Int32} {d x : Nat} {M : qxM} {st : List Value} {ls : qxL} : Rs L xs (d) 201 33 ls st M x = Rs L xs (d) 201 34 ls (.int (nI 1) :: st) M x := Rs_next c201_33 rfl
theorem c201_34 : qx_code 201 34 = some (34, .invokevirtual 121, 37, 217, 4, 1720) := by decide +kernel
theorem s201_34 {L : Nat} {xs : Nat → Int32} {d x : Nat} {M : qxM} {st : List Value} {ls : qxL} {t : Nat} {z0 : Int32} {z1 : Int32} {z2 : Int32} (hk : qx_kd t = 18) (hs : st.length ≤ 4) : Rs L xs (d + 1) 201 34 ls (.int z2 :: .int z1 :: .int z0 :: .ref t :: st) M x = (Rs L xs d 217 0 [some (.ref t), some (.int z0), some (.int z1), some (.int z2)] [] M 0).bind (qx_kn L xs (d + 1) 201 34 37 217 ls st x) := by
  have h1 : qx_act L xs (qx_rt 201) (34, .invokevirtual 121, 37, 217, 4, 1720) ls (.int z2 :: .int z1 :: .int z0 :: .ref t :: st) M = if 4 ≤ (.int z2 :: .int z1 :: .int z0 :: .ref t :: st).length ∧ st.length ≤ 4 then some (.inr (.inr (.inr (217, [.ref t, .int z0, .int z1, .int z2], st)))) else none := rfl
  rw [if_pos ⟨by simp [List.length_cons]; try omega, hs⟩] at h1
  have h2 := qx_kd_obj (k := 8) (by decide) hk
  exact Rs_call c201_34 h1 (by rw [show qx_args 217 [.ref t, .int z0, .int z1, .int z2] = decide (qx_sh t = some (.inl 8)) from rfl]; exact decide_eq_true h2)
theorem c201_37 : qx_code 201 37 = some (37, .aload_n 0, 38, 0, 0, 0) := by decide +kernel
theorem s201_37 {L : Nat} {xs : Nat → Int32} {d x : Nat} {M : qxM} {st : List Value} {a1 a2 : Option Value} {z : Nat} : Rs L xs (d) 201 37 [some (.ref z), a1, a2] st M x = Rs L xs (d) 201 38 [some (.ref z), a1, a2] (.ref z :: st) M x := Rs_next c201_37 rfl
theorem c201_38 : qx_code 201 38 = some (38, .invokevirtual 112, 41, 192, 1, 1659) := by decide +kernel
theorem s201_38 {L : Nat} {xs : Nat → Int32} {d x : Nat} {M : qxM} {st : List Value} {ls : qxL} {t : Nat} (hk : qx_kd t = 18) (hs : st.length ≤ 4) : Rs L xs (d + 1) 201 38 ls (.ref t :: st) M x = (Rs L xs d 192 0 [some (.ref t)] [] M 0).bind (qx_kn L xs (d + 1) 201 38 41 192 ls st x) := by
  have h1 : qx_act L xs (qx_rt 201) (38, .invokevirtual 112, 41, 192, 1, 1659) ls (.ref t :: st) M = if 1 ≤ (.ref t :: st).length ∧ st.length ≤ 4 then some (.inr (.inr (.inr (192, [.ref t], st)))) else none := rfl
  rw [if_pos ⟨by simp [List.length_cons]; try omega, hs⟩] at h1
  have h2 := qx_kd_obj (k := 8) (by decide) hk
  exact Rs_call c201_38 h1 (by rw [show qx_args 192 [.ref t] = decide (qx_sh t = some (.inl 8)) from rfl]; exact decide_eq_true h2)
theorem c201_41 : qx_code 201 41 = some (41, .return_, 42, 0, 0, 0) := by decide +kernel
theorem s201_41 {L : Nat} {xs : Nat → Int32} {d x : Nat} {M : qxM} {ls : qxL} : Rs L xs (d) 201 41 ls [] M x = some (.inl none, M, x) := Rs_ret c201_41 rfl
theorem c202_0 : qx_code 202 0 = some (0, .aload_n 0, 1, 0, 0, 0) := by decide +kernel
theorem s202_0 {L : Nat} {xs : Nat → Int32} {d x : Nat} {M : qxM} {st : List Value} {a1 : Option Value} {z : Nat} : Rs L xs (d) 202 0 [some (.ref z), a1] st M x = Rs L xs (d) 202 1 [some (.ref z), a1] (.ref z :: st) M x := Rs_next c202_0 rfl
theorem c202_1 : qx_code 202 1 = some (1, .invokevirtual 112, 4, 192, 1, 1659) := by decide +kernel
theorem s202_1 {L : Nat} {xs : Nat → Int32} {d x : Nat} {M : qxM} {st : List Value} {ls : qxL} {t : Nat} (hk : qx_kd t = 18) (hs : st.length ≤ 4) : Rs L xs (d + 1) 202 1 ls (.ref t :: st) M x = (Rs L xs d 192 0 [some (.ref t)] [] M 0).bind (qx_kn L xs (d + 1) 202 1 4 192 ls st x) := by
  have h1 : qx_act L xs (qx_rt 202) (1, .invokevirtual 112, 4, 192, 1, 1659) ls (.ref t :: st) M = if 1 ≤ (.ref t :: st).length ∧ st.length ≤ 4 then some (.inr (.inr (.inr (192, [.ref t], st)))) else none := rfl
  rw [if_pos ⟨by simp [List.length_cons]; try omega, hs⟩] at h1
  have h2 := qx_kd_obj (k := 8) (by decide) hk
  exact Rs_call c202_1 h1 (by rw [show qx_args 192 [.ref t] = decide (qx_sh t = some (.inl 8)) from rfl]; exact decide_eq_true h2)
theorem c202_4 : qx_code 202 4 = some (4, .aload_n 0, 5, 0, 0, 0) := by decide +kernel
theorem s202_4 {L : Nat} {xs : Nat → Int32} {d x : Nat} {M : qxM} {st : List Value} {a1 : Option Value} {z : Nat} : Rs L xs (d) 202 4 [some (.ref z), a1] st M x = Rs L xs (d) 202 5 [some (.ref z), a1] (.ref z :: st) M x := Rs_next c202_4 rfl
theorem c202_5 : qx_code 202 5 = some (5, .invokevirtual 118, 8, 199, 1, 1703) := by decide +kernel
theorem s202_5 {L : Nat} {xs : Nat → Int32} {d x : Nat} {M : qxM} {st : List Value} {ls : qxL} {t : Nat} (hk : qx_kd t = 18) (hs : st.length ≤ 4) : Rs L xs (d + 1) 202 5 ls (.ref t :: st) M x = (Rs L xs d 199 0 [some (.ref t), none] [] M 0).bind (qx_kn L xs (d + 1) 202 5 8 199 ls st x) := by
  have h1 : qx_act L xs (qx_rt 202) (5, .invokevirtual 118, 8, 199, 1, 1703) ls (.ref t :: st) M = if 1 ≤ (.ref t :: st).length ∧ st.length ≤ 4 then some (.inr (.inr (.inr (199, [.ref t], st)))) else none := rfl
  rw [if_pos ⟨by simp [List.length_cons]; try omega, hs⟩] at h1
  have h2 := qx_kd_obj (k := 8) (by decide) hk
  exact Rs_call c202_5 h1 (by rw [show qx_args 199 [.ref t] = decide (qx_sh t = some (.inl 8)) from rfl]; exact decide_eq_true h2)
theorem c202_8 : qx_code 202 8 = some (8, .istore_n 1, 9, 0, 0, 0) := by decide +kernel
theorem s202_8i {L : Nat} {xs : Nat → Int32} {d x : Nat} {M : qxM} {st : List Value} {a1 : Option Value} {z : Int32} {y : Int32} : Rs L xs (d) 202 8 [some (.int y), a1] (.int z :: st) M x = Rs L xs (d) 202 9 [some (.int y), some (.int z)] st M x := Rs_next c202_8 rfl
theorem s202_8r {L : Nat} {xs : Nat → Int32} {d x : Nat} {M : qxM} {st : List Value} {a1 : Option Value} {z : Int32} {y : Nat} : Rs L xs (d) 202 8 [some (.ref y), a1] (.int z :: st) M x = Rs L xs (d) 202 9 [some (.ref y), some (.int z)] st M x := Rs_next c202_8 rfl
theorem s202_8n {L : Nat} {xs : Nat → Int32} {d x : Nat} {M : qxM} {st : List Value} {a1 : Option Value} {z : Int32} : Rs L xs (d) 202 8 [none, a1] (.int z :: st) M x = Rs L xs (d) 202 9 [none, some (.int z)] st M x := Rs_next c202_8 rfl
theorem c202_9 : qx_code 202 9 = some (9, .aload_n 0, 10, 0, 0, 0) := by decide +kernel
theorem s202_9 {L : Nat} {xs : Nat → Int32} {d x : Nat} {M : qxM} {st : List Value} {a1 : Option Value} {z : Nat} : Rs L xs (d) 202 9 [some (.ref z), a1] st M x = Rs L xs (d) 202 10 [some (.ref z), a1] (.ref z :: st) M x := Rs_next c202_9 rfl
theorem c202_10 : qx_code 202 10 = some (10, .iload_n 1, 11, 0, 0, 0) := by decide +kernel
theorem s202_10 {L : Nat} {xs : Nat → Int32} {d x : Nat} {M : qxM} {st : List Value} {a0 : Option Value} {z : Int32} : Rs L xs (d) 202 10 [a0, some (.int z)] st M x = Rs L xs (d) 202 11 [a0, some (.int z)] (.int z :: st) M x := Rs_next c202_10 rfl
theorem c202_11 : qx_code 202 11 = some (11, .invokevirtual 125, 14, 201, 2, 1716) := by decide +kernel
theorem s202_11 {L : Nat} {xs : Nat → Int32} {d x : Nat} {M : qxM} {st : List Value} {ls : qxL} {t : Nat} {z0 : Int32} (hk : qx_kd t = 18) (hs : st.length ≤ 4) : Rs L xs (d + 1) 202 11 ls (.int z0 :: .ref t :: st) M x = (Rs L xs d 201 0 [some (.ref t), some (.int z0), none] [] M 0).bind (qx_kn L xs (d + 1) 202 11 14 201 ls st x) := by
  have h1 : qx_act L xs (qx_rt 202) (11, .invokevirtual 125, 14, 201, 2, 1716) ls (.int z0 :: .ref t :: st) M = if 2 ≤ (.int z0 :: .ref t :: st).length ∧ st.length ≤ 4 then some (.inr (.inr (.inr (201, [.ref t, .int z0], st)))) else none := rfl
  rw [if_pos ⟨by simp [List.length_cons]; try omega, hs⟩] at h1
  have h2 := qx_kd_obj (k := 8) (by decide) hk
  exact Rs_call c202_11 h1 (by rw [show qx_args 201 [.ref t, .int z0] = decide (qx_sh t = some (.inl 8)) from rfl]; exact decide_eq_true h2)
theorem c202_14 : qx_code 202 14 = some (14, .aload_n 0, 15, 0, 0, 0) := by decide +kernel
theorem s202_14 {L : Nat} {xs : Nat → Int32} {d x : Nat} {M : qxM} {st : List Value} {a1 : Option Value} {z : Nat} : Rs L xs (d) 202 14 [some (.ref z), a1] st M x = Rs L xs (d) 202 15 [some (.ref z), a1] (.ref z :: st) M x := Rs_next c202_14 rfl
theorem c202_15 : qx_code 202 15 = some (15, .iconst 3, 16, 0, 0, 0) := by decide +kernel
theorem s202_15 {L : Nat} {xs : Nat → Int32} {d x : Nat} {M : qxM} {st : List Value} {ls : qxL} : Rs L xs (d) 202 15 ls st M x = Rs L xs (d) 202 16 ls (.int (nI 3) :: st) M x := Rs_next c202_15 rfl
theorem c202_16 : qx_code 202 16 = some (16, .invokevirtual 92, 19, 194, 2, 1676) := by decide +kernel
theorem s202_16 {L : Nat} {xs : Nat → Int32} {d x : Nat} {M : qxM} {st : List Value} {ls : qxL} {t : Nat} {z0 : Int32} (hk : qx_kd t = 18) (hs : st.length ≤ 4) : Rs L xs (d + 1) 202 16 ls (.int z0 :: .ref t :: st) M x = (Rs L xs d 194 0 [some (.ref t), some (.int z0)] [] M 0).bind (qx_kn L xs (d + 1) 202 16 19 194 ls st x) := by
  have h1 : qx_act L xs (qx_rt 202) (16, .invokevirtual 92, 19, 194, 2, 1676) ls (.int z0 :: .ref t :: st) M = if 2 ≤ (.int z0 :: .ref t :: st).length ∧ st.length ≤ 4 then some (.inr (.inr (.inr (194, [.ref t, .int z0], st)))) else none := rfl
  rw [if_pos ⟨by simp [List.length_cons]; try omega, hs⟩] at h1
  have h2 := qx_kd_obj (k := 8) (by decide) hk
  exact Rs_call c202_16 h1 (by rw [show qx_args 194 [.ref t, .int z0] = decide (qx_sh t = some (.inl 8)) from rfl]; exact decide_eq_true h2)
theorem c202_19 : qx_code 202 19 = some (19, .ifCond .eq 11, 22, 30, 0, 0) := by decide +kernel
theorem s202_19 {L : Nat} {xs : Nat → Int32} {d x : Nat} {M : qxM} {st : List Value} {ls : qxL} {z : Int32} : Rs L xs (d) 202 19 ls (.int z :: st) M x = if z = 0 then Rs L xs (d) 202 30 ls st M x else Rs L xs (d) 202 22 ls st M x := Rs_ite c202_19 rfl
theorem c202_22 : qx_code 202 22 = some (22, .aload_n 0, 23, 0, 0, 0) := by decide +kernel
theorem s202_22 {L : Nat} {xs : Nat → Int32} {d x : Nat} {M : qxM} {st : List Value} {a1 : Option Value} {z : Nat} : Rs L xs (d) 202 22 [some (.ref z), a1] st M x = Rs L xs (d) 202 23 [some (.ref z), a1] (.ref z :: st) M x := Rs_next c202_22 rfl
theorem c202_23 : qx_code 202 23 = some (23, .iload_n 1, 24, 0, 0, 0) := by decide +kernel
theorem s202_23 {L : Nat} {xs : Nat → Int32} {d x : Nat} {M : qxM} {st : List Value} {a0 : Option Value} {z : Int32} : Rs L xs (d) 202 23 [a0, some (.int z)] st M x = Rs L xs (d) 202 24 [a0, some (.int z)] (.int z :: st) M x := Rs_next c202_23 rfl
theorem c202_24 : qx_code 202 24 = some (24, .invokevirtual 125, 27, 201, 2, 1716) := by decide +kernel
theorem s202_24 {L : Nat} {xs : Nat → Int32} {d x : Nat} {M : qxM} {st : List Value} {ls : qxL} {t : Nat} {z0 : Int32} (hk : qx_kd t = 18) (hs : st.length ≤ 4) : Rs L xs (d + 1) 202 24 ls (.int z0 :: .ref t :: st) M x = (Rs L xs d 201 0 [some (.ref t), some (.int z0), none] [] M 0).bind (qx_kn L xs (d + 1) 202 24 27 201 ls st x) := by
  have h1 : qx_act L xs (qx_rt 202) (24, .invokevirtual 125, 27, 201, 2, 1716) ls (.int z0 :: .ref t :: st) M = if 2 ≤ (.int z0 :: .ref t :: st).length ∧ st.length ≤ 4 then some (.inr (.inr (.inr (201, [.ref t, .int z0], st)))) else none := rfl
  rw [if_pos ⟨by simp [List.length_cons]; try omega, hs⟩] at h1
  have h2 := qx_kd_obj (k := 8) (by decide) hk
  exact Rs_call c202_24 h1 (by rw [show qx_args 201 [.ref t, .int z0] = decide (qx_sh t = some (.inl 8)) from rfl]; exact decide_eq_true h2)
theorem c202_27 : qx_code 202 27 = some (27, .goto (-13), 30, 14, 0, 0) := by decide +kernel
theorem s202_27 {L : Nat} {xs : Nat → Int32} {d x : Nat} {M : qxM} {st : List Value} {ls : qxL} : Rs L xs (d) 202 27 ls st M x = Rs L xs (d) 202 14 ls st M x := Rs_next c202_27 rfl
theorem c202_30 : qx_code 202 30 = some (30, .return_, 31, 0, 0, 0) := by decide +kernel
theorem s202_30 {L : Nat} {xs : Nat → Int32} {d x : Nat} {M : qxM} {ls : qxL} : Rs L xs (d) 202 30 ls [] M x = some (.inl none, M, x) := Rs_ret c202_30 rfl
theorem c203_0 : qx_code 203 0 = some (0, .aload_n 0, 1, 0, 0, 0) := by decide +kernel
theorem s203_0 {L : Nat} {xs : Nat → Int32} {d x : Nat} {M : qxM} {st : List Value} {a1 a2 a3 a4 a5 : Option Value} {z : Nat} : Rs L xs (d) 203 0 [some (.ref z), a1, a2, a3, a4, a5] st M x = Rs L xs (d) 203 1 [some (.ref z), a1, a2, a3, a4, a5] (.ref z :: st) M x := Rs_next c203_0 rfl
theorem c203_1 : qx_code 203 1 = some (1, .invokevirtual 112, 4, 192, 1, 1659) := by decide +kernel
theorem s203_1 {L : Nat} {xs : Nat → Int32} {d x : Nat} {M : qxM} {st : List Value} {ls : qxL} {t : Nat} (hk : qx_kd t = 18) (hs : st.length ≤ 4) : Rs L xs (d + 1) 203 1 ls (.ref t :: st) M x = (Rs L xs d 192 0 [some (.ref t)] [] M 0).bind (qx_kn L xs (d + 1) 203 1 4 192 ls st x) := by
  have h1 : qx_act L xs (qx_rt 203) (1, .invokevirtual 112, 4, 192, 1, 1659) ls (.ref t :: st) M = if 1 ≤ (.ref t :: st).length ∧ st.length ≤ 4 then some (.inr (.inr (.inr (192, [.ref t], st)))) else none := rfl
  rw [if_pos ⟨by simp [List.length_cons]; try omega, hs⟩] at h1
  have h2 := qx_kd_obj (k := 8) (by decide) hk
  exact Rs_call c203_1 h1 (by rw [show qx_args 192 [.ref t] = decide (qx_sh t = some (.inl 8)) from rfl]; exact decide_eq_true h2)
theorem c203_4 : qx_code 203 4 = some (4, .aload_n 0, 5, 0, 0, 0) := by decide +kernel
theorem s203_4 {L : Nat} {xs : Nat → Int32} {d x : Nat} {M : qxM} {st : List Value} {a1 a2 a3 a4 a5 : Option Value} {z : Nat} : Rs L xs (d) 203 4 [some (.ref z), a1, a2, a3, a4, a5] st M x = Rs L xs (d) 203 5 [some (.ref z), a1, a2, a3, a4, a5] (.ref z :: st) M x := Rs_next c203_4 rfl
theorem c203_5 : qx_code 203 5 = some (5, .invokevirtual 118, 8, 199, 1, 1703) := by decide +kernel
theorem s203_5 {L : Nat} {xs : Nat → Int32} {d x : Nat} {M : qxM} {st : List Value} {ls : qxL} {t : Nat} (hk : qx_kd t = 18) (hs : st.length ≤ 4) : Rs L xs (d + 1) 203 5 ls (.ref t :: st) M x = (Rs L xs d 199 0 [some (.ref t), none] [] M 0).bind (qx_kn L xs (d + 1) 203 5 8 199 ls st x) := by
  have h1 : qx_act L xs (qx_rt 203) (5, .invokevirtual 118, 8, 199, 1, 1703) ls (.ref t :: st) M = if 1 ≤ (.ref t :: st).length ∧ st.length ≤ 4 then some (.inr (.inr (.inr (199, [.ref t], st)))) else none := rfl
  rw [if_pos ⟨by simp [List.length_cons]; try omega, hs⟩] at h1
  have h2 := qx_kd_obj (k := 8) (by decide) hk
  exact Rs_call c203_5 h1 (by rw [show qx_args 199 [.ref t] = decide (qx_sh t = some (.inl 8)) from rfl]; exact decide_eq_true h2)
theorem c203_8 : qx_code 203 8 = some (8, .istore_n 1, 9, 0, 0, 0) := by decide +kernel
theorem s203_8i {L : Nat} {xs : Nat → Int32} {d x : Nat} {M : qxM} {st : List Value} {a1 a2 a3 a4 a5 : Option Value} {z : Int32} {y : Int32} : Rs L xs (d) 203 8 [some (.int y), a1, a2, a3, a4, a5] (.int z :: st) M x = Rs L xs (d) 203 9 [some (.int y), some (.int z), a2, a3, a4, a5] st M x := Rs_next c203_8 rfl
theorem s203_8r {L : Nat} {xs : Nat → Int32} {d x : Nat} {M : qxM} {st : List Value} {a1 a2 a3 a4 a5 : Option Value} {z : Int32} {y : Nat} : Rs L xs (d) 203 8 [some (.ref y), a1, a2, a3, a4, a5] (.int z :: st) M x = Rs L xs (d) 203 9 [some (.ref y), some (.int z), a2, a3, a4, a5] st M x := Rs_next c203_8 rfl
theorem s203_8n {L : Nat} {xs : Nat → Int32} {d x : Nat} {M : qxM} {st : List Value} {a1 a2 a3 a4 a5 : Option Value} {z : Int32} : Rs L xs (d) 203 8 [none, a1, a2, a3, a4, a5] (.int z :: st) M x = Rs L xs (d) 203 9 [none, some (.int z), a2, a3, a4, a5] st M x := Rs_next c203_8 rfl
theorem c203_9 : qx_code 203 9 = some (9, .iconst 1, 10, 0, 0, 0) := by decide +kernel
theorem s203_9 {L : Nat} {xs : Nat → Int32} {d x : Nat} {M : qxM} {st : List Value} {ls : qxL} : Rs L xs (d) 203 9 ls st M x = Rs L xs (d) 203 10 ls (.int (nI 1) :: st) M x := Rs_next c203_9 rfl
theorem c203_10 : qx_code 203 10 = some (10, .iload_n 1, 11, 0, 0, 0) := by decide +kernel
theorem s203_10 {L : Nat} {xs : Nat → Int32} {d x : Nat} {M : qxM} {st : List Value} {a0 a2 a3 a4 a5 : Option Value} {z : Int32} : Rs L xs (d) 203 10 [a0, some (.int z), a2, a3, a4, a5] st M x = Rs L xs (d) 203 11 [a0, some (.int z), a2, a3, a4, a5] (.int z :: st) M x := Rs_next c203_10 rfl
theorem c203_11 : qx_code 203 11 = some (11, .ishl, 12, 0, 0, 0) := by decide +kernel
theorem s203_11 {L : Nat} {xs : Nat → Int32} {d x : Nat} {M : qxM} {st : List Value} {ls : qxL} {z y : Int32} : Rs L xs (d) 203 11 ls (.int y :: .int z :: st) M x = Rs L xs (d) 203 12 ls (.int (z <<< (y &&& 31)) :: st) M x := Rs_next c203_11 rfl
theorem c203_12 : qx_code 203 12 = some (12, .istore_n 2, 13, 0, 0, 0) := by decide +kernel
theorem s203_12i {L : Nat} {xs : Nat → Int32} {d x : Nat} {M : qxM} {st : List Value} {a0 a2 a3 a4 a5 : Option Value} {z : Int32} {y : Int32} : Rs L xs (d) 203 12 [a0, some (.int y), a2, a3, a4, a5] (.int z :: st) M x = Rs L xs (d) 203 13 [a0, some (.int y), some (.int z), a3, a4, a5] st M x := Rs_next c203_12 rfl
theorem s203_12r {L : Nat} {xs : Nat → Int32} {d x : Nat} {M : qxM} {st : List Value} {a0 a2 a3 a4 a5 : Option Value} {z : Int32} {y : Nat} : Rs L xs (d) 203 12 [a0, some (.ref y), a2, a3, a4, a5] (.int z :: st) M x = Rs L xs (d) 203 13 [a0, some (.ref y), some (.int z), a3, a4, a5] st M x := Rs_next c203_12 rfl
theorem s203_12n {L : Nat} {xs : Nat → Int32} {d x : Nat} {M : qxM} {st : List Value} {a0 a2 a3 a4 a5 : Option Value} {z : Int32} : Rs L xs (d) 203 12 [a0, none, a2, a3, a4, a5] (.int z :: st) M x = Rs L xs (d) 203 13 [a0, none, some (.int z), a3, a4, a5] st M x := Rs_next c203_12 rfl
theorem c203_13 : qx_code 203 13 = some (13, .iload_n 1, 14, 0, 0, 0) := by decide +kernel
theorem s203_13 {L : Nat} {xs : Nat → Int32} {d x : Nat} {M : qxM} {st : List Value} {a0 a2 a3 a4 a5 : Option Value} {z : Int32} : Rs L xs (d) 203 13 [a0, some (.int z), a2, a3, a4, a5] st M x = Rs L xs (d) 203 14 [a0, some (.int z), a2, a3, a4, a5] (.int z :: st) M x := Rs_next c203_13 rfl
theorem c203_14 : qx_code 203 14 = some (14, .istore_n 3, 15, 0, 0, 0) := by decide +kernel
theorem s203_14i {L : Nat} {xs : Nat → Int32} {d x : Nat} {M : qxM} {st : List Value} {a0 a1 a3 a4 a5 : Option Value} {z : Int32} {y : Int32} : Rs L xs (d) 203 14 [a0, a1, some (.int y), a3, a4, a5] (.int z :: st) M x = Rs L xs (d) 203 15 [a0, a1, some (.int y), some (.int z), a4, a5] st M x := Rs_next c203_14 rfl
theorem s203_14r {L : Nat} {xs : Nat → Int32} {d x : Nat} {M : qxM} {st : List Value} {a0 a1 a3 a4 a5 : Option Value} {z : Int32} {y : Nat} : Rs L xs (d) 203 14 [a0, a1, some (.ref y), a3, a4, a5] (.int z :: st) M x = Rs L xs (d) 203 15 [a0, a1, some (.ref y), some (.int z), a4, a5] st M x := Rs_next c203_14 rfl
theorem s203_14n {L : Nat} {xs : Nat → Int32} {d x : Nat} {M : qxM} {st : List Value} {a0 a1 a3 a4 a5 : Option Value} {z : Int32} : Rs L xs (d) 203 14 [a0, a1, none, a3, a4, a5] (.int z :: st) M x = Rs L xs (d) 203 15 [a0, a1, none, some (.int z), a4, a5] st M x := Rs_next c203_14 rfl
theorem c203_15 : qx_code 203 15 = some (15, .iconst 1, 16, 0, 0, 0) := by decide +kernel
theorem s203_15 {L : Nat} {xs : Nat → Int32} {d x : Nat} {M : qxM} {st : List Value} {ls : qxL} : Rs L xs (d) 203 15 ls st M x = Rs L xs (d) 203 16 ls (.int (nI 1) :: st) M x := Rs_next c203_15 rfl
theorem c203_16 : qx_code 203 16 = some (16, .istore 4, 18, 0, 0, 0) := by decide +kernel
theorem s203_16i {L : Nat} {xs : Nat → Int32} {d x : Nat} {M : qxM} {st : List Value} {a0 a1 a2 a4 a5 : Option Value} {z : Int32} {y : Int32} : Rs L xs (d) 203 16 [a0, a1, a2, some (.int y), a4, a5] (.int z :: st) M x = Rs L xs (d) 203 18 [a0, a1, a2, some (.int y), some (.int z), a5] st M x := Rs_next c203_16 rfl
theorem s203_16r {L : Nat} {xs : Nat → Int32} {d x : Nat} {M : qxM} {st : List Value} {a0 a1 a2 a4 a5 : Option Value} {z : Int32} {y : Nat} : Rs L xs (d) 203 16 [a0, a1, a2, some (.ref y), a4, a5] (.int z :: st) M x = Rs L xs (d) 203 18 [a0, a1, a2, some (.ref y), some (.int z), a5] st M x := Rs_next c203_16 rfl
theorem s203_16n {L : Nat} {xs : Nat → Int32} {d x : Nat} {M : qxM} {st : List Value} {a0 a1 a2 a4 a5 : Option Value} {z : Int32} : Rs L xs (d) 203 16 [a0, a1, a2, none, a4, a5] (.int z :: st) M x = Rs L xs (d) 203 18 [a0, a1, a2, none, some (.int z), a5] st M x := Rs_next c203_16 rfl
theorem c203_18 : qx_code 203 18 = some (18, .iload 4, 20, 0, 0, 0) := by decide +kernel
theorem s203_18 {L : Nat} {xs : Nat → Int32} {d x : Nat} {M : qxM} {st : List Value} {a0 a1 a2 a3 a5 : Option Value} {z : Int32} : Rs L xs (d) 203 18 [a0, a1, a2, a3, some (.int z), a5] st M x = Rs L xs (d) 203 20 [a0, a1, a2, a3, some (.int z), a5] (.int z :: st) M x := Rs_next c203_18 rfl
theorem c203_20 : qx_code 203 20 = some (20, .iconst 3, 21, 0, 0, 0) := by decide +kernel
theorem s203_20 {L : Nat} {xs : Nat → Int32} {d x : Nat} {M : qxM} {st : List Value} {ls : qxL} : Rs L xs (d) 203 20 ls st M x = Rs L xs (d) 203 21 ls (.int (nI 3) :: st) M x := Rs_next c203_20 rfl
theorem c203_21 : qx_code 203 21 = some (21, .if_icmp .lt 11, 24, 32, 0, 0) := by decide +kernel
theorem s203_21 {L : Nat} {xs : Nat → Int32} {d x : Nat} {M : qxM} {st : List Value} {ls : qxL} {z y : Int32} : Rs L xs (d) 203 21 ls (.int y :: .int z :: st) M x = if z < y then Rs L xs (d) 203 32 ls st M x else Rs L xs (d) 203 24 ls st M x := Rs_ite c203_21 rfl
theorem c203_24 : qx_code 203 24 = some (24, .aload_n 0, 25, 0, 0, 0) := by decide +kernel
theorem s203_24 {L : Nat} {xs : Nat → Int32} {d x : Nat} {M : qxM} {st : List Value} {a1 a2 a3 a4 a5 : Option Value} {z : Nat} : Rs L xs (d) 203 24 [some (.ref z), a1, a2, a3, a4, a5] st M x = Rs L xs (d) 203 25 [some (.ref z), a1, a2, a3, a4, a5] (.ref z :: st) M x := Rs_next c203_24 rfl
theorem c203_25 : qx_code 203 25 = some (25, .iconst 3, 26, 0, 0, 0) := by decide +kernel
theorem s203_25 {L : Nat} {xs : Nat → Int32} {d x : Nat} {M : qxM} {st : List Value} {ls : qxL} : Rs L xs (d) 203 25 ls st M x = Rs L xs (d) 203 26 ls (.int (nI 3) :: st) M x := Rs_next c203_25 rfl
theorem c203_26 : qx_code 203 26 = some (26, .invokevirtual 92, 29, 194, 2, 1676) := by decide +kernel
theorem s203_26 {L : Nat} {xs : Nat → Int32} {d x : Nat} {M : qxM} {st : List Value} {ls : qxL} {t : Nat} {z0 : Int32} (hk : qx_kd t = 18) (hs : st.length ≤ 4) : Rs L xs (d + 1) 203 26 ls (.int z0 :: .ref t :: st) M x = (Rs L xs d 194 0 [some (.ref t), some (.int z0)] [] M 0).bind (qx_kn L xs (d + 1) 203 26 29 194 ls st x) := by
  have h1 : qx_act L xs (qx_rt 203) (26, .invokevirtual 92, 29, 194, 2, 1676) ls (.int z0 :: .ref t :: st) M = if 2 ≤ (.int z0 :: .ref t :: st).length ∧ st.length ≤ 4 then some (.inr (.inr (.inr (194, [.ref t, .int z0], st)))) else none := rfl
  rw [if_pos ⟨by simp [List.length_cons]; try omega, hs⟩] at h1
  have h2 := qx_kd_obj (k := 8) (by decide) hk
  exact Rs_call c203_26 h1 (by rw [show qx_args 194 [.ref t, .int z0] = decide (qx_sh t = some (.inl 8)) from rfl]; exact decide_eq_true h2)
theorem c203_29 : qx_code 203 29 = some (29, .ifCond .eq 66, 32, 95, 0, 0) := by decide +kernel
theorem s203_29 {L : Nat} {xs : Nat → Int32} {d x : Nat} {M : qxM} {st : List Value} {ls : qxL} {z : Int32} : Rs L xs (d) 203 29 ls (.int z :: st) M x = if z = 0 then Rs L xs (d) 203 95 ls st M x else Rs L xs (d) 203 32 ls st M x := Rs_ite c203_29 rfl
theorem c203_32 : qx_code 203 32 = some (32, .aload_n 0, 33, 0, 0, 0) := by decide +kernel
theorem s203_32 {L : Nat} {xs : Nat → Int32} {d x : Nat} {M : qxM} {st : List Value} {a1 a2 a3 a4 a5 : Option Value} {z : Nat} : Rs L xs (d) 203 32 [some (.ref z), a1, a2, a3, a4, a5] st M x = Rs L xs (d) 203 33 [some (.ref z), a1, a2, a3, a4, a5] (.ref z :: st) M x := Rs_next c203_32 rfl
theorem c203_33 : qx_code 203 33 = some (33, .invokevirtual 115, 36, 198, 1, 1707) := by decide +kernel
theorem s203_33 {L : Nat} {xs : Nat → Int32} {d x : Nat} {M : qxM} {st : List Value} {ls : qxL} {t : Nat} (hk : qx_kd t = 18) (hs : st.length ≤ 4) : Rs L xs (d + 1) 203 33 ls (.ref t :: st) M x = (Rs L xs d 198 0 [some (.ref t)] [] M 0).bind (qx_kn L xs (d + 1) 203 33 36 198 ls st x) := by
  have h1 : qx_act L xs (qx_rt 203) (33, .invokevirtual 115, 36, 198, 1, 1707) ls (.ref t :: st) M = if 1 ≤ (.ref t :: st).length ∧ st.length ≤ 4 then some (.inr (.inr (.inr (198, [.ref t], st)))) else none := rfl
  rw [if_pos ⟨by simp [List.length_cons]; try omega, hs⟩] at h1
  have h2 := qx_kd_obj (k := 8) (by decide) hk
  exact Rs_call c203_33 h1 (by rw [show qx_args 198 [.ref t] = decide (qx_sh t = some (.inl 8)) from rfl]; exact decide_eq_true h2)
theorem c203_36 : qx_code 203 36 = some (36, .istore 5, 38, 0, 0, 0) := by decide +kernel
theorem s203_36i {L : Nat} {xs : Nat → Int32} {d x : Nat} {M : qxM} {st : List Value} {a0 a1 a2 a3 a5 : Option Value} {z : Int32} {y : Int32} : Rs L xs (d) 203 36 [a0, a1, a2, a3, some (.int y), a5] (.int z :: st) M x = Rs L xs (d) 203 38 [a0, a1, a2, a3, some (.int y), some (.int z)] st M x := Rs_next c203_36 rfl
theorem s203_36r {L : Nat} {xs : Nat → Int32} {d x : Nat} {M : qxM} {st : List Value} {a0 a1 a2 a3 a5 : Option Value} {z : Int32} {y : Nat} : Rs L xs (d) 203 36 [a0, a1, a2, a3, some (.ref y), a5] (.int z :: st) M x = Rs L xs (d) 203 38 [a0, a1, a2, a3, some (.ref y), some (.int z)] st M x := Rs_next c203_36 rfl
theorem s203_36n {L : Nat} {xs : Nat → Int32} {d x : Nat} {M : qxM} {st : List Value} {a0 a1 a2 a3 a5 : Option Value} {z : Int32} : Rs L xs (d) 203 36 [a0, a1, a2, a3, none, a5] (.int z :: st) M x = Rs L xs (d) 203 38 [a0, a1, a2, a3, none, some (.int z)] st M x := Rs_next c203_36 rfl
theorem c203_38 : qx_code 203 38 = some (38, .aload_n 0, 39, 0, 0, 0) := by decide +kernel
theorem s203_38 {L : Nat} {xs : Nat → Int32} {d x : Nat} {M : qxM} {st : List Value} {a1 a2 a3 a4 a5 : Option Value} {z : Nat} : Rs L xs (d) 203 38 [some (.ref z), a1, a2, a3, a4, a5] st M x = Rs L xs (d) 203 39 [some (.ref z), a1, a2, a3, a4, a5] (.ref z :: st) M x := Rs_next c203_38 rfl
theorem c203_39 : qx_code 203 39 = some (39, .getfield 63, 42, 8, 10, 1555) := by decide +kernel
theorem s203_39 {L : Nat} {xs : Nat → Int32} {d x : Nat} {M : qxM} {st : List Value} {ls : qxL} {t : Nat} (hk : qx_kd t = 18) : Rs L xs (d) 203 39 ls (.ref t :: st) M x = Rs L xs (d) 203 42 ls (.int (M.1 t 10) :: st) M x := Rs_when (qx_kd_obj (k := 8) (by decide) hk) c203_39 rfl
theorem c203_42 : qx_code 203 42 = some (42, .ifCond .ne 17, 45, 59, 0, 0) := by decide +kernel
theorem s203_42 {L : Nat} {xs : Nat → Int32} {d x : Nat} {M : qxM} {st : List Value} {ls : qxL} {z : Int32} : Rs L xs (d) 203 42 ls (.int z :: st) M x = if z = 0 then Rs L xs (d) 203 45 ls st M x else Rs L xs (d) 203 59 ls st M x := Rs_ite c203_42 rfl
theorem c203_45 : qx_code 203 45 = some (45, .iload_n 2, 46, 0, 0, 0) := by decide +kernel
theorem s203_45 {L : Nat} {xs : Nat → Int32} {d x : Nat} {M : qxM} {st : List Value} {a0 a1 a3 a4 a5 : Option Value} {z : Int32} : Rs L xs (d) 203 45 [a0, a1, some (.int z), a3, a4, a5] st M x = Rs L xs (d) 203 46 [a0, a1, some (.int z), a3, a4, a5] (.int z :: st) M x := Rs_next c203_45 rfl
theorem c203_46 : qx_code 203 46 = some (46, .iload 5, 48, 0, 0, 0) := by decide +kernel
theorem s203_46 {L : Nat} {xs : Nat → Int32} {d x : Nat} {M : qxM} {st : List Value} {a0 a1 a2 a3 a4 : Option Value} {z : Int32} : Rs L xs (d) 203 46 [a0, a1, a2, a3, a4, some (.int z)] st M x = Rs L xs (d) 203 48 [a0, a1, a2, a3, a4, some (.int z)] (.int z :: st) M x := Rs_next c203_46 rfl
theorem c203_48 : qx_code 203 48 = some (48, .invokestatic 128, 51, 208, 2, 1729) := by decide +kernel
theorem s203_48 {L : Nat} {xs : Nat → Int32} {d x : Nat} {M : qxM} {st : List Value} {ls : qxL} {z0 : Int32} {z1 : Int32} (hs : st.length ≤ 4) : Rs L xs (d + 1) 203 48 ls (.int z1 :: .int z0 :: st) M x = (Rs L xs d 208 0 [some (.int z0), some (.int z1)] [] M 0).bind (qx_kn L xs (d + 1) 203 48 51 208 ls st x) := by
  have h1 : qx_act L xs (qx_rt 203) (48, .invokestatic 128, 51, 208, 2, 1729) ls (.int z1 :: .int z0 :: st) M = if 2 ≤ (.int z1 :: .int z0 :: st).length ∧ st.length ≤ 4 then some (.inr (.inr (.inr (208, [.int z0, .int z1], st)))) else none := rfl
  rw [if_pos ⟨by simp [List.length_cons]; try omega, hs⟩] at h1
  exact Rs_call c203_48 h1 rfl
theorem c203_51 : qx_code 203 51 = some (51, .ifCond .eq 8, 54, 59, 0, 0) := by decide +kernel
theorem s203_51 {L : Nat} {xs : Nat → Int32} {d x : Nat} {M : qxM} {st : List Value} {ls : qxL} {z : Int32} : Rs L xs (d) 203 51 ls (.int z :: st) M x = if z = 0 then Rs L xs (d) 203 59 ls st M x else Rs L xs (d) 203 54 ls st M x := Rs_ite c203_51 rfl
theorem c203_54 : qx_code 203 54 = some (54, .aload_n 0, 55, 0, 0, 0) := by decide +kernel
theorem s203_54 {L : Nat} {xs : Nat → Int32} {d x : Nat} {M : qxM} {st : List Value} {a1 a2 a3 a4 a5 : Option Value} {z : Nat} : Rs L xs (d) 203 54 [some (.ref z), a1, a2, a3, a4, a5] st M x = Rs L xs (d) 203 55 [some (.ref z), a1, a2, a3, a4, a5] (.ref z :: st) M x := Rs_next c203_54 rfl
theorem c203_55 : qx_code 203 55 = some (55, .iconst 3, 56, 0, 0, 0) := by decide +kernel
theorem s203_55 {L : Nat} {xs : Nat → Int32} {d x : Nat} {M : qxM} {st : List Value} {ls : qxL} : Rs L xs (d) 203 55 ls st M x = Rs L xs (d) 203 56 ls (.int (nI 3) :: st) M x := Rs_next c203_55 rfl
theorem c203_56 : qx_code 203 56 = some (56, .invokevirtual 105, 59, 193, 2, 1682) := by decide +kernel
theorem s203_56 {L : Nat} {xs : Nat → Int32} {d x : Nat} {M : qxM} {st : List Value} {ls : qxL} {t : Nat} {z0 : Int32} (hk : qx_kd t = 18) (hs : st.length ≤ 4) : Rs L xs (d + 1) 203 56 ls (.int z0 :: .ref t :: st) M x = (Rs L xs d 193 0 [some (.ref t), some (.int z0)] [] M 0).bind (qx_kn L xs (d + 1) 203 56 59 193 ls st x) := by
  have h1 : qx_act L xs (qx_rt 203) (56, .invokevirtual 105, 59, 193, 2, 1682) ls (.int z0 :: .ref t :: st) M = if 2 ≤ (.int z0 :: .ref t :: st).length ∧ st.length ≤ 4 then some (.inr (.inr (.inr (193, [.ref t, .int z0], st)))) else none := rfl
  rw [if_pos ⟨by simp [List.length_cons]; try omega, hs⟩] at h1
  have h2 := qx_kd_obj (k := 8) (by decide) hk
  exact Rs_call c203_56 h1 (by rw [show qx_args 193 [.ref t, .int z0] = decide (qx_sh t = some (.inl 8)) from rfl]; exact decide_eq_true h2)
theorem c203_59 : qx_code 203 59 = some (59, .aload_n 0, 60, 0, 0, 0) := by decide +kernel
theorem s203_59 {L : Nat} {xs : Nat → Int32} {d x : Nat} {M : qxM} {st : List Value} {a1 a2 a3 a4 a5 : Option Value} {z : Nat} : Rs L xs (d) 203 59 [some (.ref z), a1, a2, a3, a4, a5] st M x = Rs L xs (d) 203 60 [some (.ref z), a1, a2, a3, a4, a5] (.ref z :: st) M x := Rs_next c203_59 rfl
theorem c203_60 : qx_code 203 60 = some (60, .getfield 63, 63, 8, 10, 1555) := by decide +kernel
theorem s203_60 {L : Nat} {xs : Nat → Int32} {d x : Nat} {M : qxM} {st : List Value} {ls : qxL} {t : Nat} (hk : qx_kd t = 18) : Rs L xs (d) 203 60 ls (.ref t :: st) M x = Rs L xs (d) 203 63 ls (.int (M.1 t 10) :: st) M x := Rs_when (qx_kd_obj (k := 8) (by decide) hk) c203_60 rfl
theorem c203_63 : qx_code 203 63 = some (63, .ifCond .le 4, 66, 67, 0, 0) := by decide +kernel
theorem s203_63 {L : Nat} {xs : Nat → Int32} {d x : Nat} {M : qxM} {st : List Value} {ls : qxL} {z : Int32} : Rs L xs (d) 203 63 ls (.int z :: st) M x = if z ≤ 0 then Rs L xs (d) 203 67 ls st M x else Rs L xs (d) 203 66 ls st M x := Rs_ite c203_63 rfl
theorem c203_66 : qx_code 203 66 = some (66, .return_, 67, 0, 0, 0) := by decide +kernel
theorem s203_66 {L : Nat} {xs : Nat → Int32} {d x : Nat} {M : qxM} {ls : qxL} : Rs L xs (d) 203 66 ls [] M x = some (.inl none, M, x) := Rs_ret c203_66 rfl
theorem c203_67 : qx_code 203 67 = some (67, .aload_n 0, 68, 0, 0, 0) := by decide +kernel
theorem s203_67 {L : Nat} {xs : Nat → Int32} {d x : Nat} {M : qxM} {st : List Value} {a1 a2 a3 a4 a5 : Option Value} {z : Nat} : Rs L xs (d) 203 67 [some (.ref z), a1, a2, a3, a4, a5] st M x = Rs L xs (d) 203 68 [some (.ref z), a1, a2, a3, a4, a5] (.ref z :: st) M x := Rs_next c203_67 rfl
theorem c203_68 : qx_code 203 68 = some (68, .iload_n 3, 69, 0, 0, 0) := by decide +kernel
theorem s203_68 {L : Nat} {xs : Nat → Int32} {d x : Nat} {M : qxM} {st : List Value} {a0 a1 a2 a4 a5 : Option Value} {z : Int32} : Rs L xs (d) 203 68 [a0, a1, a2, some (.int z), a4, a5] st M x = Rs L xs (d) 203 69 [a0, a1, a2, some (.int z), a4, a5] (.int z :: st) M x := Rs_next c203_68 rfl
theorem c203_69 : qx_code 203 69 = some (69, .iload 5, 71, 0, 0, 0) := by decide +kernel
theorem s203_69 {L : Nat} {xs : Nat → Int32} {d x : Nat} {M : qxM} {st : List Value} {a0 a1 a2 a3 a4 : Option Value} {z : Int32} : Rs L xs (d) 203 69 [a0, a1, a2, a3, a4, some (.int z)] st M x = Rs L xs (d) 203 71 [a0, a1, a2, a3, a4, some (.int z)] (.int z :: st) M x := Rs_next c203_69 rfl
theorem c203_71 : qx_code 203 71 = some (71, .iconst 1, 72, 0, 0, 0) := by decide +kernel
theorem s203_71 {L : Nat} {xs : Nat → Int32} {d x : Nat} {M : qxM} {st : List Value} {ls : qxL} : Rs L xs (d) 203 71 ls st M x = Rs L xs (d) 203 72 ls (.int (nI 1) :: st) M x := Rs_next c203_71 rfl
theorem c203_72 : qx_code 203 72 = some (72, .invokevirtual 121, 75, 217, 4, 1720) := by decide +kernel
theorem s203_72 {L : Nat} {xs : Nat → Int32} {d x : Nat} {M : qxM} {st : List Value} {ls : qxL} {t : Nat} {z0 : Int32} {z1 : Int32} {z2 : Int32} (hk : qx_kd t = 18) (hs : st.length ≤ 4) : Rs L xs (d + 1) 203 72 ls (.int z2 :: .int z1 :: .int z0 :: .ref t :: st) M x = (Rs L xs d 217 0 [some (.ref t), some (.int z0), some (.int z1), some (.int z2)] [] M 0).bind (qx_kn L xs (d + 1) 203 72 75 217 ls st x) := by
  have h1 : qx_act L xs (qx_rt 203) (72, .invokevirtual 121, 75, 217, 4, 1720) ls (.int z2 :: .int z1 :: .int z0 :: .ref t :: st) M = if 4 ≤ (.int z2 :: .int z1 :: .int z0 :: .ref t :: st).length ∧ st.length ≤ 4 then some (.inr (.inr (.inr (217, [.ref t, .int z0, .int z1, .int z2], st)))) else none := rfl
  rw [if_pos ⟨by simp [List.length_cons]; try omega, hs⟩] at h1
  have h2 := qx_kd_obj (k := 8) (by decide) hk
  exact Rs_call c203_72 h1 (by rw [show qx_args 217 [.ref t, .int z0, .int z1, .int z2] = decide (qx_sh t = some (.inl 8)) from rfl]; exact decide_eq_true h2)
theorem c203_75 : qx_code 203 75 = some (75, .iload_n 2, 76, 0, 0, 0) := by decide +kernel
theorem s203_75 {L : Nat} {xs : Nat → Int32} {d x : Nat} {M : qxM} {st : List Value} {a0 a1 a3 a4 a5 : Option Value} {z : Int32} : Rs L xs (d) 203 75 [a0, a1, some (.int z), a3, a4, a5] st M x = Rs L xs (d) 203 76 [a0, a1, some (.int z), a3, a4, a5] (.int z :: st) M x := Rs_next c203_75 rfl
theorem c203_76 : qx_code 203 76 = some (76, .iconst 1, 77, 0, 0, 0) := by decide +kernel
theorem s203_76 {L : Nat} {xs : Nat → Int32} {d x : Nat} {M : qxM} {st : List Value} {ls : qxL} : Rs L xs (d) 203 76 ls st M x = Rs L xs (d) 203 77 ls (.int (nI 1) :: st) M x := Rs_next c203_76 rfl
theorem c203_77 : qx_code 203 77 = some (77, .iload 5, 79, 0, 0, 0) := by decide +kernel
theorem s203_77 {L : Nat} {xs : Nat → Int32} {d x : Nat} {M : qxM} {st : List Value} {a0 a1 a2 a3 a4 : Option Value} {z : Int32} : Rs L xs (d) 203 77 [a0, a1, a2, a3, a4, some (.int z)] st M x = Rs L xs (d) 203 79 [a0, a1, a2, a3, a4, some (.int z)] (.int z :: st) M x := Rs_next c203_77 rfl
theorem c203_79 : qx_code 203 79 = some (79, .ishl, 80, 0, 0, 0) := by decide +kernel
theorem s203_79 {L : Nat} {xs : Nat → Int32} {d x : Nat} {M : qxM} {st : List Value} {ls : qxL} {z y : Int32} : Rs L xs (d) 203 79 ls (.int y :: .int z :: st) M x = Rs L xs (d) 203 80 ls (.int (z <<< (y &&& 31)) :: st) M x := Rs_next c203_79 rfl
theorem c203_80 : qx_code 203 80 = some (80, .ior, 81, 0, 0, 0) := by decide +kernel
theorem s203_80 {L : Nat} {xs : Nat → Int32} {d x : Nat} {M : qxM} {st : List Value} {ls : qxL} {z y : Int32} : Rs L xs (d) 203 80 ls (.int y :: .int z :: st) M x = Rs L xs (d) 203 81 ls (.int (z ||| y) :: st) M x := Rs_next c203_80 rfl
theorem c203_81 : qx_code 203 81 = some (81, .istore_n 2, 82, 0, 0, 0) := by decide +kernel
theorem s203_81i {L : Nat} {xs : Nat → Int32} {d x : Nat} {M : qxM} {st : List Value} {a0 a2 a3 a4 a5 : Option Value} {z : Int32} {y : Int32} : Rs L xs (d) 203 81 [a0, some (.int y), a2, a3, a4, a5] (.int z :: st) M x = Rs L xs (d) 203 82 [a0, some (.int y), some (.int z), a3, a4, a5] st M x := Rs_next c203_81 rfl
theorem s203_81r {L : Nat} {xs : Nat → Int32} {d x : Nat} {M : qxM} {st : List Value} {a0 a2 a3 a4 a5 : Option Value} {z : Int32} {y : Nat} : Rs L xs (d) 203 81 [a0, some (.ref y), a2, a3, a4, a5] (.int z :: st) M x = Rs L xs (d) 203 82 [a0, some (.ref y), some (.int z), a3, a4, a5] st M x := Rs_next c203_81 rfl
theorem s203_81n {L : Nat} {xs : Nat → Int32} {d x : Nat} {M : qxM} {st : List Value} {a0 a2 a3 a4 a5 : Option Value} {z : Int32} : Rs L xs (d) 203 81 [a0, none, a2, a3, a4, a5] (.int z :: st) M x = Rs L xs (d) 203 82 [a0, none, some (.int z), a3, a4, a5] st M x := Rs_next c203_81 rfl
theorem c203_82 : qx_code 203 82 = some (82, .iload 5, 84, 0, 0, 0) := by decide +kernel
theorem s203_82 {L : Nat} {xs : Nat → Int32} {d x : Nat} {M : qxM} {st : List Value} {a0 a1 a2 a3 a4 : Option Value} {z : Int32} : Rs L xs (d) 203 82 [a0, a1, a2, a3, a4, some (.int z)] st M x = Rs L xs (d) 203 84 [a0, a1, a2, a3, a4, some (.int z)] (.int z :: st) M x := Rs_next c203_82 rfl
theorem c203_84 : qx_code 203 84 = some (84, .istore_n 3, 85, 0, 0, 0) := by decide +kernel
theorem s203_84i {L : Nat} {xs : Nat → Int32} {d x : Nat} {M : qxM} {st : List Value} {a0 a1 a3 a4 a5 : Option Value} {z : Int32} {y : Int32} : Rs L xs (d) 203 84 [a0, a1, some (.int y), a3, a4, a5] (.int z :: st) M x = Rs L xs (d) 203 85 [a0, a1, some (.int y), some (.int z), a4, a5] st M x := Rs_next c203_84 rfl
theorem s203_84r {L : Nat} {xs : Nat → Int32} {d x : Nat} {M : qxM} {st : List Value} {a0 a1 a3 a4 a5 : Option Value} {z : Int32} {y : Nat} : Rs L xs (d) 203 84 [a0, a1, some (.ref y), a3, a4, a5] (.int z :: st) M x = Rs L xs (d) 203 85 [a0, a1, some (.ref y), some (.int z), a4, a5] st M x := Rs_next c203_84 rfl
theorem s203_84n {L : Nat} {xs : Nat → Int32} {d x : Nat} {M : qxM} {st : List Value} {a0 a1 a3 a4 a5 : Option Value} {z : Int32} : Rs L xs (d) 203 84 [a0, a1, none, a3, a4, a5] (.int z :: st) M x = Rs L xs (d) 203 85 [a0, a1, none, some (.int z), a4, a5] st M x := Rs_next c203_84 rfl
theorem c203_85 : qx_code 203 85 = some (85, .aload_n 0, 86, 0, 0, 0) := by decide +kernel
theorem s203_85 {L : Nat} {xs : Nat → Int32} {d x : Nat} {M : qxM} {st : List Value} {a1 a2 a3 a4 a5 : Option Value} {z : Nat} : Rs L xs (d) 203 85 [some (.ref z), a1, a2, a3, a4, a5] st M x = Rs L xs (d) 203 86 [some (.ref z), a1, a2, a3, a4, a5] (.ref z :: st) M x := Rs_next c203_85 rfl
theorem c203_86 : qx_code 203 86 = some (86, .invokevirtual 112, 89, 192, 1, 1659) := by decide +kernel
theorem s203_86 {L : Nat} {xs : Nat → Int32} {d x : Nat} {M : qxM} {st : List Value} {ls : qxL} {t : Nat} (hk : qx_kd t = 18) (hs : st.length ≤ 4) : Rs L xs (d + 1) 203 86 ls (.ref t :: st) M x = (Rs L xs d 192 0 [some (.ref t)] [] M 0).bind (qx_kn L xs (d + 1) 203 86 89 192 ls st x) := by
  have h1 : qx_act L xs (qx_rt 203) (86, .invokevirtual 112, 89, 192, 1, 1659) ls (.ref t :: st) M = if 1 ≤ (.ref t :: st).length ∧ st.length ≤ 4 then some (.inr (.inr (.inr (192, [.ref t], st)))) else none := rfl
  rw [if_pos ⟨by simp [List.length_cons]; try omega, hs⟩] at h1
  have h2 := qx_kd_obj (k := 8) (by decide) hk
  exact Rs_call c203_86 h1 (by rw [show qx_args 192 [.ref t] = decide (qx_sh t = some (.inl 8)) from rfl]; exact decide_eq_true h2)
theorem c203_89 : qx_code 203 89 = some (89, .iinc 4 1, 92, 0, 0, 0) := by decide +kernel
theorem s203_89i {L : Nat} {xs : Nat → Int32} {d x : Nat} {M : qxM} {st : List Value} {a0 a1 a2 a5 : Option Value} {z : Int32} {y : Int32} : Rs L xs (d) 203 89 [a0, a1, a2, some (.int y), some (.int z), a5] st M x = Rs L xs (d) 203 92 [a0, a1, a2, some (.int y), some (.int (z + (nI 1))), a5] st M x := Rs_next c203_89 rfl
theorem s203_89r {L : Nat} {xs : Nat → Int32} {d x : Nat} {M : qxM} {st : List Value} {a0 a1 a2 a5 : Option Value} {z : Int32} {y : Nat} : Rs L xs (d) 203 89 [a0, a1, a2, some (.ref y), some (.int z), a5] st M x = Rs L xs (d) 203 92 [a0, a1, a2, some (.ref y), some (.int (z + (nI 1))), a5] st M x := Rs_next c203_89 rfl
theorem s203_89n {L : Nat} {xs : Nat → Int32} {d x : Nat} {M : qxM} {st : List Value} {a0 a1 a2 a5 : Option Value} {z : Int32} : Rs L xs (d) 203 89 [a0, a1, a2, none, some (.int z), a5] st M x = Rs L xs (d) 203 92 [a0, a1, a2, none, some (.int (z + (nI 1))), a5] st M x := Rs_next c203_89 rfl
theorem c203_92 : qx_code 203 92 = some (92, .goto (-74), 95, 18, 0, 0) := by decide +kernel
theorem s203_92 {L : Nat} {xs : Nat → Int32} {d x : Nat} {M : qxM} {st : List Value} {ls : qxL} : Rs L xs (d) 203 92 ls st M x = Rs L xs (d) 203 18 ls st M x := Rs_next c203_92 rfl
theorem c203_95 : qx_code 203 95 = some (95, .aload_n 0, 96, 0, 0, 0) := by decide +kernel
theorem s203_95 {L : Nat} {xs : Nat → Int32} {d x : Nat} {M : qxM} {st : List Value} {a1 a2 a3 a4 a5 : Option Value} {z : Nat} : Rs L xs (d) 203 95 [some (.ref z), a1, a2, a3, a4, a5] st M x = Rs L xs (d) 203 96 [some (.ref z), a1, a2, a3, a4, a5] (.ref z :: st) M x := Rs_next c203_95 rfl
theorem c203_96 : qx_code 203 96 = some (96, .iload_n 3, 97, 0, 0, 0) := by decide +kernel
theorem s203_96 {L : Nat} {xs : Nat → Int32} {d x : Nat} {M : qxM} {st : List Value} {a0 a1 a2 a4 a5 : Option Value} {z : Int32} : Rs L xs (d) 203 96 [a0, a1, a2, some (.int z), a4, a5] st M x = Rs L xs (d) 203 97 [a0, a1, a2, some (.int z), a4, a5] (.int z :: st) M x := Rs_next c203_96 rfl
theorem c203_97 : qx_code 203 97 = some (97, .iload_n 1, 98, 0, 0, 0) := by decide +kernel
theorem s203_97 {L : Nat} {xs : Nat → Int32} {d x : Nat} {M : qxM} {st : List Value} {a0 a2 a3 a4 a5 : Option Value} {z : Int32} : Rs L xs (d) 203 97 [a0, some (.int z), a2, a3, a4, a5] st M x = Rs L xs (d) 203 98 [a0, some (.int z), a2, a3, a4, a5] (.int z :: st) M x := Rs_next c203_97 rfl
theorem c203_98 : qx_code 203 98 = some (98, .iconst 1, 99, 0, 0, 0) := by decide +kernel
theorem s203_98 {L : Nat} {xs : Nat → Int32} {d x : Nat} {M : qxM} {st : List Value} {ls : qxL} : Rs L xs (d) 203 98 ls st M x = Rs L xs (d) 203 99 ls (.int (nI 1) :: st) M x := Rs_next c203_98 rfl
theorem c203_99 : qx_code 203 99 = some (99, .invokevirtual 121, 102, 217, 4, 1720) := by decide +kernel
theorem s203_99 {L : Nat} {xs : Nat → Int32} {d x : Nat} {M : qxM} {st : List Value} {ls : qxL} {t : Nat} {z0 : Int32} {z1 : Int32} {z2 : Int32} (hk : qx_kd t = 18) (hs : st.length ≤ 4) : Rs L xs (d + 1) 203 99 ls (.int z2 :: .int z1 :: .int z0 :: .ref t :: st) M x = (Rs L xs d 217 0 [some (.ref t), some (.int z0), some (.int z1), some (.int z2)] [] M 0).bind (qx_kn L xs (d + 1) 203 99 102 217 ls st x) := by
  have h1 : qx_act L xs (qx_rt 203) (99, .invokevirtual 121, 102, 217, 4, 1720) ls (.int z2 :: .int z1 :: .int z0 :: .ref t :: st) M = if 4 ≤ (.int z2 :: .int z1 :: .int z0 :: .ref t :: st).length ∧ st.length ≤ 4 then some (.inr (.inr (.inr (217, [.ref t, .int z0, .int z1, .int z2], st)))) else none := rfl
  rw [if_pos ⟨by simp [List.length_cons]; try omega, hs⟩] at h1
  have h2 := qx_kd_obj (k := 8) (by decide) hk
  exact Rs_call c203_99 h1 (by rw [show qx_args 217 [.ref t, .int z0, .int z1, .int z2] = decide (qx_sh t = some (.inl 8)) from rfl]; exact decide_eq_true h2)
theorem c203_102 : qx_code 203 102 = some (102, .return_, 103, 0, 0, 0) := by decide +kernel
theorem s203_102 {L : Nat} {xs : Nat → Int32} {d x : Nat} {M : qxM} {ls : qxL} : Rs L xs (d) 203 102 ls [] M x = some (.inl none, M, x) := Rs_ret c203_102 rfl
theorem c204_0 : qx_code 204 0 = some (0, .aload_n 0, 1, 0, 0, 0) := by decide +kernel
theorem s204_0 {L : Nat} {xs : Nat → Int32} {d x : Nat} {M : qxM} {st : List Value} {a1 a2 : Option Value} {z : Nat} : Rs L xs (d) 204 0 [some (.ref z), a1, a2] st M x = Rs L xs (d) 204 1 [some (.ref z), a1, a2] (.ref z :: st) M x := Rs_next c204_0 rfl
theorem c204_1 : qx_code 204 1 = some (1, .invokevirtual 112, 4, 192, 1, 1659) := by decide +kernel
theorem s204_1 {L : Nat} {xs : Nat → Int32} {d x : Nat} {M : qxM} {st : List Value} {ls : qxL} {t : Nat} (hk : qx_kd t = 18) (hs : st.length ≤ 4) : Rs L xs (d + 1) 204 1 ls (.ref t :: st) M x = (Rs L xs d 192 0 [some (.ref t)] [] M 0).bind (qx_kn L xs (d + 1) 204 1 4 192 ls st x) := by
  have h1 : qx_act L xs (qx_rt 204) (1, .invokevirtual 112, 4, 192, 1, 1659) ls (.ref t :: st) M = if 1 ≤ (.ref t :: st).length ∧ st.length ≤ 4 then some (.inr (.inr (.inr (192, [.ref t], st)))) else none := rfl
  rw [if_pos ⟨by simp [List.length_cons]; try omega, hs⟩] at h1
  have h2 := qx_kd_obj (k := 8) (by decide) hk
  exact Rs_call c204_1 h1 (by rw [show qx_args 192 [.ref t] = decide (qx_sh t = some (.inl 8)) from rfl]; exact decide_eq_true h2)
theorem c204_4 : qx_code 204 4 = some (4, .aload_n 0, 5, 0, 0, 0) := by decide +kernel
theorem s204_4 {L : Nat} {xs : Nat → Int32} {d x : Nat} {M : qxM} {st : List Value} {a1 a2 : Option Value} {z : Nat} : Rs L xs (d) 204 4 [some (.ref z), a1, a2] st M x = Rs L xs (d) 204 5 [some (.ref z), a1, a2] (.ref z :: st) M x := Rs_next c204_4 rfl
theorem c204_5 : qx_code 204 5 = some (5, .invokevirtual 115, 8, 198, 1, 1707) := by decide +kernel
theorem s204_5 {L : Nat} {xs : Nat → Int32} {d x : Nat} {M : qxM} {st : List Value} {ls : qxL} {t : Nat} (hk : qx_kd t = 18) (hs : st.length ≤ 4) : Rs L xs (d + 1) 204 5 ls (.ref t :: st) M x = (Rs L xs d 198 0 [some (.ref t)] [] M 0).bind (qx_kn L xs (d + 1) 204 5 8 198 ls st x) := by
  have h1 : qx_act L xs (qx_rt 204) (5, .invokevirtual 115, 8, 198, 1, 1707) ls (.ref t :: st) M = if 1 ≤ (.ref t :: st).length ∧ st.length ≤ 4 then some (.inr (.inr (.inr (198, [.ref t], st)))) else none := rfl
  rw [if_pos ⟨by simp [List.length_cons]; try omega, hs⟩] at h1
  have h2 := qx_kd_obj (k := 8) (by decide) hk
  exact Rs_call c204_5 h1 (by rw [show qx_args 198 [.ref t] = decide (qx_sh t = some (.inl 8)) from rfl]; exact decide_eq_true h2)
theorem c204_8 : qx_code 204 8 = some (8, .istore_n 1, 9, 0, 0, 0) := by decide +kernel
theorem s204_8i {L : Nat} {xs : Nat → Int32} {d x : Nat} {M : qxM} {st : List Value} {a1 a2 : Option Value} {z : Int32} {y : Int32} : Rs L xs (d) 204 8 [some (.int y), a1, a2] (.int z :: st) M x = Rs L xs (d) 204 9 [some (.int y), some (.int z), a2] st M x := Rs_next c204_8 rfl
theorem s204_8r {L : Nat} {xs : Nat → Int32} {d x : Nat} {M : qxM} {st : List Value} {a1 a2 : Option Value} {z : Int32} {y : Nat} : Rs L xs (d) 204 8 [some (.ref y), a1, a2] (.int z :: st) M x = Rs L xs (d) 204 9 [some (.ref y), some (.int z), a2] st M x := Rs_next c204_8 rfl
theorem s204_8n {L : Nat} {xs : Nat → Int32} {d x : Nat} {M : qxM} {st : List Value} {a1 a2 : Option Value} {z : Int32} : Rs L xs (d) 204 8 [none, a1, a2] (.int z :: st) M x = Rs L xs (d) 204 9 [none, some (.int z), a2] st M x := Rs_next c204_8 rfl
theorem c204_9 : qx_code 204 9 = some (9, .aload_n 0, 10, 0, 0, 0) := by decide +kernel
theorem s204_9 {L : Nat} {xs : Nat → Int32} {d x : Nat} {M : qxM} {st : List Value} {a1 a2 : Option Value} {z : Nat} : Rs L xs (d) 204 9 [some (.ref z), a1, a2] st M x = Rs L xs (d) 204 10 [some (.ref z), a1, a2] (.ref z :: st) M x := Rs_next c204_9 rfl
theorem c204_10 : qx_code 204 10 = some (10, .getfield 63, 13, 8, 10, 1555) := by decide +kernel
theorem s204_10 {L : Nat} {xs : Nat → Int32} {d x : Nat} {M : qxM} {st : List Value} {ls : qxL} {t : Nat} (hk : qx_kd t = 18) : Rs L xs (d) 204 10 ls (.ref t :: st) M x = Rs L xs (d) 204 13 ls (.int (M.1 t 10) :: st) M x := Rs_when (qx_kd_obj (k := 8) (by decide) hk) c204_10 rfl
theorem c204_13 : qx_code 204 13 = some (13, .ifCond .ne 17, 16, 30, 0, 0) := by decide +kernel
theorem s204_13 {L : Nat} {xs : Nat → Int32} {d x : Nat} {M : qxM} {st : List Value} {ls : qxL} {z : Int32} : Rs L xs (d) 204 13 ls (.int z :: st) M x = if z = 0 then Rs L xs (d) 204 16 ls st M x else Rs L xs (d) 204 30 ls st M x := Rs_ite c204_13 rfl
theorem c204_16 : qx_code 204 16 = some (16, .aload_n 0, 17, 0, 0, 0) := by decide +kernel
theorem s204_16 {L : Nat} {xs : Nat → Int32} {d x : Nat} {M : qxM} {st : List Value} {a1 a2 : Option Value} {z : Nat} : Rs L xs (d) 204 16 [some (.ref z), a1, a2] st M x = Rs L xs (d) 204 17 [some (.ref z), a1, a2] (.ref z :: st) M x := Rs_next c204_16 rfl
theorem c204_17 : qx_code 204 17 = some (17, .iload_n 1, 18, 0, 0, 0) := by decide +kernel
theorem s204_17 {L : Nat} {xs : Nat → Int32} {d x : Nat} {M : qxM} {st : List Value} {a0 a2 : Option Value} {z : Int32} : Rs L xs (d) 204 17 [a0, some (.int z), a2] st M x = Rs L xs (d) 204 18 [a0, some (.int z), a2] (.int z :: st) M x := Rs_next c204_17 rfl
theorem c204_18 : qx_code 204 18 = some (18, .invokevirtual 132, 21, 213, 2, 1737) := by decide +kernel
theorem s204_18 {L : Nat} {xs : Nat → Int32} {d x : Nat} {M : qxM} {st : List Value} {ls : qxL} {t : Nat} {z0 : Int32} (hk : qx_kd t = 18) (hs : st.length ≤ 4) : Rs L xs (d + 1) 204 18 ls (.int z0 :: .ref t :: st) M x = (Rs L xs d 213 0 [some (.ref t), some (.int z0)] [] M 0).bind (qx_kn L xs (d + 1) 204 18 21 213 ls st x) := by
  have h1 : qx_act L xs (qx_rt 204) (18, .invokevirtual 132, 21, 213, 2, 1737) ls (.int z0 :: .ref t :: st) M = if 2 ≤ (.int z0 :: .ref t :: st).length ∧ st.length ≤ 4 then some (.inr (.inr (.inr (213, [.ref t, .int z0], st)))) else none := rfl
  rw [if_pos ⟨by simp [List.length_cons]; try omega, hs⟩] at h1
  have h2 := qx_kd_obj (k := 8) (by decide) hk
  exact Rs_call c204_18 h1 (by rw [show qx_args 213 [.ref t, .int z0] = decide (qx_sh t = some (.inl 8)) from rfl]; exact decide_eq_true h2)
theorem c204_21 : qx_code 204 21 = some (21, .iconst (-1), 22, 0, 0, 0) := by decide +kernel
theorem s204_21 {L : Nat} {xs : Nat → Int32} {d x : Nat} {M : qxM} {st : List Value} {ls : qxL} : Rs L xs (d) 204 21 ls st M x = Rs L xs (d) 204 22 ls (.int (-1) :: st) M x := Rs_next c204_21 rfl
theorem c204_22 : qx_code 204 22 = some (22, .if_icmp .eq 8, 25, 30, 0, 0) := by decide +kernel
theorem s204_22 {L : Nat} {xs : Nat → Int32} {d x : Nat} {M : qxM} {st : List Value} {ls : qxL} {z y : Int32} : Rs L xs (d) 204 22 ls (.int y :: .int z :: st) M x = if z = y then Rs L xs (d) 204 30 ls st M x else Rs L xs (d) 204 25 ls st M x := Rs_ite c204_22 rfl
theorem c204_25 : qx_code 204 25 = some (25, .aload_n 0, 26, 0, 0, 0) := by decide +kernel
theorem s204_25 {L : Nat} {xs : Nat → Int32} {d x : Nat} {M : qxM} {st : List Value} {a1 a2 : Option Value} {z : Nat} : Rs L xs (d) 204 25 [some (.ref z), a1, a2] st M x = Rs L xs (d) 204 26 [some (.ref z), a1, a2] (.ref z :: st) M x := Rs_next c204_25 rfl
theorem c204_26 : qx_code 204 26 = some (26, .iconst 4, 27, 0, 0, 0) := by decide +kernel
theorem s204_26 {L : Nat} {xs : Nat → Int32} {d x : Nat} {M : qxM} {st : List Value} {ls : qxL} : Rs L xs (d) 204 26 ls st M x = Rs L xs (d) 204 27 ls (.int (nI 4) :: st) M x := Rs_next c204_26 rfl
theorem c204_27 : qx_code 204 27 = some (27, .invokevirtual 105, 30, 193, 2, 1682) := by decide +kernel
theorem s204_27 {L : Nat} {xs : Nat → Int32} {d x : Nat} {M : qxM} {st : List Value} {ls : qxL} {t : Nat} {z0 : Int32} (hk : qx_kd t = 18) (hs : st.length ≤ 4) : Rs L xs (d + 1) 204 27 ls (.int z0 :: .ref t :: st) M x = (Rs L xs d 193 0 [some (.ref t), some (.int z0)] [] M 0).bind (qx_kn L xs (d + 1) 204 27 30 193 ls st x) := by
  have h1 : qx_act L xs (qx_rt 204) (27, .invokevirtual 105, 30, 193, 2, 1682) ls (.int z0 :: .ref t :: st) M = if 2 ≤ (.int z0 :: .ref t :: st).length ∧ st.length ≤ 4 then some (.inr (.inr (.inr (193, [.ref t, .int z0], st)))) else none := rfl
  rw [if_pos ⟨by simp [List.length_cons]; try omega, hs⟩] at h1
  have h2 := qx_kd_obj (k := 8) (by decide) hk
  exact Rs_call c204_27 h1 (by rw [show qx_args 193 [.ref t, .int z0] = decide (qx_sh t = some (.inl 8)) from rfl]; exact decide_eq_true h2)
theorem c204_30 : qx_code 204 30 = some (30, .aload_n 0, 31, 0, 0, 0) := by decide +kernel
theorem s204_30 {L : Nat} {xs : Nat → Int32} {d x : Nat} {M : qxM} {st : List Value} {a1 a2 : Option Value} {z : Nat} : Rs L xs (d) 204 30 [some (.ref z), a1, a2] st M x = Rs L xs (d) 204 31 [some (.ref z), a1, a2] (.ref z :: st) M x := Rs_next c204_30 rfl
theorem c204_31 : qx_code 204 31 = some (31, .invokevirtual 112, 34, 192, 1, 1659) := by decide +kernel
theorem s204_31 {L : Nat} {xs : Nat → Int32} {d x : Nat} {M : qxM} {st : List Value} {ls : qxL} {t : Nat} (hk : qx_kd t = 18) (hs : st.length ≤ 4) : Rs L xs (d + 1) 204 31 ls (.ref t :: st) M x = (Rs L xs d 192 0 [some (.ref t)] [] M 0).bind (qx_kn L xs (d + 1) 204 31 34 192 ls st x) := by
  have h1 : qx_act L xs (qx_rt 204) (31, .invokevirtual 112, 34, 192, 1, 1659) ls (.ref t :: st) M = if 1 ≤ (.ref t :: st).length ∧ st.length ≤ 4 then some (.inr (.inr (.inr (192, [.ref t], st)))) else none := rfl
  rw [if_pos ⟨by simp [List.length_cons]; try omega, hs⟩] at h1
  have h2 := qx_kd_obj (k := 8) (by decide) hk
  exact Rs_call c204_31 h1 (by rw [show qx_args 192 [.ref t] = decide (qx_sh t = some (.inl 8)) from rfl]; exact decide_eq_true h2)
theorem c204_34 : qx_code 204 34 = some (34, .aload_n 0, 35, 0, 0, 0) := by decide +kernel
theorem s204_34 {L : Nat} {xs : Nat → Int32} {d x : Nat} {M : qxM} {st : List Value} {a1 a2 : Option Value} {z : Nat} : Rs L xs (d) 204 34 [some (.ref z), a1, a2] st M x = Rs L xs (d) 204 35 [some (.ref z), a1, a2] (.ref z :: st) M x := Rs_next c204_34 rfl
theorem c204_35 : qx_code 204 35 = some (35, .invokevirtual 115, 38, 198, 1, 1707) := by decide +kernel
theorem s204_35 {L : Nat} {xs : Nat → Int32} {d x : Nat} {M : qxM} {st : List Value} {ls : qxL} {t : Nat} (hk : qx_kd t = 18) (hs : st.length ≤ 4) : Rs L xs (d + 1) 204 35 ls (.ref t :: st) M x = (Rs L xs d 198 0 [some (.ref t)] [] M 0).bind (qx_kn L xs (d + 1) 204 35 38 198 ls st x) := by
  have h1 : qx_act L xs (qx_rt 204) (35, .invokevirtual 115, 38, 198, 1, 1707) ls (.ref t :: st) M = if 1 ≤ (.ref t :: st).length ∧ st.length ≤ 4 then some (.inr (.inr (.inr (198, [.ref t], st)))) else none := rfl
  rw [if_pos ⟨by simp [List.length_cons]; try omega, hs⟩] at h1
  have h2 := qx_kd_obj (k := 8) (by decide) hk
  exact Rs_call c204_35 h1 (by rw [show qx_args 198 [.ref t] = decide (qx_sh t = some (.inl 8)) from rfl]; exact decide_eq_true h2)
theorem c204_38 : qx_code 204 38 = some (38, .istore_n 2, 39, 0, 0, 0) := by decide +kernel
theorem s204_38i {L : Nat} {xs : Nat → Int32} {d x : Nat} {M : qxM} {st : List Value} {a0 a2 : Option Value} {z : Int32} {y : Int32} : Rs L xs (d) 204 38 [a0, some (.int y), a2] (.int z :: st) M x = Rs L xs (d) 204 39 [a0, some (.int y), some (.int z)] st M x := Rs_next c204_38 rfl
theorem s204_38r {L : Nat} {xs : Nat → Int32} {d x : Nat} {M : qxM} {st : List Value} {a0 a2 : Option Value} {z : Int32} {y : Nat} : Rs L xs (d) 204 38 [a0, some (.ref y), a2] (.int z :: st) M x = Rs L xs (d) 204 39 [a0, some (.ref y), some (.int z)] st M x := Rs_next c204_38 rfl
theorem s204_38n {L : Nat} {xs : Nat → Int32} {d x : Nat} {M : qxM} {st : List Value} {a0 a2 : Option Value} {z : Int32} : Rs L xs (d) 204 38 [a0, none, a2] (.int z :: st) M x = Rs L xs (d) 204 39 [a0, none, some (.int z)] st M x := Rs_next c204_38 rfl
theorem c204_39 : qx_code 204 39 = some (39, .aload_n 0, 40, 0, 0, 0) := by decide +kernel
theorem s204_39 {L : Nat} {xs : Nat → Int32} {d x : Nat} {M : qxM} {st : List Value} {a1 a2 : Option Value} {z : Nat} : Rs L xs (d) 204 39 [some (.ref z), a1, a2] st M x = Rs L xs (d) 204 40 [some (.ref z), a1, a2] (.ref z :: st) M x := Rs_next c204_39 rfl
theorem c204_40 : qx_code 204 40 = some (40, .getfield 63, 43, 8, 10, 1555) := by decide +kernel
theorem s204_40 {L : Nat} {xs : Nat → Int32} {d x : Nat} {M : qxM} {st : List Value} {ls : qxL} {t : Nat} (hk : qx_kd t = 18) : Rs L xs (d) 204 40 ls (.ref t :: st) M x = Rs L xs (d) 204 43 ls (.int (M.1 t 10) :: st) M x := Rs_when (qx_kd_obj (k := 8) (by decide) hk) c204_40 rfl
theorem c204_43 : qx_code 204 43 = some (43, .ifCond .ne 13, 46, 56, 0, 0) := by decide +kernel
theorem s204_43 {L : Nat} {xs : Nat → Int32} {d x : Nat} {M : qxM} {st : List Value} {ls : qxL} {z : Int32} : Rs L xs (d) 204 43 ls (.int z :: st) M x = if z = 0 then Rs L xs (d) 204 46 ls st M x else Rs L xs (d) 204 56 ls st M x := Rs_ite c204_43 rfl
theorem c204_46 : qx_code 204 46 = some (46, .iload_n 1, 47, 0, 0, 0) := by decide +kernel
theorem s204_46 {L : Nat} {xs : Nat → Int32} {d x : Nat} {M : qxM} {st : List Value} {a0 a2 : Option Value} {z : Int32} : Rs L xs (d) 204 46 [a0, some (.int z), a2] st M x = Rs L xs (d) 204 47 [a0, some (.int z), a2] (.int z :: st) M x := Rs_next c204_46 rfl
theorem c204_47 : qx_code 204 47 = some (47, .iload_n 2, 48, 0, 0, 0) := by decide +kernel
theorem s204_47 {L : Nat} {xs : Nat → Int32} {d x : Nat} {M : qxM} {st : List Value} {a0 a1 : Option Value} {z : Int32} : Rs L xs (d) 204 47 [a0, a1, some (.int z)] st M x = Rs L xs (d) 204 48 [a0, a1, some (.int z)] (.int z :: st) M x := Rs_next c204_47 rfl
theorem c204_48 : qx_code 204 48 = some (48, .if_icmp .ne 8, 51, 56, 0, 0) := by decide +kernel
theorem s204_48 {L : Nat} {xs : Nat → Int32} {d x : Nat} {M : qxM} {st : List Value} {ls : qxL} {z y : Int32} : Rs L xs (d) 204 48 ls (.int y :: .int z :: st) M x = if z = y then Rs L xs (d) 204 51 ls st M x else Rs L xs (d) 204 56 ls st M x := Rs_ite c204_48 rfl
theorem c204_51 : qx_code 204 51 = some (51, .aload_n 0, 52, 0, 0, 0) := by decide +kernel
theorem s204_51 {L : Nat} {xs : Nat → Int32} {d x : Nat} {M : qxM} {st : List Value} {a1 a2 : Option Value} {z : Nat} : Rs L xs (d) 204 51 [some (.ref z), a1, a2] st M x = Rs L xs (d) 204 52 [some (.ref z), a1, a2] (.ref z :: st) M x := Rs_next c204_51 rfl
theorem c204_52 : qx_code 204 52 = some (52, .iconst 3, 53, 0, 0, 0) := by decide +kernel
theorem s204_52 {L : Nat} {xs : Nat → Int32} {d x : Nat} {M : qxM} {st : List Value} {ls : qxL} : Rs L xs (d) 204 52 ls st M x = Rs L xs (d) 204 53 ls (.int (nI 3) :: st) M x := Rs_next c204_52 rfl
theorem c204_53 : qx_code 204 53 = some (53, .invokevirtual 105, 56, 193, 2, 1682) := by decide +kernel
theorem s204_53 {L : Nat} {xs : Nat → Int32} {d x : Nat} {M : qxM} {st : List Value} {ls : qxL} {t : Nat} {z0 : Int32} (hk : qx_kd t = 18) (hs : st.length ≤ 4) : Rs L xs (d + 1) 204 53 ls (.int z0 :: .ref t :: st) M x = (Rs L xs d 193 0 [some (.ref t), some (.int z0)] [] M 0).bind (qx_kn L xs (d + 1) 204 53 56 193 ls st x) := by
  have h1 : qx_act L xs (qx_rt 204) (53, .invokevirtual 105, 56, 193, 2, 1682) ls (.int z0 :: .ref t :: st) M = if 2 ≤ (.int z0 :: .ref t :: st).length ∧ st.length ≤ 4 then some (.inr (.inr (.inr (193, [.ref t, .int z0], st)))) else none := rfl
  rw [if_pos ⟨by simp [List.length_cons]; try omega, hs⟩] at h1
  have h2 := qx_kd_obj (k := 8) (by decide) hk
  exact Rs_call c204_53 h1 (by rw [show qx_args 193 [.ref t, .int z0] = decide (qx_sh t = some (.inl 8)) from rfl]; exact decide_eq_true h2)
theorem c204_56 : qx_code 204 56 = some (56, .aload_n 0, 57, 0, 0, 0) := by decide +kernel
theorem s204_56 {L : Nat} {xs : Nat → Int32} {d x : Nat} {M : qxM} {st : List Value} {a1 a2 : Option Value} {z : Nat} : Rs L xs (d) 204 56 [some (.ref z), a1, a2] st M x = Rs L xs (d) 204 57 [some (.ref z), a1, a2] (.ref z :: st) M x := Rs_next c204_56 rfl
theorem c204_57 : qx_code 204 57 = some (57, .getfield 63, 60, 8, 10, 1555) := by decide +kernel
theorem s204_57 {L : Nat} {xs : Nat → Int32} {d x : Nat} {M : qxM} {st : List Value} {ls : qxL} {t : Nat} (hk : qx_kd t = 18) : Rs L xs (d) 204 57 ls (.ref t :: st) M x = Rs L xs (d) 204 60 ls (.int (M.1 t 10) :: st) M x := Rs_when (qx_kd_obj (k := 8) (by decide) hk) c204_57 rfl
theorem c204_60 : qx_code 204 60 = some (60, .ifCond .ne 17, 63, 77, 0, 0) := by decide +kernel
theorem s204_60 {L : Nat} {xs : Nat → Int32} {d x : Nat} {M : qxM} {st : List Value} {ls : qxL} {z : Int32} : Rs L xs (d) 204 60 ls (.int z :: st) M x = if z = 0 then Rs L xs (d) 204 63 ls st M x else Rs L xs (d) 204 77 ls st M x := Rs_ite c204_60 rfl
theorem c204_63 : qx_code 204 63 = some (63, .aload_n 0, 64, 0, 0, 0) := by decide +kernel
theorem s204_63 {L : Nat} {xs : Nat → Int32} {d x : Nat} {M : qxM} {st : List Value} {a1 a2 : Option Value} {z : Nat} : Rs L xs (d) 204 63 [some (.ref z), a1, a2] st M x = Rs L xs (d) 204 64 [some (.ref z), a1, a2] (.ref z :: st) M x := Rs_next c204_63 rfl
theorem c204_64 : qx_code 204 64 = some (64, .iload_n 2, 65, 0, 0, 0) := by decide +kernel
theorem s204_64 {L : Nat} {xs : Nat → Int32} {d x : Nat} {M : qxM} {st : List Value} {a0 a1 : Option Value} {z : Int32} : Rs L xs (d) 204 64 [a0, a1, some (.int z)] st M x = Rs L xs (d) 204 65 [a0, a1, some (.int z)] (.int z :: st) M x := Rs_next c204_64 rfl
theorem c204_65 : qx_code 204 65 = some (65, .invokevirtual 132, 68, 213, 2, 1737) := by decide +kernel
theorem s204_65 {L : Nat} {xs : Nat → Int32} {d x : Nat} {M : qxM} {st : List Value} {ls : qxL} {t : Nat} {z0 : Int32} (hk : qx_kd t = 18) (hs : st.length ≤ 4) : Rs L xs (d + 1) 204 65 ls (.int z0 :: .ref t :: st) M x = (Rs L xs d 213 0 [some (.ref t), some (.int z0)] [] M 0).bind (qx_kn L xs (d + 1) 204 65 68 213 ls st x) := by
  have h1 : qx_act L xs (qx_rt 204) (65, .invokevirtual 132, 68, 213, 2, 1737) ls (.int z0 :: .ref t :: st) M = if 2 ≤ (.int z0 :: .ref t :: st).length ∧ st.length ≤ 4 then some (.inr (.inr (.inr (213, [.ref t, .int z0], st)))) else none := rfl
  rw [if_pos ⟨by simp [List.length_cons]; try omega, hs⟩] at h1
  have h2 := qx_kd_obj (k := 8) (by decide) hk
  exact Rs_call c204_65 h1 (by rw [show qx_args 213 [.ref t, .int z0] = decide (qx_sh t = some (.inl 8)) from rfl]; exact decide_eq_true h2)
theorem c204_68 : qx_code 204 68 = some (68, .iconst (-1), 69, 0, 0, 0) := by decide +kernel
theorem s204_68 {L : Nat} {xs : Nat → Int32} {d x : Nat} {M : qxM} {st : List Value} {ls : qxL} : Rs L xs (d) 204 68 ls st M x = Rs L xs (d) 204 69 ls (.int (-1) :: st) M x := Rs_next c204_68 rfl
theorem c204_69 : qx_code 204 69 = some (69, .if_icmp .eq 8, 72, 77, 0, 0) := by decide +kernel
theorem s204_69 {L : Nat} {xs : Nat → Int32} {d x : Nat} {M : qxM} {st : List Value} {ls : qxL} {z y : Int32} : Rs L xs (d) 204 69 ls (.int y :: .int z :: st) M x = if z = y then Rs L xs (d) 204 77 ls st M x else Rs L xs (d) 204 72 ls st M x := Rs_ite c204_69 rfl
theorem c204_72 : qx_code 204 72 = some (72, .aload_n 0, 73, 0, 0, 0) := by decide +kernel
theorem s204_72 {L : Nat} {xs : Nat → Int32} {d x : Nat} {M : qxM} {st : List Value} {a1 a2 : Option Value} {z : Nat} : Rs L xs (d) 204 72 [some (.ref z), a1, a2] st M x = Rs L xs (d) 204 73 [some (.ref z), a1, a2] (.ref z :: st) M x := Rs_next c204_72 rfl
theorem c204_73 : qx_code 204 73 = some (73, .iconst 4, 74, 0, 0, 0) := by decide +kernel
theorem s204_73 {L : Nat} {xs : Nat → Int32} {d x : Nat} {M : qxM} {st : List Value} {ls : qxL} : Rs L xs (d) 204 73 ls st M x = Rs L xs (d) 204 74 ls (.int (nI 4) :: st) M x := Rs_next c204_73 rfl
theorem c204_74 : qx_code 204 74 = some (74, .invokevirtual 105, 77, 193, 2, 1682) := by decide +kernel
theorem s204_74 {L : Nat} {xs : Nat → Int32} {d x : Nat} {M : qxM} {st : List Value} {ls : qxL} {t : Nat} {z0 : Int32} (hk : qx_kd t = 18) (hs : st.length ≤ 4) : Rs L xs (d + 1) 204 74 ls (.int z0 :: .ref t :: st) M x = (Rs L xs d 193 0 [some (.ref t), some (.int z0)] [] M 0).bind (qx_kn L xs (d + 1) 204 74 77 193 ls st x) := by
  have h1 : qx_act L xs (qx_rt 204) (74, .invokevirtual 105, 77, 193, 2, 1682) ls (.int z0 :: .ref t :: st) M = if 2 ≤ (.int z0 :: .ref t :: st).length ∧ st.length ≤ 4 then some (.inr (.inr (.inr (193, [.ref t, .int z0], st)))) else none := rfl
  rw [if_pos ⟨by simp [List.length_cons]; try omega, hs⟩] at h1
  have h2 := qx_kd_obj (k := 8) (by decide) hk
  exact Rs_call c204_74 h1 (by rw [show qx_args 193 [.ref t, .int z0] = decide (qx_sh t = some (.inl 8)) from rfl]; exact decide_eq_true h2)
theorem c204_77 : qx_code 204 77 = some (77, .aload_n 0, 78, 0, 0, 0) := by decide +kernel
theorem s204_77 {L : Nat} {xs : Nat → Int32} {d x : Nat} {M : qxM} {st : List Value} {a1 a2 : Option Value} {z : Nat} : Rs L xs (d) 204 77 [some (.ref z), a1, a2] st M x = Rs L xs (d) 204 78 [some (.ref z), a1, a2] (.ref z :: st) M x := Rs_next c204_77 rfl
theorem c204_78 : qx_code 204 78 = some (78, .getfield 63, 81, 8, 10, 1555) := by decide +kernel
theorem s204_78 {L : Nat} {xs : Nat → Int32} {d x : Nat} {M : qxM} {st : List Value} {ls : qxL} {t : Nat} (hk : qx_kd t = 18) : Rs L xs (d) 204 78 ls (.ref t :: st) M x = Rs L xs (d) 204 81 ls (.int (M.1 t 10) :: st) M x := Rs_when (qx_kd_obj (k := 8) (by decide) hk) c204_78 rfl
theorem c204_81 : qx_code 204 81 = some (81, .ifCond .ne 17, 84, 98, 0, 0) := by decide +kernel
theorem s204_81 {L : Nat} {xs : Nat → Int32} {d x : Nat} {M : qxM} {st : List Value} {ls : qxL} {z : Int32} : Rs L xs (d) 204 81 ls (.int z :: st) M x = if z = 0 then Rs L xs (d) 204 84 ls st M x else Rs L xs (d) 204 98 ls st M x := Rs_ite c204_81 rfl
theorem c204_84 : qx_code 204 84 = some (84, .aload_n 0, 85, 0, 0, 0) := by decide +kernel
theorem s204_84 {L : Nat} {xs : Nat → Int32} {d x : Nat} {M : qxM} {st : List Value} {a1 a2 : Option Value} {z : Nat} : Rs L xs (d) 204 84 [some (.ref z), a1, a2] st M x = Rs L xs (d) 204 85 [some (.ref z), a1, a2] (.ref z :: st) M x := Rs_next c204_84 rfl
theorem c204_85 : qx_code 204 85 = some (85, .iload_n 1, 86, 0, 0, 0) := by decide +kernel
theorem s204_85 {L : Nat} {xs : Nat → Int32} {d x : Nat} {M : qxM} {st : List Value} {a0 a2 : Option Value} {z : Int32} : Rs L xs (d) 204 85 [a0, some (.int z), a2] st M x = Rs L xs (d) 204 86 [a0, some (.int z), a2] (.int z :: st) M x := Rs_next c204_85 rfl
theorem c204_86 : qx_code 204 86 = some (86, .iload_n 2, 87, 0, 0, 0) := by decide +kernel
theorem s204_86 {L : Nat} {xs : Nat → Int32} {d x : Nat} {M : qxM} {st : List Value} {a0 a1 : Option Value} {z : Int32} : Rs L xs (d) 204 86 [a0, a1, some (.int z)] st M x = Rs L xs (d) 204 87 [a0, a1, some (.int z)] (.int z :: st) M x := Rs_next c204_86 rfl
theorem c204_87 : qx_code 204 87 = some (87, .invokevirtual 136, 90, 219, 3, 1741) := by decide +kernel
theorem s204_87 {L : Nat} {xs : Nat → Int32} {d x : Nat} {M : qxM} {st : List Value} {ls : qxL} {t : Nat} {z0 : Int32} {z1 : Int32} (hk : qx_kd t = 18) (hs : st.length ≤ 4) : Rs L xs (d + 1) 204 87 ls (.int z1 :: .int z0 :: .ref t :: st) M x = (Rs L xs d 219 0 [some (.ref t), some (.int z0), some (.int z1)] [] M 0).bind (qx_kn L xs (d + 1) 204 87 90 219 ls st x) := by
  have h1 : qx_act L xs (qx_rt 204) (87, .invokevirtual 136, 90, 219, 3, 1741) ls (.int z1 :: .int z0 :: .ref t :: st) M = if 3 ≤ (.int z1 :: .int z0 :: .ref t :: st).length ∧ st.length ≤ 4 then some (.inr (.inr (.inr (219, [.ref t, .int z0, .int z1], st)))) else none := rfl
  rw [if_pos ⟨by simp [List.length_cons]; try omega, hs⟩] at h1
  have h2 := qx_kd_obj (k := 8) (by decide) hk
  exact Rs_call c204_87 h1 (by rw [show qx_args 219 [.ref t, .int z0, .int z1] = decide (qx_sh t = some (.inl 8)) from rfl]; exact decide_eq_true h2)
theorem c204_90 : qx_code 204 90 = some (90, .ifCond .ne 8, 93, 98, 0, 0) := by decide +kernel
theorem s204_90 {L : Nat} {xs : Nat → Int32} {d x : Nat} {M : qxM} {st : List Value} {ls : qxL} {z : Int32} : Rs L xs (d) 204 90 ls (.int z :: st) M x = if z = 0 then Rs L xs (d) 204 93 ls st M x else Rs L xs (d) 204 98 ls st M x := Rs_ite c204_90 rfl
theorem c204_93 : qx_code 204 93 = some (93, .aload_n 0, 94, 0, 0, 0) := by decide +kernel
theorem s204_93 {L : Nat} {xs : Nat → Int32} {d x : Nat} {M : qxM} {st : List Value} {a1 a2 : Option Value} {z : Nat} : Rs L xs (d) 204 93 [some (.ref z), a1, a2] st M x = Rs L xs (d) 204 94 [some (.ref z), a1, a2] (.ref z :: st) M x := Rs_next c204_93 rfl
theorem c204_94 : qx_code 204 94 = some (94, .iconst 5, 95, 0, 0, 0) := by decide +kernel
theorem s204_94 {L : Nat} {xs : Nat → Int32} {d x : Nat} {M : qxM} {st : List Value} {ls : qxL} : Rs L xs (d) 204 94 ls st M x = Rs L xs (d) 204 95 ls (.int (nI 5) :: st) M x := Rs_next c204_94 rfl
theorem c204_95 : qx_code 204 95 = some (95, .invokevirtual 105, 98, 193, 2, 1682) := by decide +kernel
theorem s204_95 {L : Nat} {xs : Nat → Int32} {d x : Nat} {M : qxM} {st : List Value} {ls : qxL} {t : Nat} {z0 : Int32} (hk : qx_kd t = 18) (hs : st.length ≤ 4) : Rs L xs (d + 1) 204 95 ls (.int z0 :: .ref t :: st) M x = (Rs L xs d 193 0 [some (.ref t), some (.int z0)] [] M 0).bind (qx_kn L xs (d + 1) 204 95 98 193 ls st x) := by
  have h1 : qx_act L xs (qx_rt 204) (95, .invokevirtual 105, 98, 193, 2, 1682) ls (.int z0 :: .ref t :: st) M = if 2 ≤ (.int z0 :: .ref t :: st).length ∧ st.length ≤ 4 then some (.inr (.inr (.inr (193, [.ref t, .int z0], st)))) else none := rfl
  rw [if_pos ⟨by simp [List.length_cons]; try omega, hs⟩] at h1
  have h2 := qx_kd_obj (k := 8) (by decide) hk
  exact Rs_call c204_95 h1 (by rw [show qx_args 193 [.ref t, .int z0] = decide (qx_sh t = some (.inl 8)) from rfl]; exact decide_eq_true h2)
theorem c204_98 : qx_code 204 98 = some (98, .aload_n 0, 99, 0, 0, 0) := by decide +kernel
theorem s204_98 {L : Nat} {xs : Nat → Int32} {d x : Nat} {M : qxM} {st : List Value} {a1 a2 : Option Value} {z : Nat} : Rs L xs (d) 204 98 [some (.ref z), a1, a2] st M x = Rs L xs (d) 204 99 [some (.ref z), a1, a2] (.ref z :: st) M x := Rs_next c204_98 rfl
theorem c204_99 : qx_code 204 99 = some (99, .getfield 63, 102, 8, 10, 1555) := by decide +kernel
theorem s204_99 {L : Nat} {xs : Nat → Int32} {d x : Nat} {M : qxM} {st : List Value} {ls : qxL} {t : Nat} (hk : qx_kd t = 18) : Rs L xs (d) 204 99 ls (.ref t :: st) M x = Rs L xs (d) 204 102 ls (.int (M.1 t 10) :: st) M x := Rs_when (qx_kd_obj (k := 8) (by decide) hk) c204_99 rfl
theorem c204_102 : qx_code 204 102 = some (102, .ifCond .le 4, 105, 106, 0, 0) := by decide +kernel
theorem s204_102 {L : Nat} {xs : Nat → Int32} {d x : Nat} {M : qxM} {st : List Value} {ls : qxL} {z : Int32} : Rs L xs (d) 204 102 ls (.int z :: st) M x = if z ≤ 0 then Rs L xs (d) 204 106 ls st M x else Rs L xs (d) 204 105 ls st M x := Rs_ite c204_102 rfl
theorem c204_105 : qx_code 204 105 = some (105, .return_, 106, 0, 0, 0) := by decide +kernel
theorem s204_105 {L : Nat} {xs : Nat → Int32} {d x : Nat} {M : qxM} {ls : qxL} : Rs L xs (d) 204 105 ls [] M x = some (.inl none, M, x) := Rs_ret c204_105 rfl
theorem c204_106 : qx_code 204 106 = some (106, .aload_n 0, 107, 0, 0, 0) := by decide +kernel
theorem s204_106 {L : Nat} {xs : Nat → Int32} {d x : Nat} {M : qxM} {st : List Value} {a1 a2 : Option Value} {z : Nat} : Rs L xs (d) 204 106 [some (.ref z), a1, a2] st M x = Rs L xs (d) 204 107 [some (.ref z), a1, a2] (.ref z :: st) M x := Rs_next c204_106 rfl
theorem c204_107 : qx_code 204 107 = some (107, .iload_n 1, 108, 0, 0, 0) := by decide +kernel
theorem s204_107 {L : Nat} {xs : Nat → Int32} {d x : Nat} {M : qxM} {st : List Value} {a0 a2 : Option Value} {z : Int32} : Rs L xs (d) 204 107 [a0, some (.int z), a2] st M x = Rs L xs (d) 204 108 [a0, some (.int z), a2] (.int z :: st) M x := Rs_next c204_107 rfl
theorem c204_108 : qx_code 204 108 = some (108, .iload_n 2, 109, 0, 0, 0) := by decide +kernel
theorem s204_108 {L : Nat} {xs : Nat → Int32} {d x : Nat} {M : qxM} {st : List Value} {a0 a1 : Option Value} {z : Int32} : Rs L xs (d) 204 108 [a0, a1, some (.int z)] st M x = Rs L xs (d) 204 109 [a0, a1, some (.int z)] (.int z :: st) M x := Rs_next c204_108 rfl
theorem c204_109 : qx_code 204 109 = some (109, .invokevirtual 139, 112, 214, 3, 1753) := by decide +kernel
theorem s204_109 {L : Nat} {xs : Nat → Int32} {d x : Nat} {M : qxM} {st : List Value} {ls : qxL} {t : Nat} {z0 : Int32} {z1 : Int32} (hk : qx_kd t = 18) (hs : st.length ≤ 4) : Rs L xs (d + 1) 204 109 ls (.int z1 :: .int z0 :: .ref t :: st) M x = (Rs L xs d 214 0 [some (.ref t), some (.int z0), some (.int z1)] [] M 0).bind (qx_kn L xs (d + 1) 204 109 112 214 ls st x) := by
  have h1 : qx_act L xs (qx_rt 204) (109, .invokevirtual 139, 112, 214, 3, 1753) ls (.int z1 :: .int z0 :: .ref t :: st) M = if 3 ≤ (.int z1 :: .int z0 :: .ref t :: st).length ∧ st.length ≤ 4 then some (.inr (.inr (.inr (214, [.ref t, .int z0, .int z1], st)))) else none := rfl
  rw [if_pos ⟨by simp [List.length_cons]; try omega, hs⟩] at h1
  have h2 := qx_kd_obj (k := 8) (by decide) hk
  exact Rs_call c204_109 h1 (by rw [show qx_args 214 [.ref t, .int z0, .int z1] = decide (qx_sh t = some (.inl 8)) from rfl]; exact decide_eq_true h2)
theorem c204_112 : qx_code 204 112 = some (112, .aload_n 0, 113, 0, 0, 0) := by decide +kernel
theorem s204_112 {L : Nat} {xs : Nat → Int32} {d x : Nat} {M : qxM} {st : List Value} {a1 a2 : Option Value} {z : Nat} : Rs L xs (d) 204 112 [some (.ref z), a1, a2] st M x = Rs L xs (d) 204 113 [some (.ref z), a1, a2] (.ref z :: st) M x := Rs_next c204_112 rfl
theorem c204_113 : qx_code 204 113 = some (113, .invokevirtual 112, 116, 192, 1, 1659) := by decide +kernel
theorem s204_113 {L : Nat} {xs : Nat → Int32} {d x : Nat} {M : qxM} {st : List Value} {ls : qxL} {t : Nat} (hk : qx_kd t = 18) (hs : st.length ≤ 4) : Rs L xs (d + 1) 204 113 ls (.ref t :: st) M x = (Rs L xs d 192 0 [some (.ref t)] [] M 0).bind (qx_kn L xs (d + 1) 204 113 116 192 ls st x) := by
  have h1 : qx_act L xs (qx_rt 204) (113, .invokevirtual 112, 116, 192, 1, 1659) ls (.ref t :: st) M = if 1 ≤ (.ref t :: st).length ∧ st.length ≤ 4 then some (.inr (.inr (.inr (192, [.ref t], st)))) else none := rfl
  rw [if_pos ⟨by simp [List.length_cons]; try omega, hs⟩] at h1
  have h2 := qx_kd_obj (k := 8) (by decide) hk
  exact Rs_call c204_113 h1 (by rw [show qx_args 192 [.ref t] = decide (qx_sh t = some (.inl 8)) from rfl]; exact decide_eq_true h2)
theorem c204_116 : qx_code 204 116 = some (116, .return_, 117, 0, 0, 0) := by decide +kernel
theorem s204_116 {L : Nat} {xs : Nat → Int32} {d x : Nat} {M : qxM} {ls : qxL} : Rs L xs (d) 204 116 ls [] M x = some (.inl none, M, x) := Rs_ret c204_116 rfl
theorem c205_0 : qx_code 205 0 = some (0, .aload_n 0, 1, 0, 0, 0) := by decide +kernel
theorem s205_0 {L : Nat} {xs : Nat → Int32} {d x : Nat} {M : qxM} {st : List Value} {z : Nat} : Rs L xs (d) 205 0 [some (.ref z)] st M x = Rs L xs (d) 205 1 [some (.ref z)] (.ref z :: st) M x := Rs_next c205_0 rfl
theorem c205_1 : qx_code 205 1 = some (1, .ldc 143, 3, 22, 1, 0) := by decide +kernel
theorem s205_1 {L : Nat} {xs : Nat → Int32} {d x : Nat} {M : qxM} {st : List Value} {ls : qxL} : Rs L xs (d) 205 1 ls st M x = Rs L xs (d) 205 3 ls (.ref (500 + 22) :: st) M x := Rs_next c205_1 rfl
theorem c205_3 : qx_code 205 3 = some (3, .invokevirtual 145, 6, 195, 2, 1672) := by decide +kernel
theorem s205_3 {L : Nat} {xs : Nat → Int32} {d x : Nat} {M : qxM} {st : List Value} {ls : qxL} {t : Nat} {z0 : Nat} (hk : qx_kd t = 18) (hs : st.length ≤ 4) : Rs L xs (d + 1) 205 3 ls (.ref z0 :: .ref t :: st) M x = (Rs L xs d 195 0 [some (.ref t), some (.ref z0), none] [] M 0).bind (qx_kn L xs (d + 1) 205 3 6 195 ls st x) := by
  have h1 : qx_act L xs (qx_rt 205) (3, .invokevirtual 145, 6, 195, 2, 1672) ls (.ref z0 :: .ref t :: st) M = if 2 ≤ (.ref z0 :: .ref t :: st).length ∧ st.length ≤ 4 then some (.inr (.inr (.inr (195, [.ref t, .ref z0], st)))) else none := rfl
  rw [if_pos ⟨by simp [List.length_cons]; try omega, hs⟩] at h1
  have h2 := qx_kd_obj (k := 8) (by decide) hk
  exact Rs_call c205_3 h1 (by rw [show qx_args 195 [.ref t, .ref z0] = decide (qx_sh t = some (.inl 8)) from rfl]; exact decide_eq_true h2)
theorem c205_6 : qx_code 205 6 = some (6, .ifCond .eq 10, 9, 16, 0, 0) := by decide +kernel
theorem s205_6 {L : Nat} {xs : Nat → Int32} {d x : Nat} {M : qxM} {st : List Value} {ls : qxL} {z : Int32} : Rs L xs (d) 205 6 ls (.int z :: st) M x = if z = 0 then Rs L xs (d) 205 16 ls st M x else Rs L xs (d) 205 9 ls st M x := Rs_ite c205_6 rfl
theorem c205_9 : qx_code 205 9 = some (9, .aload_n 0, 10, 0, 0, 0) := by decide +kernel
theorem s205_9 {L : Nat} {xs : Nat → Int32} {d x : Nat} {M : qxM} {st : List Value} {z : Nat} : Rs L xs (d) 205 9 [some (.ref z)] st M x = Rs L xs (d) 205 10 [some (.ref z)] (.ref z :: st) M x := Rs_next c205_9 rfl
theorem c205_10 : qx_code 205 10 = some (10, .invokevirtual 149, 13, 200, 1, 1699) := by decide +kernel
theorem s205_10 {L : Nat} {xs : Nat → Int32} {d x : Nat} {M : qxM} {st : List Value} {ls : qxL} {t : Nat} (hk : qx_kd t = 18) (hs : st.length ≤ 4) : Rs L xs (d + 1) 205 10 ls (.ref t :: st) M x = (Rs L xs d 200 0 [some (.ref t)] [] M 0).bind (qx_kn L xs (d + 1) 205 10 13 200 ls st x) := by
  have h1 : qx_act L xs (qx_rt 205) (10, .invokevirtual 149, 13, 200, 1, 1699) ls (.ref t :: st) M = if 1 ≤ (.ref t :: st).length ∧ st.length ≤ 4 then some (.inr (.inr (.inr (200, [.ref t], st)))) else none := rfl
  rw [if_pos ⟨by simp [List.length_cons]; try omega, hs⟩] at h1
  have h2 := qx_kd_obj (k := 8) (by decide) hk
  exact Rs_call c205_10 h1 (by rw [show qx_args 200 [.ref t] = decide (qx_sh t = some (.inl 8)) from rfl]; exact decide_eq_true h2)
theorem c205_13 : qx_code 205 13 = some (13, .goto 56, 16, 69, 0, 0) := by decide +kernel
theorem s205_13 {L : Nat} {xs : Nat → Int32} {d x : Nat} {M : qxM} {st : List Value} {ls : qxL} : Rs L xs (d) 205 13 ls st M x = Rs L xs (d) 205 69 ls st M x := Rs_next c205_13 rfl
theorem c205_16 : qx_code 205 16 = some (16, .aload_n 0, 17, 0, 0, 0) := by decide +kernel
theorem s205_16 {L : Nat} {xs : Nat → Int32} {d x : Nat} {M : qxM} {st : List Value} {z : Nat} : Rs L xs (d) 205 16 [some (.ref z)] st M x = Rs L xs (d) 205 17 [some (.ref z)] (.ref z :: st) M x := Rs_next c205_16 rfl
theorem c205_17 : qx_code 205 17 = some (17, .ldc 152, 19, 23, 1, 0) := by decide +kernel
theorem s205_17 {L : Nat} {xs : Nat → Int32} {d x : Nat} {M : qxM} {st : List Value} {ls : qxL} : Rs L xs (d) 205 17 ls st M x = Rs L xs (d) 205 19 ls (.ref (500 + 23) :: st) M x := Rs_next c205_17 rfl
theorem c205_19 : qx_code 205 19 = some (19, .invokevirtual 145, 22, 195, 2, 1672) := by decide +kernel
theorem s205_19 {L : Nat} {xs : Nat → Int32} {d x : Nat} {M : qxM} {st : List Value} {ls : qxL} {t : Nat} {z0 : Nat} (hk : qx_kd t = 18) (hs : st.length ≤ 4) : Rs L xs (d + 1) 205 19 ls (.ref z0 :: .ref t :: st) M x = (Rs L xs d 195 0 [some (.ref t), some (.ref z0), none] [] M 0).bind (qx_kn L xs (d + 1) 205 19 22 195 ls st x) := by
  have h1 : qx_act L xs (qx_rt 205) (19, .invokevirtual 145, 22, 195, 2, 1672) ls (.ref z0 :: .ref t :: st) M = if 2 ≤ (.ref z0 :: .ref t :: st).length ∧ st.length ≤ 4 then some (.inr (.inr (.inr (195, [.ref t, .ref z0], st)))) else none := rfl
  rw [if_pos ⟨by simp [List.length_cons]; try omega, hs⟩] at h1
  have h2 := qx_kd_obj (k := 8) (by decide) hk
  exact Rs_call c205_19 h1 (by rw [show qx_args 195 [.ref t, .ref z0] = decide (qx_sh t = some (.inl 8)) from rfl]; exact decide_eq_true h2)
theorem c205_22 : qx_code 205 22 = some (22, .ifCond .eq 10, 25, 32, 0, 0) := by decide +kernel
theorem s205_22 {L : Nat} {xs : Nat → Int32} {d x : Nat} {M : qxM} {st : List Value} {ls : qxL} {z : Int32} : Rs L xs (d) 205 22 ls (.int z :: st) M x = if z = 0 then Rs L xs (d) 205 32 ls st M x else Rs L xs (d) 205 25 ls st M x := Rs_ite c205_22 rfl
theorem c205_25 : qx_code 205 25 = some (25, .aload_n 0, 26, 0, 0, 0) := by decide +kernel
theorem s205_25 {L : Nat} {xs : Nat → Int32} {d x : Nat} {M : qxM} {st : List Value} {z : Nat} : Rs L xs (d) 205 25 [some (.ref z)] st M x = Rs L xs (d) 205 26 [some (.ref z)] (.ref z :: st) M x := Rs_next c205_25 rfl
theorem c205_26 : qx_code 205 26 = some (26, .invokevirtual 154, 29, 202, 1, 1712) := by decide +kernel
theorem s205_26 {L : Nat} {xs : Nat → Int32} {d x : Nat} {M : qxM} {st : List Value} {ls : qxL} {t : Nat} (hk : qx_kd t = 18) (hs : st.length ≤ 4) : Rs L xs (d + 1) 205 26 ls (.ref t :: st) M x = (Rs L xs d 202 0 [some (.ref t), none] [] M 0).bind (qx_kn L xs (d + 1) 205 26 29 202 ls st x) := by
  have h1 : qx_act L xs (qx_rt 205) (26, .invokevirtual 154, 29, 202, 1, 1712) ls (.ref t :: st) M = if 1 ≤ (.ref t :: st).length ∧ st.length ≤ 4 then some (.inr (.inr (.inr (202, [.ref t], st)))) else none := rfl
  rw [if_pos ⟨by simp [List.length_cons]; try omega, hs⟩] at h1
  have h2 := qx_kd_obj (k := 8) (by decide) hk
  exact Rs_call c205_26 h1 (by rw [show qx_args 202 [.ref t] = decide (qx_sh t = some (.inl 8)) from rfl]; exact decide_eq_true h2)
theorem c205_29 : qx_code 205 29 = some (29, .goto 40, 32, 69, 0, 0) := by decide +kernel
theorem s205_29 {L : Nat} {xs : Nat → Int32} {d x : Nat} {M : qxM} {st : List Value} {ls : qxL} : Rs L xs (d) 205 29 ls st M x = Rs L xs (d) 205 69 ls st M x := Rs_next c205_29 rfl
theorem c205_32 : qx_code 205 32 = some (32, .aload_n 0, 33, 0, 0, 0) := by decide +kernel
theorem s205_32 {L : Nat} {xs : Nat → Int32} {d x : Nat} {M : qxM} {st : List Value} {z : Nat} : Rs L xs (d) 205 32 [some (.ref z)] st M x = Rs L xs (d) 205 33 [some (.ref z)] (.ref z :: st) M x := Rs_next c205_32 rfl
theorem c205_33 : qx_code 205 33 = some (33, .ldc 157, 35, 24, 1, 0) := by decide +kernel
theorem s205_33 {L : Nat} {xs : Nat → Int32} {d x : Nat} {M : qxM} {st : List Value} {ls : qxL} : Rs L xs (d) 205 33 ls st M x = Rs L xs (d) 205 35 ls (.ref (500 + 24) :: st) M x := Rs_next c205_33 rfl
theorem c205_35 : qx_code 205 35 = some (35, .invokevirtual 145, 38, 195, 2, 1672) := by decide +kernel
theorem s205_35 {L : Nat} {xs : Nat → Int32} {d x : Nat} {M : qxM} {st : List Value} {ls : qxL} {t : Nat} {z0 : Nat} (hk : qx_kd t = 18) (hs : st.length ≤ 4) : Rs L xs (d + 1) 205 35 ls (.ref z0 :: .ref t :: st) M x = (Rs L xs d 195 0 [some (.ref t), some (.ref z0), none] [] M 0).bind (qx_kn L xs (d + 1) 205 35 38 195 ls st x) := by
  have h1 : qx_act L xs (qx_rt 205) (35, .invokevirtual 145, 38, 195, 2, 1672) ls (.ref z0 :: .ref t :: st) M = if 2 ≤ (.ref z0 :: .ref t :: st).length ∧ st.length ≤ 4 then some (.inr (.inr (.inr (195, [.ref t, .ref z0], st)))) else none := rfl
  rw [if_pos ⟨by simp [List.length_cons]; try omega, hs⟩] at h1
  have h2 := qx_kd_obj (k := 8) (by decide) hk
  exact Rs_call c205_35 h1 (by rw [show qx_args 195 [.ref t, .ref z0] = decide (qx_sh t = some (.inl 8)) from rfl]; exact decide_eq_true h2)
theorem c205_38 : qx_code 205 38 = some (38, .ifCond .eq 10, 41, 48, 0, 0) := by decide +kernel
theorem s205_38 {L : Nat} {xs : Nat → Int32} {d x : Nat} {M : qxM} {st : List Value} {ls : qxL} {z : Int32} : Rs L xs (d) 205 38 ls (.int z :: st) M x = if z = 0 then Rs L xs (d) 205 48 ls st M x else Rs L xs (d) 205 41 ls st M x := Rs_ite c205_38 rfl
theorem c205_41 : qx_code 205 41 = some (41, .aload_n 0, 42, 0, 0, 0) := by decide +kernel
theorem s205_41 {L : Nat} {xs : Nat → Int32} {d x : Nat} {M : qxM} {st : List Value} {z : Nat} : Rs L xs (d) 205 41 [some (.ref z)] st M x = Rs L xs (d) 205 42 [some (.ref z)] (.ref z :: st) M x := Rs_next c205_41 rfl
theorem c205_42 : qx_code 205 42 = some (42, .invokevirtual 159, 45, 203, 1, 1725) := by decide +kernel
theorem s205_42 {L : Nat} {xs : Nat → Int32} {d x : Nat} {M : qxM} {st : List Value} {ls : qxL} {t : Nat} (hk : qx_kd t = 18) (hs : st.length ≤ 4) : Rs L xs (d + 1) 205 42 ls (.ref t :: st) M x = (Rs L xs d 203 0 [some (.ref t), none, none, none, none, none] [] M 0).bind (qx_kn L xs (d + 1) 205 42 45 203 ls st x) := by
  have h1 : qx_act L xs (qx_rt 205) (42, .invokevirtual 159, 45, 203, 1, 1725) ls (.ref t :: st) M = if 1 ≤ (.ref t :: st).length ∧ st.length ≤ 4 then some (.inr (.inr (.inr (203, [.ref t], st)))) else none := rfl
  rw [if_pos ⟨by simp [List.length_cons]; try omega, hs⟩] at h1
  have h2 := qx_kd_obj (k := 8) (by decide) hk
  exact Rs_call c205_42 h1 (by rw [show qx_args 203 [.ref t] = decide (qx_sh t = some (.inl 8)) from rfl]; exact decide_eq_true h2)
theorem c205_45 : qx_code 205 45 = some (45, .goto 24, 48, 69, 0, 0) := by decide +kernel
theorem s205_45 {L : Nat} {xs : Nat → Int32} {d x : Nat} {M : qxM} {st : List Value} {ls : qxL} : Rs L xs (d) 205 45 ls st M x = Rs L xs (d) 205 69 ls st M x := Rs_next c205_45 rfl
theorem c205_48 : qx_code 205 48 = some (48, .aload_n 0, 49, 0, 0, 0) := by decide +kernel
theorem s205_48 {L : Nat} {xs : Nat → Int32} {d x : Nat} {M : qxM} {st : List Value} {z : Nat} : Rs L xs (d) 205 48 [some (.ref z)] st M x = Rs L xs (d) 205 49 [some (.ref z)] (.ref z :: st) M x := Rs_next c205_48 rfl
theorem c205_49 : qx_code 205 49 = some (49, .ldc 162, 51, 25, 1, 0) := by decide +kernel
theorem s205_49 {L : Nat} {xs : Nat → Int32} {d x : Nat} {M : qxM} {st : List Value} {ls : qxL} : Rs L xs (d) 205 49 ls st M x = Rs L xs (d) 205 51 ls (.ref (500 + 25) :: st) M x := Rs_next c205_49 rfl
theorem c205_51 : qx_code 205 51 = some (51, .invokevirtual 145, 54, 195, 2, 1672) := by decide +kernel
theorem s205_51 {L : Nat} {xs : Nat → Int32} {d x : Nat} {M : qxM} {st : List Value} {ls : qxL} {t : Nat} {z0 : Nat} (hk : qx_kd t = 18) (hs : st.length ≤ 4) : Rs L xs (d + 1) 205 51 ls (.ref z0 :: .ref t :: st) M x = (Rs L xs d 195 0 [some (.ref t), some (.ref z0), none] [] M 0).bind (qx_kn L xs (d + 1) 205 51 54 195 ls st x) := by
  have h1 : qx_act L xs (qx_rt 205) (51, .invokevirtual 145, 54, 195, 2, 1672) ls (.ref z0 :: .ref t :: st) M = if 2 ≤ (.ref z0 :: .ref t :: st).length ∧ st.length ≤ 4 then some (.inr (.inr (.inr (195, [.ref t, .ref z0], st)))) else none := rfl
  rw [if_pos ⟨by simp [List.length_cons]; try omega, hs⟩] at h1
  have h2 := qx_kd_obj (k := 8) (by decide) hk
  exact Rs_call c205_51 h1 (by rw [show qx_args 195 [.ref t, .ref z0] = decide (qx_sh t = some (.inl 8)) from rfl]; exact decide_eq_true h2)
theorem c205_54 : qx_code 205 54 = some (54, .ifCond .eq 10, 57, 64, 0, 0) := by decide +kernel
theorem s205_54 {L : Nat} {xs : Nat → Int32} {d x : Nat} {M : qxM} {st : List Value} {ls : qxL} {z : Int32} : Rs L xs (d) 205 54 ls (.int z :: st) M x = if z = 0 then Rs L xs (d) 205 64 ls st M x else Rs L xs (d) 205 57 ls st M x := Rs_ite c205_54 rfl
theorem c205_57 : qx_code 205 57 = some (57, .aload_n 0, 58, 0, 0, 0) := by decide +kernel
theorem s205_57 {L : Nat} {xs : Nat → Int32} {d x : Nat} {M : qxM} {st : List Value} {z : Nat} : Rs L xs (d) 205 57 [some (.ref z)] st M x = Rs L xs (d) 205 58 [some (.ref z)] (.ref z :: st) M x := Rs_next c205_57 rfl
theorem c205_58 : qx_code 205 58 = some (58, .invokevirtual 164, 61, 204, 1, 1733) := by decide +kernel
theorem s205_58 {L : Nat} {xs : Nat → Int32} {d x : Nat} {M : qxM} {st : List Value} {ls : qxL} {t : Nat} (hk : qx_kd t = 18) (hs : st.length ≤ 4) : Rs L xs (d + 1) 205 58 ls (.ref t :: st) M x = (Rs L xs d 204 0 [some (.ref t), none, none] [] M 0).bind (qx_kn L xs (d + 1) 205 58 61 204 ls st x) := by
  have h1 : qx_act L xs (qx_rt 205) (58, .invokevirtual 164, 61, 204, 1, 1733) ls (.ref t :: st) M = if 1 ≤ (.ref t :: st).length ∧ st.length ≤ 4 then some (.inr (.inr (.inr (204, [.ref t], st)))) else none := rfl
  rw [if_pos ⟨by simp [List.length_cons]; try omega, hs⟩] at h1
  have h2 := qx_kd_obj (k := 8) (by decide) hk
  exact Rs_call c205_58 h1 (by rw [show qx_args 204 [.ref t] = decide (qx_sh t = some (.inl 8)) from rfl]; exact decide_eq_true h2)
theorem c205_61 : qx_code 205 61 = some (61, .goto 8, 64, 69, 0, 0) := by decide +kernel
theorem s205_61 {L : Nat} {xs : Nat → Int32} {d x : Nat} {M : qxM} {st : List Value} {ls : qxL} : Rs L xs (d) 205 61 ls st M x = Rs L xs (d) 205 69 ls st M x := Rs_next c205_61 rfl
theorem c205_64 : qx_code 205 64 = some (64, .aload_n 0, 65, 0, 0, 0) := by decide +kernel
theorem s205_64 {L : Nat} {xs : Nat → Int32} {d x : Nat} {M : qxM} {st : List Value} {z : Nat} : Rs L xs (d) 205 64 [some (.ref z)] st M x = Rs L xs (d) 205 65 [some (.ref z)] (.ref z :: st) M x := Rs_next c205_64 rfl
theorem c205_65 : qx_code 205 65 = some (65, .iconst 1, 66, 0, 0, 0) := by decide +kernel
theorem s205_65 {L : Nat} {xs : Nat → Int32} {d x : Nat} {M : qxM} {st : List Value} {ls : qxL} : Rs L xs (d) 205 65 ls st M x = Rs L xs (d) 205 66 ls (.int (nI 1) :: st) M x := Rs_next c205_65 rfl
theorem c205_66 : qx_code 205 66 = some (66, .invokevirtual 105, 69, 193, 2, 1682) := by decide +kernel
theorem s205_66 {L : Nat} {xs : Nat → Int32} {d x : Nat} {M : qxM} {st : List Value} {ls : qxL} {t : Nat} {z0 : Int32} (hk : qx_kd t = 18) (hs : st.length ≤ 4) : Rs L xs (d + 1) 205 66 ls (.int z0 :: .ref t :: st) M x = (Rs L xs d 193 0 [some (.ref t), some (.int z0)] [] M 0).bind (qx_kn L xs (d + 1) 205 66 69 193 ls st x) := by
  have h1 : qx_act L xs (qx_rt 205) (66, .invokevirtual 105, 69, 193, 2, 1682) ls (.int z0 :: .ref t :: st) M = if 2 ≤ (.int z0 :: .ref t :: st).length ∧ st.length ≤ 4 then some (.inr (.inr (.inr (193, [.ref t, .int z0], st)))) else none := rfl
  rw [if_pos ⟨by simp [List.length_cons]; try omega, hs⟩] at h1
  have h2 := qx_kd_obj (k := 8) (by decide) hk
  exact Rs_call c205_66 h1 (by rw [show qx_args 193 [.ref t, .int z0] = decide (qx_sh t = some (.inl 8)) from rfl]; exact decide_eq_true h2)
theorem c205_69 : qx_code 205 69 = some (69, .return_, 70, 0, 0, 0) := by decide +kernel
theorem s205_69 {L : Nat} {xs : Nat → Int32} {d x : Nat} {M : qxM} {ls : qxL} : Rs L xs (d) 205 69 ls [] M x = some (.inl none, M, x) := Rs_ret c205_69 rfl
theorem c206_0 : qx_code 206 0 = some (0, .aload_n 0, 1, 0, 0, 0) := by decide +kernel
theorem s206_0 {L : Nat} {xs : Nat → Int32} {d x : Nat} {M : qxM} {st : List Value} {a1 : Option Value} {z : Nat} : Rs L xs (d) 206 0 [some (.ref z), a1] st M x = Rs L xs (d) 206 1 [some (.ref z), a1] (.ref z :: st) M x := Rs_next c206_0 rfl
theorem c206_1 : qx_code 206 1 = some (1, .invokevirtual 112, 4, 192, 1, 1659) := by decide +kernel
theorem s206_1 {L : Nat} {xs : Nat → Int32} {d x : Nat} {M : qxM} {st : List Value} {ls : qxL} {t : Nat} (hk : qx_kd t = 18) (hs : st.length ≤ 4) : Rs L xs (d + 1) 206 1 ls (.ref t :: st) M x = (Rs L xs d 192 0 [some (.ref t)] [] M 0).bind (qx_kn L xs (d + 1) 206 1 4 192 ls st x) := by
  have h1 : qx_act L xs (qx_rt 206) (1, .invokevirtual 112, 4, 192, 1, 1659) ls (.ref t :: st) M = if 1 ≤ (.ref t :: st).length ∧ st.length ≤ 4 then some (.inr (.inr (.inr (192, [.ref t], st)))) else none := rfl
  rw [if_pos ⟨by simp [List.length_cons]; try omega, hs⟩] at h1
  have h2 := qx_kd_obj (k := 8) (by decide) hk
  exact Rs_call c206_1 h1 (by rw [show qx_args 192 [.ref t] = decide (qx_sh t = some (.inl 8)) from rfl]; exact decide_eq_true h2)
theorem c206_4 : qx_code 206 4 = some (4, .aload_n 0, 5, 0, 0, 0) := by decide +kernel
theorem s206_4 {L : Nat} {xs : Nat → Int32} {d x : Nat} {M : qxM} {st : List Value} {a1 : Option Value} {z : Nat} : Rs L xs (d) 206 4 [some (.ref z), a1] st M x = Rs L xs (d) 206 5 [some (.ref z), a1] (.ref z :: st) M x := Rs_next c206_4 rfl
theorem c206_5 : qx_code 206 5 = some (5, .ldc 167, 7, 21, 1, 0) := by decide +kernel
theorem s206_5 {L : Nat} {xs : Nat → Int32} {d x : Nat} {M : qxM} {st : List Value} {ls : qxL} : Rs L xs (d) 206 5 ls st M x = Rs L xs (d) 206 7 ls (.ref (500 + 21) :: st) M x := Rs_next c206_5 rfl
theorem c206_7 : qx_code 206 7 = some (7, .invokevirtual 145, 10, 195, 2, 1672) := by decide +kernel
theorem s206_7 {L : Nat} {xs : Nat → Int32} {d x : Nat} {M : qxM} {st : List Value} {ls : qxL} {t : Nat} {z0 : Nat} (hk : qx_kd t = 18) (hs : st.length ≤ 4) : Rs L xs (d + 1) 206 7 ls (.ref z0 :: .ref t :: st) M x = (Rs L xs d 195 0 [some (.ref t), some (.ref z0), none] [] M 0).bind (qx_kn L xs (d + 1) 206 7 10 195 ls st x) := by
  have h1 : qx_act L xs (qx_rt 206) (7, .invokevirtual 145, 10, 195, 2, 1672) ls (.ref z0 :: .ref t :: st) M = if 2 ≤ (.ref z0 :: .ref t :: st).length ∧ st.length ≤ 4 then some (.inr (.inr (.inr (195, [.ref t, .ref z0], st)))) else none := rfl
  rw [if_pos ⟨by simp [List.length_cons]; try omega, hs⟩] at h1
  have h2 := qx_kd_obj (k := 8) (by decide) hk
  exact Rs_call c206_7 h1 (by rw [show qx_args 195 [.ref t, .ref z0] = decide (qx_sh t = some (.inl 8)) from rfl]; exact decide_eq_true h2)
theorem c206_10 : qx_code 206 10 = some (10, .ifCond .ne 8, 13, 18, 0, 0) := by decide +kernel
theorem s206_10 {L : Nat} {xs : Nat → Int32} {d x : Nat} {M : qxM} {st : List Value} {ls : qxL} {z : Int32} : Rs L xs (d) 206 10 ls (.int z :: st) M x = if z = 0 then Rs L xs (d) 206 13 ls st M x else Rs L xs (d) 206 18 ls st M x := Rs_ite c206_10 rfl
theorem c206_13 : qx_code 206 13 = some (13, .aload_n 0, 14, 0, 0, 0) := by decide +kernel
theorem s206_13 {L : Nat} {xs : Nat → Int32} {d x : Nat} {M : qxM} {st : List Value} {a1 : Option Value} {z : Nat} : Rs L xs (d) 206 13 [some (.ref z), a1] st M x = Rs L xs (d) 206 14 [some (.ref z), a1] (.ref z :: st) M x := Rs_next c206_13 rfl
theorem c206_14 : qx_code 206 14 = some (14, .iconst 1, 15, 0, 0, 0) := by decide +kernel
theorem s206_14 {L : Nat} {xs : Nat → Int32} {d x : Nat} {M : qxM} {st : List Value} {ls : qxL} : Rs L xs (d) 206 14 ls st M x = Rs L xs (d) 206 15 ls (.int (nI 1) :: st) M x := Rs_next c206_14 rfl
theorem c206_15 : qx_code 206 15 = some (15, .invokevirtual 105, 18, 193, 2, 1682) := by decide +kernel
theorem s206_15 {L : Nat} {xs : Nat → Int32} {d x : Nat} {M : qxM} {st : List Value} {ls : qxL} {t : Nat} {z0 : Int32} (hk : qx_kd t = 18) (hs : st.length ≤ 4) : Rs L xs (d + 1) 206 15 ls (.int z0 :: .ref t :: st) M x = (Rs L xs d 193 0 [some (.ref t), some (.int z0)] [] M 0).bind (qx_kn L xs (d + 1) 206 15 18 193 ls st x) := by
  have h1 : qx_act L xs (qx_rt 206) (15, .invokevirtual 105, 18, 193, 2, 1682) ls (.int z0 :: .ref t :: st) M = if 2 ≤ (.int z0 :: .ref t :: st).length ∧ st.length ≤ 4 then some (.inr (.inr (.inr (193, [.ref t, .int z0], st)))) else none := rfl
  rw [if_pos ⟨by simp [List.length_cons]; try omega, hs⟩] at h1
  have h2 := qx_kd_obj (k := 8) (by decide) hk
  exact Rs_call c206_15 h1 (by rw [show qx_args 193 [.ref t, .int z0] = decide (qx_sh t = some (.inl 8)) from rfl]; exact decide_eq_true h2)
theorem c206_18 : qx_code 206 18 = some (18, .aload_n 0, 19, 0, 0, 0) := by decide +kernel
theorem s206_18 {L : Nat} {xs : Nat → Int32} {d x : Nat} {M : qxM} {st : List Value} {a1 : Option Value} {z : Nat} : Rs L xs (d) 206 18 [some (.ref z), a1] st M x = Rs L xs (d) 206 19 [some (.ref z), a1] (.ref z :: st) M x := Rs_next c206_18 rfl
theorem c206_19 : qx_code 206 19 = some (19, .invokevirtual 112, 22, 192, 1, 1659) := by decide +kernel
theorem s206_19 {L : Nat} {xs : Nat → Int32} {d x : Nat} {M : qxM} {st : List Value} {ls : qxL} {t : Nat} (hk : qx_kd t = 18) (hs : st.length ≤ 4) : Rs L xs (d + 1) 206 19 ls (.ref t :: st) M x = (Rs L xs d 192 0 [some (.ref t)] [] M 0).bind (qx_kn L xs (d + 1) 206 19 22 192 ls st x) := by
  have h1 : qx_act L xs (qx_rt 206) (19, .invokevirtual 112, 22, 192, 1, 1659) ls (.ref t :: st) M = if 1 ≤ (.ref t :: st).length ∧ st.length ≤ 4 then some (.inr (.inr (.inr (192, [.ref t], st)))) else none := rfl
  rw [if_pos ⟨by simp [List.length_cons]; try omega, hs⟩] at h1
  have h2 := qx_kd_obj (k := 8) (by decide) hk
  exact Rs_call c206_19 h1 (by rw [show qx_args 192 [.ref t] = decide (qx_sh t = some (.inl 8)) from rfl]; exact decide_eq_true h2)
theorem c206_22 : qx_code 206 22 = some (22, .aload_n 0, 23, 0, 0, 0) := by decide +kernel
theorem s206_22 {L : Nat} {xs : Nat → Int32} {d x : Nat} {M : qxM} {st : List Value} {a1 : Option Value} {z : Nat} : Rs L xs (d) 206 22 [some (.ref z), a1] st M x = Rs L xs (d) 206 23 [some (.ref z), a1] (.ref z :: st) M x := Rs_next c206_22 rfl
theorem c206_23 : qx_code 206 23 = some (23, .getfield 9, 26, 8, 1, 1546) := by decide +kernel
theorem s206_23 {L : Nat} {xs : Nat → Int32} {d x : Nat} {M : qxM} {st : List Value} {ls : qxL} {t : Nat} (hk : qx_kd t = 18) : Rs L xs (d) 206 23 ls (.ref t :: st) M x = Rs L xs (d) 206 26 ls (.ref (t + 1) :: st) M x := Rs_when (qx_kd_obj (k := 8) (by decide) hk) c206_23 rfl
theorem c206_26 : qx_code 206 26 = some (26, .iconst 0, 27, 0, 0, 0) := by decide +kernel
theorem s206_26 {L : Nat} {xs : Nat → Int32} {d x : Nat} {M : qxM} {st : List Value} {ls : qxL} : Rs L xs (d) 206 26 ls st M x = Rs L xs (d) 206 27 ls (.int (nI 0) :: st) M x := Rs_next c206_26 rfl
theorem c206_27 : qx_code 206 27 = some (27, .aload_n 0, 28, 0, 0, 0) := by decide +kernel
theorem s206_27 {L : Nat} {xs : Nat → Int32} {d x : Nat} {M : qxM} {st : List Value} {a1 : Option Value} {z : Nat} : Rs L xs (d) 206 27 [some (.ref z), a1] st M x = Rs L xs (d) 206 28 [some (.ref z), a1] (.ref z :: st) M x := Rs_next c206_27 rfl
theorem c206_28 : qx_code 206 28 = some (28, .iconst 1, 29, 0, 0, 0) := by decide +kernel
theorem s206_28 {L : Nat} {xs : Nat → Int32} {d x : Nat} {M : qxM} {st : List Value} {ls : qxL} : Rs L xs (d) 206 28 ls st M x = Rs L xs (d) 206 29 ls (.int (nI 1) :: st) M x := Rs_next c206_28 rfl
theorem c206_29 : qx_code 206 29 = some (29, .bipush 14, 31, 0, 0, 0) := by decide +kernel
theorem s206_29 {L : Nat} {xs : Nat → Int32} {d x : Nat} {M : qxM} {st : List Value} {ls : qxL} : Rs L xs (d) 206 29 ls st M x = Rs L xs (d) 206 31 ls (.int (nI 14) :: st) M x := Rs_next c206_29 rfl
theorem c206_31 : qx_code 206 31 = some (31, .invokevirtual 169, 34, 197, 3, 1686) := by decide +kernel
theorem s206_31 {L : Nat} {xs : Nat → Int32} {d x : Nat} {M : qxM} {st : List Value} {ls : qxL} {t : Nat} {z0 : Int32} {z1 : Int32} (hk : qx_kd t = 18) (hs : st.length ≤ 4) : Rs L xs (d + 1) 206 31 ls (.int z1 :: .int z0 :: .ref t :: st) M x = (Rs L xs d 197 0 [some (.ref t), some (.int z0), some (.int z1), none] [] M 0).bind (qx_kn L xs (d + 1) 206 31 34 197 ls st x) := by
  have h1 : qx_act L xs (qx_rt 206) (31, .invokevirtual 169, 34, 197, 3, 1686) ls (.int z1 :: .int z0 :: .ref t :: st) M = if 3 ≤ (.int z1 :: .int z0 :: .ref t :: st).length ∧ st.length ≤ 4 then some (.inr (.inr (.inr (197, [.ref t, .int z0, .int z1], st)))) else none := rfl
  rw [if_pos ⟨by simp [List.length_cons]; try omega, hs⟩] at h1
  have h2 := qx_kd_obj (k := 8) (by decide) hk
  exact Rs_call c206_31 h1 (by rw [show qx_args 197 [.ref t, .int z0, .int z1] = decide (qx_sh t = some (.inl 8)) from rfl]; exact decide_eq_true h2)
theorem c206_34 : qx_code 206 34 = some (34, .iastore, 35, 0, 0, 0) := by decide +kernel
theorem s206_34 {L : Nat} {xs : Nat → Int32} {d x : Nat} {M : qxM} {st : List Value} {ls : qxL} {t : Nat} {j : Int32} {z : Int32} (hk : qx_kd t = 0) (hj : qx_ib j (qx_ln t) = true) : Rs L xs (d) 206 34 ls (.int z :: .int j :: .ref t :: st) M x = Rs L xs (d) 206 35 ls st (qx_up M t j.toNatClampNeg z) x := by
  have h1 := qx_kd_row (k := 0) (by decide) hk
  exact Rs_unless (qx_ib_not hj) c206_34 (by unfold qx_act; dsimp only; rw [h1]; rfl)
theorem c206_35 : qx_code 206 35 = some (35, .aload_n 0, 36, 0, 0, 0) := by decide +kernel
theorem s206_35 {L : Nat} {xs : Nat → Int32} {d x : Nat} {M : qxM} {st : List Value} {a1 : Option Value} {z : Nat} : Rs L xs (d) 206 35 [some (.ref z), a1] st M x = Rs L xs (d) 206 36 [some (.ref z), a1] (.ref z :: st) M x := Rs_next c206_35 rfl
theorem c206_36 : qx_code 206 36 = some (36, .getfield 9, 39, 8, 1, 1546) := by decide +kernel
theorem s206_36 {L : Nat} {xs : Nat → Int32} {d x : Nat} {M : qxM} {st : List Value} {ls : qxL} {t : Nat} (hk : qx_kd t = 18) : Rs L xs (d) 206 36 ls (.ref t :: st) M x = Rs L xs (d) 206 39 ls (.ref (t + 1) :: st) M x := Rs_when (qx_kd_obj (k := 8) (by decide) hk) c206_36 rfl
theorem c206_39 : qx_code 206 39 = some (39, .iconst 1, 40, 0, 0, 0) := by decide +kernel
theorem s206_39 {L : Nat} {xs : Nat → Int32} {d x : Nat} {M : qxM} {st : List Value} {ls : qxL} : Rs L xs (d) 206 39 ls st M x = Rs L xs (d) 206 40 ls (.int (nI 1) :: st) M x := Rs_next c206_39 rfl
theorem c206_40 : qx_code 206 40 = some (40, .aload_n 0, 41, 0, 0, 0) := by decide +kernel
theorem s206_40 {L : Nat} {xs : Nat → Int32} {d x : Nat} {M : qxM} {st : List Value} {a1 : Option Value} {z : Nat} : Rs L xs (d) 206 40 [some (.ref z), a1] st M x = Rs L xs (d) 206 41 [some (.ref z), a1] (.ref z :: st) M x := Rs_next c206_40 rfl
theorem c206_41 : qx_code 206 41 = some (41, .iconst 0, 42, 0, 0, 0) := by decide +kernel
theorem s206_41 {L : Nat} {xs : Nat → Int32} {d x : Nat} {M : qxM} {st : List Value} {ls : qxL} : Rs L xs (d) 206 41 ls st M x = Rs L xs (d) 206 42 ls (.int (nI 0) :: st) M x := Rs_next c206_41 rfl
theorem c206_42 : qx_code 206 42 = some (42, .iconst 2, 43, 0, 0, 0) := by decide +kernel
theorem s206_42 {L : Nat} {xs : Nat → Int32} {d x : Nat} {M : qxM} {st : List Value} {ls : qxL} : Rs L xs (d) 206 42 ls st M x = Rs L xs (d) 206 43 ls (.int (nI 2) :: st) M x := Rs_next c206_42 rfl
theorem c206_43 : qx_code 206 43 = some (43, .invokevirtual 169, 46, 197, 3, 1686) := by decide +kernel
theorem s206_43 {L : Nat} {xs : Nat → Int32} {d x : Nat} {M : qxM} {st : List Value} {ls : qxL} {t : Nat} {z0 : Int32} {z1 : Int32} (hk : qx_kd t = 18) (hs : st.length ≤ 4) : Rs L xs (d + 1) 206 43 ls (.int z1 :: .int z0 :: .ref t :: st) M x = (Rs L xs d 197 0 [some (.ref t), some (.int z0), some (.int z1), none] [] M 0).bind (qx_kn L xs (d + 1) 206 43 46 197 ls st x) := by
  have h1 : qx_act L xs (qx_rt 206) (43, .invokevirtual 169, 46, 197, 3, 1686) ls (.int z1 :: .int z0 :: .ref t :: st) M = if 3 ≤ (.int z1 :: .int z0 :: .ref t :: st).length ∧ st.length ≤ 4 then some (.inr (.inr (.inr (197, [.ref t, .int z0, .int z1], st)))) else none := rfl
  rw [if_pos ⟨by simp [List.length_cons]; try omega, hs⟩] at h1
  have h2 := qx_kd_obj (k := 8) (by decide) hk
  exact Rs_call c206_43 h1 (by rw [show qx_args 197 [.ref t, .int z0, .int z1] = decide (qx_sh t = some (.inl 8)) from rfl]; exact decide_eq_true h2)
theorem c206_46 : qx_code 206 46 = some (46, .iastore, 47, 0, 0, 0) := by decide +kernel
theorem s206_46 {L : Nat} {xs : Nat → Int32} {d x : Nat} {M : qxM} {st : List Value} {ls : qxL} {t : Nat} {j : Int32} {z : Int32} (hk : qx_kd t = 0) (hj : qx_ib j (qx_ln t) = true) : Rs L xs (d) 206 46 ls (.int z :: .int j :: .ref t :: st) M x = Rs L xs (d) 206 47 ls st (qx_up M t j.toNatClampNeg z) x := by
  have h1 := qx_kd_row (k := 0) (by decide) hk
  exact Rs_unless (qx_ib_not hj) c206_46 (by unfold qx_act; dsimp only; rw [h1]; rfl)
theorem c206_47 : qx_code 206 47 = some (47, .iconst 0, 48, 0, 0, 0) := by decide +kernel
theorem s206_47 {L : Nat} {xs : Nat → Int32} {d x : Nat} {M : qxM} {st : List Value} {ls : qxL} : Rs L xs (d) 206 47 ls st M x = Rs L xs (d) 206 48 ls (.int (nI 0) :: st) M x := Rs_next c206_47 rfl
theorem c206_48 : qx_code 206 48 = some (48, .istore_n 1, 49, 0, 0, 0) := by decide +kernel
theorem s206_48i {L : Nat} {xs : Nat → Int32} {d x : Nat} {M : qxM} {st : List Value} {a1 : Option Value} {z : Int32} {y : Int32} : Rs L xs (d) 206 48 [some (.int y), a1] (.int z :: st) M x = Rs L xs (d) 206 49 [some (.int y), some (.int z)] st M x := Rs_next c206_48 rfl
theorem s206_48r {L : Nat} {xs : Nat → Int32} {d x : Nat} {M : qxM} {st : List Value} {a1 : Option Value} {z : Int32} {y : Nat} : Rs L xs (d) 206 48 [some (.ref y), a1] (.int z :: st) M x = Rs L xs (d) 206 49 [some (.ref y), some (.int z)] st M x := Rs_next c206_48 rfl
theorem s206_48n {L : Nat} {xs : Nat → Int32} {d x : Nat} {M : qxM} {st : List Value} {a1 : Option Value} {z : Int32} : Rs L xs (d) 206 48 [none, a1] (.int z :: st) M x = Rs L xs (d) 206 49 [none, some (.int z)] st M x := Rs_next c206_48 rfl
theorem c206_49 : qx_code 206 49 = some (49, .iload_n 1, 50, 0, 0, 0) := by decide +kernel
theorem s206_49 {L : Nat} {xs : Nat → Int32} {d x : Nat} {M : qxM} {st : List Value} {a0 : Option Value} {z : Int32} : Rs L xs (d) 206 49 [a0, some (.int z)] st M x = Rs L xs (d) 206 50 [a0, some (.int z)] (.int z :: st) M x := Rs_next c206_49 rfl
theorem c206_50 : qx_code 206 50 = some (50, .bipush 14, 52, 0, 0, 0) := by decide +kernel
theorem s206_50 {L : Nat} {xs : Nat → Int32} {d x : Nat} {M : qxM} {st : List Value} {ls : qxL} : Rs L xs (d) 206 50 ls st M x = Rs L xs (d) 206 52 ls (.int (nI 14) :: st) M x := Rs_next c206_50 rfl
theorem c206_52 : qx_code 206 52 = some (52, .if_icmp .ge 19, 55, 71, 0, 0) := by decide +kernel
theorem s206_52 {L : Nat} {xs : Nat → Int32} {d x : Nat} {M : qxM} {st : List Value} {ls : qxL} {z y : Int32} : Rs L xs (d) 206 52 ls (.int y :: .int z :: st) M x = if y ≤ z then Rs L xs (d) 206 71 ls st M x else Rs L xs (d) 206 55 ls st M x := Rs_ite c206_52 rfl
theorem c206_55 : qx_code 206 55 = some (55, .aload_n 0, 56, 0, 0, 0) := by decide +kernel
theorem s206_55 {L : Nat} {xs : Nat → Int32} {d x : Nat} {M : qxM} {st : List Value} {a1 : Option Value} {z : Nat} : Rs L xs (d) 206 55 [some (.ref z), a1] st M x = Rs L xs (d) 206 56 [some (.ref z), a1] (.ref z :: st) M x := Rs_next c206_55 rfl
theorem c206_56 : qx_code 206 56 = some (56, .getfield 9, 59, 8, 1, 1546) := by decide +kernel
theorem s206_56 {L : Nat} {xs : Nat → Int32} {d x : Nat} {M : qxM} {st : List Value} {ls : qxL} {t : Nat} (hk : qx_kd t = 18) : Rs L xs (d) 206 56 ls (.ref t :: st) M x = Rs L xs (d) 206 59 ls (.ref (t + 1) :: st) M x := Rs_when (qx_kd_obj (k := 8) (by decide) hk) c206_56 rfl
theorem c206_59 : qx_code 206 59 = some (59, .bipush 21, 61, 0, 0, 0) := by decide +kernel
theorem s206_59 {L : Nat} {xs : Nat → Int32} {d x : Nat} {M : qxM} {st : List Value} {ls : qxL} : Rs L xs (d) 206 59 ls st M x = Rs L xs (d) 206 61 ls (.int (nI 21) :: st) M x := Rs_next c206_59 rfl
theorem c206_61 : qx_code 206 61 = some (61, .iload_n 1, 62, 0, 0, 0) := by decide +kernel
theorem s206_61 {L : Nat} {xs : Nat → Int32} {d x : Nat} {M : qxM} {st : List Value} {a0 : Option Value} {z : Int32} : Rs L xs (d) 206 61 [a0, some (.int z)] st M x = Rs L xs (d) 206 62 [a0, some (.int z)] (.int z :: st) M x := Rs_next c206_61 rfl
theorem c206_62 : qx_code 206 62 = some (62, .iadd, 63, 0, 0, 0) := by decide +kernel
theorem s206_62 {L : Nat} {xs : Nat → Int32} {d x : Nat} {M : qxM} {st : List Value} {ls : qxL} {z y : Int32} : Rs L xs (d) 206 62 ls (.int y :: .int z :: st) M x = Rs L xs (d) 206 63 ls (.int (z + y) :: st) M x := Rs_next c206_62 rfl
theorem c206_63 : qx_code 206 63 = some (63, .iconst (-1), 64, 0, 0, 0) := by decide +kernel
theorem s206_63 {L : Nat} {xs : Nat → Int32} {d x : Nat} {M : qxM} {st : List Value} {ls : qxL} : Rs L xs (d) 206 63 ls st M x = Rs L xs (d) 206 64 ls (.int (-1) :: st) M x := Rs_next c206_63 rfl
theorem c206_64 : qx_code 206 64 = some (64, .iastore, 65, 0, 0, 0) := by decide +kernel
theorem s206_64 {L : Nat} {xs : Nat → Int32} {d x : Nat} {M : qxM} {st : List Value} {ls : qxL} {t : Nat} {j : Int32} {z : Int32} (hk : qx_kd t = 0) (hj : qx_ib j (qx_ln t) = true) : Rs L xs (d) 206 64 ls (.int z :: .int j :: .ref t :: st) M x = Rs L xs (d) 206 65 ls st (qx_up M t j.toNatClampNeg z) x := by
  have h1 := qx_kd_row (k := 0) (by decide) hk
  exact Rs_unless (qx_ib_not hj) c206_64 (by unfold qx_act; dsimp only; rw [h1]; rfl)
theorem c206_65 : qx_code 206 65 = some (65, .iinc 1 1, 68, 0, 0, 0) := by decide +kernel
theorem s206_65i {L : Nat} {xs : Nat → Int32} {d x : Nat} {M : qxM} {st : List Value} {z : Int32} {y : Int32} : Rs L xs (d) 206 65 [some (.int y), some (.int z)] st M x = Rs L xs (d) 206 68 [some (.int y), some (.int (z + (nI 1)))] st M x := Rs_next c206_65 rfl
theorem s206_65r {L : Nat} {xs : Nat → Int32} {d x : Nat} {M : qxM} {st : List Value} {z : Int32} {y : Nat} : Rs L xs (d) 206 65 [some (.ref y), some (.int z)] st M x = Rs L xs (d) 206 68 [some (.ref y), some (.int (z + (nI 1)))] st M x := Rs_next c206_65 rfl
theorem s206_65n {L : Nat} {xs : Nat → Int32} {d x : Nat} {M : qxM} {st : List Value} {z : Int32} : Rs L xs (d) 206 65 [none, some (.int z)] st M x = Rs L xs (d) 206 68 [none, some (.int (z + (nI 1)))] st M x := Rs_next c206_65 rfl
theorem c206_68 : qx_code 206 68 = some (68, .goto (-19), 71, 49, 0, 0) := by decide +kernel
theorem s206_68 {L : Nat} {xs : Nat → Int32} {d x : Nat} {M : qxM} {st : List Value} {ls : qxL} : Rs L xs (d) 206 68 ls st M x = Rs L xs (d) 206 49 ls st M x := Rs_next c206_68 rfl
theorem c206_71 : qx_code 206 71 = some (71, .aload_n 0, 72, 0, 0, 0) := by decide +kernel
theorem s206_71 {L : Nat} {xs : Nat → Int32} {d x : Nat} {M : qxM} {st : List Value} {a1 : Option Value} {z : Nat} : Rs L xs (d) 206 71 [some (.ref z), a1] st M x = Rs L xs (d) 206 72 [some (.ref z), a1] (.ref z :: st) M x := Rs_next c206_71 rfl
theorem c206_72 : qx_code 206 72 = some (72, .iconst 4, 73, 0, 0, 0) := by decide +kernel
theorem s206_72 {L : Nat} {xs : Nat → Int32} {d x : Nat} {M : qxM} {st : List Value} {ls : qxL} : Rs L xs (d) 206 72 ls st M x = Rs L xs (d) 206 73 ls (.int (nI 4) :: st) M x := Rs_next c206_72 rfl
theorem c206_73 : qx_code 206 73 = some (73, .invokevirtual 92, 76, 194, 2, 1676) := by decide +kernel
theorem s206_73 {L : Nat} {xs : Nat → Int32} {d x : Nat} {M : qxM} {st : List Value} {ls : qxL} {t : Nat} {z0 : Int32} (hk : qx_kd t = 18) (hs : st.length ≤ 4) : Rs L xs (d + 1) 206 73 ls (.int z0 :: .ref t :: st) M x = (Rs L xs d 194 0 [some (.ref t), some (.int z0)] [] M 0).bind (qx_kn L xs (d + 1) 206 73 76 194 ls st x) := by
  have h1 : qx_act L xs (qx_rt 206) (73, .invokevirtual 92, 76, 194, 2, 1676) ls (.int z0 :: .ref t :: st) M = if 2 ≤ (.int z0 :: .ref t :: st).length ∧ st.length ≤ 4 then some (.inr (.inr (.inr (194, [.ref t, .int z0], st)))) else none := rfl
  rw [if_pos ⟨by simp [List.length_cons]; try omega, hs⟩] at h1
  have h2 := qx_kd_obj (k := 8) (by decide) hk
  exact Rs_call c206_73 h1 (by rw [show qx_args 194 [.ref t, .int z0] = decide (qx_sh t = some (.inl 8)) from rfl]; exact decide_eq_true h2)
theorem c206_76 : qx_code 206 76 = some (76, .ifCond .eq 14, 79, 90, 0, 0) := by decide +kernel
theorem s206_76 {L : Nat} {xs : Nat → Int32} {d x : Nat} {M : qxM} {st : List Value} {ls : qxL} {z : Int32} : Rs L xs (d) 206 76 ls (.int z :: st) M x = if z = 0 then Rs L xs (d) 206 90 ls st M x else Rs L xs (d) 206 79 ls st M x := Rs_ite c206_76 rfl
theorem c206_79 : qx_code 206 79 = some (79, .aload_n 0, 80, 0, 0, 0) := by decide +kernel
theorem s206_79 {L : Nat} {xs : Nat → Int32} {d x : Nat} {M : qxM} {st : List Value} {a1 : Option Value} {z : Nat} : Rs L xs (d) 206 79 [some (.ref z), a1] st M x = Rs L xs (d) 206 80 [some (.ref z), a1] (.ref z :: st) M x := Rs_next c206_79 rfl
theorem c206_80 : qx_code 206 80 = some (80, .invokevirtual 112, 83, 192, 1, 1659) := by decide +kernel
theorem s206_80 {L : Nat} {xs : Nat → Int32} {d x : Nat} {M : qxM} {st : List Value} {ls : qxL} {t : Nat} (hk : qx_kd t = 18) (hs : st.length ≤ 4) : Rs L xs (d + 1) 206 80 ls (.ref t :: st) M x = (Rs L xs d 192 0 [some (.ref t)] [] M 0).bind (qx_kn L xs (d + 1) 206 80 83 192 ls st x) := by
  have h1 : qx_act L xs (qx_rt 206) (80, .invokevirtual 112, 83, 192, 1, 1659) ls (.ref t :: st) M = if 1 ≤ (.ref t :: st).length ∧ st.length ≤ 4 then some (.inr (.inr (.inr (192, [.ref t], st)))) else none := rfl
  rw [if_pos ⟨by simp [List.length_cons]; try omega, hs⟩] at h1
  have h2 := qx_kd_obj (k := 8) (by decide) hk
  exact Rs_call c206_80 h1 (by rw [show qx_args 192 [.ref t] = decide (qx_sh t = some (.inl 8)) from rfl]; exact decide_eq_true h2)
theorem c206_83 : qx_code 206 83 = some (83, .aload_n 0, 84, 0, 0, 0) := by decide +kernel
theorem s206_83 {L : Nat} {xs : Nat → Int32} {d x : Nat} {M : qxM} {st : List Value} {a1 : Option Value} {z : Nat} : Rs L xs (d) 206 83 [some (.ref z), a1] st M x = Rs L xs (d) 206 84 [some (.ref z), a1] (.ref z :: st) M x := Rs_next c206_83 rfl
theorem c206_84 : qx_code 206 84 = some (84, .invokevirtual 172, 87, 205, 1, 1694) := by decide +kernel
theorem s206_84 {L : Nat} {xs : Nat → Int32} {d x : Nat} {M : qxM} {st : List Value} {ls : qxL} {t : Nat} (hk : qx_kd t = 18) (hs : st.length ≤ 4) : Rs L xs (d + 1) 206 84 ls (.ref t :: st) M x = (Rs L xs d 205 0 [some (.ref t)] [] M 0).bind (qx_kn L xs (d + 1) 206 84 87 205 ls st x) := by
  have h1 : qx_act L xs (qx_rt 206) (84, .invokevirtual 172, 87, 205, 1, 1694) ls (.ref t :: st) M = if 1 ≤ (.ref t :: st).length ∧ st.length ≤ 4 then some (.inr (.inr (.inr (205, [.ref t], st)))) else none := rfl
  rw [if_pos ⟨by simp [List.length_cons]; try omega, hs⟩] at h1
  have h2 := qx_kd_obj (k := 8) (by decide) hk
  exact Rs_call c206_84 h1 (by rw [show qx_args 205 [.ref t] = decide (qx_sh t = some (.inl 8)) from rfl]; exact decide_eq_true h2)
theorem c206_87 : qx_code 206 87 = some (87, .goto (-16), 90, 71, 0, 0) := by decide +kernel
theorem s206_87 {L : Nat} {xs : Nat → Int32} {d x : Nat} {M : qxM} {st : List Value} {ls : qxL} : Rs L xs (d) 206 87 ls st M x = Rs L xs (d) 206 71 ls st M x := Rs_next c206_87 rfl
theorem c206_90 : qx_code 206 90 = some (90, .aload_n 0, 91, 0, 0, 0) := by decide +kernel
theorem s206_90 {L : Nat} {xs : Nat → Int32} {d x : Nat} {M : qxM} {st : List Value} {a1 : Option Value} {z : Nat} : Rs L xs (d) 206 90 [some (.ref z), a1] st M x = Rs L xs (d) 206 91 [some (.ref z), a1] (.ref z :: st) M x := Rs_next c206_90 rfl
theorem c206_91 : qx_code 206 91 = some (91, .iconst 1, 92, 0, 0, 0) := by decide +kernel
theorem s206_91 {L : Nat} {xs : Nat → Int32} {d x : Nat} {M : qxM} {st : List Value} {ls : qxL} : Rs L xs (d) 206 91 ls st M x = Rs L xs (d) 206 92 ls (.int (nI 1) :: st) M x := Rs_next c206_91 rfl
theorem c206_92 : qx_code 206 92 = some (92, .invokevirtual 92, 95, 194, 2, 1676) := by decide +kernel
theorem s206_92 {L : Nat} {xs : Nat → Int32} {d x : Nat} {M : qxM} {st : List Value} {ls : qxL} {t : Nat} {z0 : Int32} (hk : qx_kd t = 18) (hs : st.length ≤ 4) : Rs L xs (d + 1) 206 92 ls (.int z0 :: .ref t :: st) M x = (Rs L xs d 194 0 [some (.ref t), some (.int z0)] [] M 0).bind (qx_kn L xs (d + 1) 206 92 95 194 ls st x) := by
  have h1 : qx_act L xs (qx_rt 206) (92, .invokevirtual 92, 95, 194, 2, 1676) ls (.int z0 :: .ref t :: st) M = if 2 ≤ (.int z0 :: .ref t :: st).length ∧ st.length ≤ 4 then some (.inr (.inr (.inr (194, [.ref t, .int z0], st)))) else none := rfl
  rw [if_pos ⟨by simp [List.length_cons]; try omega, hs⟩] at h1
  have h2 := qx_kd_obj (k := 8) (by decide) hk
  exact Rs_call c206_92 h1 (by rw [show qx_args 194 [.ref t, .int z0] = decide (qx_sh t = some (.inl 8)) from rfl]; exact decide_eq_true h2)
theorem c206_95 : qx_code 206 95 = some (95, .ifCond .ne 8, 98, 103, 0, 0) := by decide +kernel
theorem s206_95 {L : Nat} {xs : Nat → Int32} {d x : Nat} {M : qxM} {st : List Value} {ls : qxL} {z : Int32} : Rs L xs (d) 206 95 ls (.int z :: st) M x = if z = 0 then Rs L xs (d) 206 98 ls st M x else Rs L xs (d) 206 103 ls st M x := Rs_ite c206_95 rfl
theorem c206_98 : qx_code 206 98 = some (98, .aload_n 0, 99, 0, 0, 0) := by decide +kernel
theorem s206_98 {L : Nat} {xs : Nat → Int32} {d x : Nat} {M : qxM} {st : List Value} {a1 : Option Value} {z : Nat} : Rs L xs (d) 206 98 [some (.ref z), a1] st M x = Rs L xs (d) 206 99 [some (.ref z), a1] (.ref z :: st) M x := Rs_next c206_98 rfl
theorem c206_99 : qx_code 206 99 = some (99, .iconst 1, 100, 0, 0, 0) := by decide +kernel
theorem s206_99 {L : Nat} {xs : Nat → Int32} {d x : Nat} {M : qxM} {st : List Value} {ls : qxL} : Rs L xs (d) 206 99 ls st M x = Rs L xs (d) 206 100 ls (.int (nI 1) :: st) M x := Rs_next c206_99 rfl
theorem c206_100 : qx_code 206 100 = some (100, .invokevirtual 105, 103, 193, 2, 1682) := by decide +kernel
theorem s206_100 {L : Nat} {xs : Nat → Int32} {d x : Nat} {M : qxM} {st : List Value} {ls : qxL} {t : Nat} {z0 : Int32} (hk : qx_kd t = 18) (hs : st.length ≤ 4) : Rs L xs (d + 1) 206 100 ls (.int z0 :: .ref t :: st) M x = (Rs L xs d 193 0 [some (.ref t), some (.int z0)] [] M 0).bind (qx_kn L xs (d + 1) 206 100 103 193 ls st x) := by
  have h1 : qx_act L xs (qx_rt 206) (100, .invokevirtual 105, 103, 193, 2, 1682) ls (.int z0 :: .ref t :: st) M = if 2 ≤ (.int z0 :: .ref t :: st).length ∧ st.length ≤ 4 then some (.inr (.inr (.inr (193, [.ref t, .int z0], st)))) else none := rfl
  rw [if_pos ⟨by simp [List.length_cons]; try omega, hs⟩] at h1
  have h2 := qx_kd_obj (k := 8) (by decide) hk
  exact Rs_call c206_100 h1 (by rw [show qx_args 193 [.ref t, .int z0] = decide (qx_sh t = some (.inl 8)) from rfl]; exact decide_eq_true h2)
theorem c206_103 : qx_code 206 103 = some (103, .aload_n 0, 104, 0, 0, 0) := by decide +kernel
theorem s206_103 {L : Nat} {xs : Nat → Int32} {d x : Nat} {M : qxM} {st : List Value} {a1 : Option Value} {z : Nat} : Rs L xs (d) 206 103 [some (.ref z), a1] st M x = Rs L xs (d) 206 104 [some (.ref z), a1] (.ref z :: st) M x := Rs_next c206_103 rfl
theorem c206_104 : qx_code 206 104 = some (104, .invokevirtual 175, 107, 221, 1, 1757) := by decide +kernel
theorem s206_104 {L : Nat} {xs : Nat → Int32} {d x : Nat} {M : qxM} {st : List Value} {ls : qxL} {t : Nat} (hk : qx_kd t = 18) (hs : st.length ≤ 4) : Rs L xs (d + 1) 206 104 ls (.ref t :: st) M x = (Rs L xs d 221 0 [some (.ref t), none, none] [] M 0).bind (qx_kn L xs (d + 1) 206 104 107 221 ls st x) := by
  have h1 : qx_act L xs (qx_rt 206) (104, .invokevirtual 175, 107, 221, 1, 1757) ls (.ref t :: st) M = if 1 ≤ (.ref t :: st).length ∧ st.length ≤ 4 then some (.inr (.inr (.inr (221, [.ref t], st)))) else none := rfl
  rw [if_pos ⟨by simp [List.length_cons]; try omega, hs⟩] at h1
  have h2 := qx_kd_obj (k := 8) (by decide) hk
  exact Rs_call c206_104 h1 (by rw [show qx_args 221 [.ref t] = decide (qx_sh t = some (.inl 8)) from rfl]; exact decide_eq_true h2)
theorem c206_107 : qx_code 206 107 = some (107, .istore_n 1, 108, 0, 0, 0) := by decide +kernel
theorem s206_107i {L : Nat} {xs : Nat → Int32} {d x : Nat} {M : qxM} {st : List Value} {a1 : Option Value} {z : Int32} {y : Int32} : Rs L xs (d) 206 107 [some (.int y), a1] (.int z :: st) M x = Rs L xs (d) 206 108 [some (.int y), some (.int z)] st M x := Rs_next c206_107 rfl
theorem s206_107r {L : Nat} {xs : Nat → Int32} {d x : Nat} {M : qxM} {st : List Value} {a1 : Option Value} {z : Int32} {y : Nat} : Rs L xs (d) 206 107 [some (.ref y), a1] (.int z :: st) M x = Rs L xs (d) 206 108 [some (.ref y), some (.int z)] st M x := Rs_next c206_107 rfl
theorem s206_107n {L : Nat} {xs : Nat → Int32} {d x : Nat} {M : qxM} {st : List Value} {a1 : Option Value} {z : Int32} : Rs L xs (d) 206 107 [none, a1] (.int z :: st) M x = Rs L xs (d) 206 108 [none, some (.int z)] st M x := Rs_next c206_107 rfl
theorem c206_108 : qx_code 206 108 = some (108, .return_, 109, 0, 0, 0) := by decide +kernel
theorem s206_108 {L : Nat} {xs : Nat → Int32} {d x : Nat} {M : qxM} {ls : qxL} : Rs L xs (d) 206 108 ls [] M x = some (.inl none, M, x) := Rs_ret c206_108 rfl
theorem c207_0 : qx_code 207 0 = some (0, .aload_n 0, 1, 0, 0, 0) := by decide +kernel
theorem s207_0 {L : Nat} {xs : Nat → Int32} {d x : Nat} {M : qxM} {st : List Value} {a1 a2 : Option Value} {z : Nat} : Rs L xs (d) 207 0 [some (.ref z), a1, a2] st M x = Rs L xs (d) 207 1 [some (.ref z), a1, a2] (.ref z :: st) M x := Rs_next c207_0 rfl
theorem c207_1 : qx_code 207 1 = some (1, .iload_n 1, 2, 0, 0, 0) := by decide +kernel
theorem s207_1 {L : Nat} {xs : Nat → Int32} {d x : Nat} {M : qxM} {st : List Value} {a0 a2 : Option Value} {z : Int32} : Rs L xs (d) 207 1 [a0, some (.int z), a2] st M x = Rs L xs (d) 207 2 [a0, some (.int z), a2] (.int z :: st) M x := Rs_next c207_1 rfl
theorem c207_2 : qx_code 207 2 = some (2, .iconst 0, 3, 0, 0, 0) := by decide +kernel
theorem s207_2 {L : Nat} {xs : Nat → Int32} {d x : Nat} {M : qxM} {st : List Value} {ls : qxL} : Rs L xs (d) 207 2 ls st M x = Rs L xs (d) 207 3 ls (.int (nI 0) :: st) M x := Rs_next c207_2 rfl
theorem c207_3 : qx_code 207 3 = some (3, .aload_n 0, 4, 0, 0, 0) := by decide +kernel
theorem s207_3 {L : Nat} {xs : Nat → Int32} {d x : Nat} {M : qxM} {st : List Value} {a1 a2 : Option Value} {z : Nat} : Rs L xs (d) 207 3 [some (.ref z), a1, a2] st M x = Rs L xs (d) 207 4 [some (.ref z), a1, a2] (.ref z :: st) M x := Rs_next c207_3 rfl
theorem c207_4 : qx_code 207 4 = some (4, .getfield 56, 7, 8, 9, 1554) := by decide +kernel
theorem s207_4 {L : Nat} {xs : Nat → Int32} {d x : Nat} {M : qxM} {st : List Value} {ls : qxL} {t : Nat} (hk : qx_kd t = 18) : Rs L xs (d) 207 4 ls (.ref t :: st) M x = Rs L xs (d) 207 7 ls (.int (M.1 t 9) :: st) M x := Rs_when (qx_kd_obj (k := 8) (by decide) hk) c207_4 rfl
theorem c207_7 : qx_code 207 7 = some (7, .invokestatic 69, 10, 178, 3, 1641) := by decide +kernel
theorem s207_7 {L : Nat} {xs : Nat → Int32} {d x : Nat} {M : qxM} {st : List Value} {ls : qxL} {z0 : Int32} {z1 : Int32} {z2 : Int32} (hs : st.length ≤ 4) : Rs L xs (d + 1) 207 7 ls (.int z2 :: .int z1 :: .int z0 :: st) M x = (Rs L xs d 178 0 [some (.int z0), some (.int z1), some (.int z2)] [] M 0).bind (qx_kn L xs (d + 1) 207 7 10 178 ls st x) := by
  have h1 : qx_act L xs (qx_rt 207) (7, .invokestatic 69, 10, 178, 3, 1641) ls (.int z2 :: .int z1 :: .int z0 :: st) M = if 3 ≤ (.int z2 :: .int z1 :: .int z0 :: st).length ∧ st.length ≤ 4 then some (.inr (.inr (.inr (178, [.int z0, .int z1, .int z2], st)))) else none := rfl
  rw [if_pos ⟨by simp [List.length_cons]; try omega, hs⟩] at h1
  exact Rs_call c207_7 h1 rfl
theorem c207_10 : qx_code 207 10 = some (10, .iconst 1, 11, 0, 0, 0) := by decide +kernel
theorem s207_10 {L : Nat} {xs : Nat → Int32} {d x : Nat} {M : qxM} {st : List Value} {ls : qxL} : Rs L xs (d) 207 10 ls st M x = Rs L xs (d) 207 11 ls (.int (nI 1) :: st) M x := Rs_next c207_10 rfl
theorem c207_11 : qx_code 207 11 = some (11, .iconst 1, 12, 0, 0, 0) := by decide +kernel
theorem s207_11 {L : Nat} {xs : Nat → Int32} {d x : Nat} {M : qxM} {st : List Value} {ls : qxL} : Rs L xs (d) 207 11 ls st M x = Rs L xs (d) 207 12 ls (.int (nI 1) :: st) M x := Rs_next c207_11 rfl
theorem c207_12 : qx_code 207 12 = some (12, .invokevirtual 49, 15, 180, 4, 1644) := by decide +kernel
theorem s207_12 {L : Nat} {xs : Nat → Int32} {d x : Nat} {M : qxM} {st : List Value} {ls : qxL} {t : Nat} {z0 : Int32} {z1 : Int32} {z2 : Int32} (hk : qx_kd t = 18) (hs : st.length ≤ 4) : Rs L xs (d + 1) 207 12 ls (.int z2 :: .int z1 :: .int z0 :: .ref t :: st) M x = (Rs L xs d 180 0 [some (.ref t), some (.int z0), some (.int z1), some (.int z2)] [] M 0).bind (qx_kn L xs (d + 1) 207 12 15 180 ls st x) := by
  have h1 : qx_act L xs (qx_rt 207) (12, .invokevirtual 49, 15, 180, 4, 1644) ls (.int z2 :: .int z1 :: .int z0 :: .ref t :: st) M = if 4 ≤ (.int z2 :: .int z1 :: .int z0 :: .ref t :: st).length ∧ st.length ≤ 4 then some (.inr (.inr (.inr (180, [.ref t, .int z0, .int z1, .int z2], st)))) else none := rfl
  rw [if_pos ⟨by simp [List.length_cons]; try omega, hs⟩] at h1
  have h2 := qx_kd_obj (k := 8) (by decide) hk
  exact Rs_call c207_12 h1 (by rw [show qx_args 180 [.ref t, .int z0, .int z1, .int z2] = decide (qx_sh t = some (.inl 8)) from rfl]; exact decide_eq_true h2)
theorem c207_15 : qx_code 207 15 = some (15, .ifCond .ne 5, 18, 20, 0, 0) := by decide +kernel
theorem s207_15 {L : Nat} {xs : Nat → Int32} {d x : Nat} {M : qxM} {st : List Value} {ls : qxL} {z : Int32} : Rs L xs (d) 207 15 ls (.int z :: st) M x = if z = 0 then Rs L xs (d) 207 18 ls st M x else Rs L xs (d) 207 20 ls st M x := Rs_ite c207_15 rfl
theorem c207_18 : qx_code 207 18 = some (18, .iconst 0, 19, 0, 0, 0) := by decide +kernel
theorem s207_18 {L : Nat} {xs : Nat → Int32} {d x : Nat} {M : qxM} {st : List Value} {ls : qxL} : Rs L xs (d) 207 18 ls st M x = Rs L xs (d) 207 19 ls (.int (nI 0) :: st) M x := Rs_next c207_18 rfl
theorem c207_19 : qx_code 207 19 = some (19, .ireturn, 20, 0, 0, 0) := by decide +kernel
theorem s207_19 {L : Nat} {xs : Nat → Int32} {d x : Nat} {M : qxM} {ls : qxL} {z : Int32} : Rs L xs (d) 207 19 ls [.int z] M x = some (.inl (some (.int z)), M, x) := Rs_ret c207_19 rfl
theorem c207_20 : qx_code 207 20 = some (20, .aload_n 0, 21, 0, 0, 0) := by decide +kernel
theorem s207_20 {L : Nat} {xs : Nat → Int32} {d x : Nat} {M : qxM} {st : List Value} {a1 a2 : Option Value} {z : Nat} : Rs L xs (d) 207 20 [some (.ref z), a1, a2] st M x = Rs L xs (d) 207 21 [some (.ref z), a1, a2] (.ref z :: st) M x := Rs_next c207_20 rfl
theorem c207_21 : qx_code 207 21 = some (21, .iload_n 1, 22, 0, 0, 0) := by decide +kernel
theorem s207_21 {L : Nat} {xs : Nat → Int32} {d x : Nat} {M : qxM} {st : List Value} {a0 a2 : Option Value} {z : Int32} : Rs L xs (d) 207 21 [a0, some (.int z), a2] st M x = Rs L xs (d) 207 22 [a0, some (.int z), a2] (.int z :: st) M x := Rs_next c207_21 rfl
theorem c207_22 : qx_code 207 22 = some (22, .putfield 66, 25, 8, 12, 1557) := by decide +kernel
theorem s207_22 {L : Nat} {xs : Nat → Int32} {d x : Nat} {M : qxM} {st : List Value} {ls : qxL} {t : Nat} {z : Int32} (hk : qx_kd t = 18) : Rs L xs (d) 207 22 ls (.int z :: .ref t :: st) M x = Rs L xs (d) 207 25 ls st (qx_up M t 12 z) x := Rs_when (cnd := qx_sh t = some (.inl 8) ∧ qx_fo 8 12 = none ∧ (qx_bf 8 12 = true → z = 0 ∨ z = 1)) ⟨qx_kd_obj (k := 8) (by decide) hk, rfl, fun h => nomatch h⟩ c207_22 rfl
theorem c207_25 : qx_code 207 25 = some (25, .aload_n 0, 26, 0, 0, 0) := by decide +kernel
theorem s207_25 {L : Nat} {xs : Nat → Int32} {d x : Nat} {M : qxM} {st : List Value} {a1 a2 : Option Value} {z : Nat} : Rs L xs (d) 207 25 [some (.ref z), a1, a2] st M x = Rs L xs (d) 207 26 [some (.ref z), a1, a2] (.ref z :: st) M x := Rs_next c207_25 rfl
theorem c207_26 : qx_code 207 26 = some (26, .iconst 0, 27, 0, 0, 0) := by decide +kernel
theorem s207_26 {L : Nat} {xs : Nat → Int32} {d x : Nat} {M : qxM} {st : List Value} {ls : qxL} : Rs L xs (d) 207 26 ls st M x = Rs L xs (d) 207 27 ls (.int (nI 0) :: st) M x := Rs_next c207_26 rfl
theorem c207_27 : qx_code 207 27 = some (27, .putfield 73, 30, 8, 13, 1558) := by decide +kernel
theorem s207_27 {L : Nat} {xs : Nat → Int32} {d x : Nat} {M : qxM} {st : List Value} {ls : qxL} {t : Nat} {z : Int32} (hk : qx_kd t = 18) : Rs L xs (d) 207 27 ls (.int z :: .ref t :: st) M x = Rs L xs (d) 207 30 ls st (qx_up M t 13 z) x := Rs_when (cnd := qx_sh t = some (.inl 8) ∧ qx_fo 8 13 = none ∧ (qx_bf 8 13 = true → z = 0 ∨ z = 1)) ⟨qx_kd_obj (k := 8) (by decide) hk, rfl, fun h => nomatch h⟩ c207_27 rfl
theorem c207_30 : qx_code 207 30 = some (30, .aload_n 0, 31, 0, 0, 0) := by decide +kernel
theorem s207_30 {L : Nat} {xs : Nat → Int32} {d x : Nat} {M : qxM} {st : List Value} {a1 a2 : Option Value} {z : Nat} : Rs L xs (d) 207 30 [some (.ref z), a1, a2] st M x = Rs L xs (d) 207 31 [some (.ref z), a1, a2] (.ref z :: st) M x := Rs_next c207_30 rfl
theorem c207_31 : qx_code 207 31 = some (31, .iconst 0, 32, 0, 0, 0) := by decide +kernel
theorem s207_31 {L : Nat} {xs : Nat → Int32} {d x : Nat} {M : qxM} {st : List Value} {ls : qxL} : Rs L xs (d) 207 31 ls st M x = Rs L xs (d) 207 32 ls (.int (nI 0) :: st) M x := Rs_next c207_31 rfl
theorem c207_32 : qx_code 207 32 = some (32, .putfield 56, 35, 8, 9, 1554) := by decide +kernel
theorem s207_32 {L : Nat} {xs : Nat → Int32} {d x : Nat} {M : qxM} {st : List Value} {ls : qxL} {t : Nat} {z : Int32} (hk : qx_kd t = 18) : Rs L xs (d) 207 32 ls (.int z :: .ref t :: st) M x = Rs L xs (d) 207 35 ls st (qx_up M t 9 z) x := Rs_when (cnd := qx_sh t = some (.inl 8) ∧ qx_fo 8 9 = none ∧ (qx_bf 8 9 = true → z = 0 ∨ z = 1)) ⟨qx_kd_obj (k := 8) (by decide) hk, rfl, fun h => nomatch h⟩ c207_32 rfl
theorem c207_35 : qx_code 207 35 = some (35, .aload_n 0, 36, 0, 0, 0) := by decide +kernel
theorem s207_35 {L : Nat} {xs : Nat → Int32} {d x : Nat} {M : qxM} {st : List Value} {a1 a2 : Option Value} {z : Nat} : Rs L xs (d) 207 35 [some (.ref z), a1, a2] st M x = Rs L xs (d) 207 36 [some (.ref z), a1, a2] (.ref z :: st) M x := Rs_next c207_35 rfl
theorem c207_36 : qx_code 207 36 = some (36, .iconst 0, 37, 0, 0, 0) := by decide +kernel
theorem s207_36 {L : Nat} {xs : Nat → Int32} {d x : Nat} {M : qxM} {st : List Value} {ls : qxL} : Rs L xs (d) 207 36 ls st M x = Rs L xs (d) 207 37 ls (.int (nI 0) :: st) M x := Rs_next c207_36 rfl
theorem c207_37 : qx_code 207 37 = some (37, .putfield 63, 40, 8, 10, 1555) := by decide +kernel
theorem s207_37 {L : Nat} {xs : Nat → Int32} {d x : Nat} {M : qxM} {st : List Value} {ls : qxL} {t : Nat} {z : Int32} (hk : qx_kd t = 18) : Rs L xs (d) 207 37 ls (.int z :: .ref t :: st) M x = Rs L xs (d) 207 40 ls st (qx_up M t 10 z) x := Rs_when (cnd := qx_sh t = some (.inl 8) ∧ qx_fo 8 10 = none ∧ (qx_bf 8 10 = true → z = 0 ∨ z = 1)) ⟨qx_kd_obj (k := 8) (by decide) hk, rfl, fun h => nomatch h⟩ c207_37 rfl
theorem c207_40 : qx_code 207 40 = some (40, .aload_n 0, 41, 0, 0, 0) := by decide +kernel
theorem s207_40 {L : Nat} {xs : Nat → Int32} {d x : Nat} {M : qxM} {st : List Value} {a1 a2 : Option Value} {z : Nat} : Rs L xs (d) 207 40 [some (.ref z), a1, a2] st M x = Rs L xs (d) 207 41 [some (.ref z), a1, a2] (.ref z :: st) M x := Rs_next c207_40 rfl
theorem c207_41 : qx_code 207 41 = some (41, .iconst (-1), 42, 0, 0, 0) := by decide +kernel
theorem s207_41 {L : Nat} {xs : Nat → Int32} {d x : Nat} {M : qxM} {st : List Value} {ls : qxL} : Rs L xs (d) 207 41 ls st M x = Rs L xs (d) 207 42 ls (.int (-1) :: st) M x := Rs_next c207_41 rfl
theorem c207_42 : qx_code 207 42 = some (42, .putfield 30, 45, 8, 11, 1556) := by decide +kernel
theorem s207_42 {L : Nat} {xs : Nat → Int32} {d x : Nat} {M : qxM} {st : List Value} {ls : qxL} {t : Nat} {z : Int32} (hk : qx_kd t = 18) : Rs L xs (d) 207 42 ls (.int z :: .ref t :: st) M x = Rs L xs (d) 207 45 ls st (qx_up M t 11 z) x := Rs_when (cnd := qx_sh t = some (.inl 8) ∧ qx_fo 8 11 = none ∧ (qx_bf 8 11 = true → z = 0 ∨ z = 1)) ⟨qx_kd_obj (k := 8) (by decide) hk, rfl, fun h => nomatch h⟩ c207_42 rfl
theorem c207_45 : qx_code 207 45 = some (45, .aload_n 0, 46, 0, 0, 0) := by decide +kernel
theorem s207_45 {L : Nat} {xs : Nat → Int32} {d x : Nat} {M : qxM} {st : List Value} {a1 a2 : Option Value} {z : Nat} : Rs L xs (d) 207 45 [some (.ref z), a1, a2] st M x = Rs L xs (d) 207 46 [some (.ref z), a1, a2] (.ref z :: st) M x := Rs_next c207_45 rfl
theorem c207_46 : qx_code 207 46 = some (46, .invokevirtual 178, 49, 183, 1, 1648) := by decide +kernel
theorem s207_46 {L : Nat} {xs : Nat → Int32} {d x : Nat} {M : qxM} {st : List Value} {ls : qxL} {t : Nat} (hk : qx_kd t = 18) (hs : st.length ≤ 4) : Rs L xs (d + 1) 207 46 ls (.ref t :: st) M x = (Rs L xs d 183 0 [some (.ref t)] [] M 0).bind (qx_kn L xs (d + 1) 207 46 49 183 ls st x) := by
  have h1 : qx_act L xs (qx_rt 207) (46, .invokevirtual 178, 49, 183, 1, 1648) ls (.ref t :: st) M = if 1 ≤ (.ref t :: st).length ∧ st.length ≤ 4 then some (.inr (.inr (.inr (183, [.ref t], st)))) else none := rfl
  rw [if_pos ⟨by simp [List.length_cons]; try omega, hs⟩] at h1
  have h2 := qx_kd_obj (k := 8) (by decide) hk
  exact Rs_call c207_46 h1 (by rw [show qx_args 183 [.ref t] = decide (qx_sh t = some (.inl 8)) from rfl]; exact decide_eq_true h2)
theorem c207_49 : qx_code 207 49 = some (49, .iconst 0, 50, 0, 0, 0) := by decide +kernel
theorem s207_49 {L : Nat} {xs : Nat → Int32} {d x : Nat} {M : qxM} {st : List Value} {ls : qxL} : Rs L xs (d) 207 49 ls st M x = Rs L xs (d) 207 50 ls (.int (nI 0) :: st) M x := Rs_next c207_49 rfl
theorem c207_50 : qx_code 207 50 = some (50, .istore_n 2, 51, 0, 0, 0) := by decide +kernel
theorem s207_50i {L : Nat} {xs : Nat → Int32} {d x : Nat} {M : qxM} {st : List Value} {a0 a2 : Option Value} {z : Int32} {y : Int32} : Rs L xs (d) 207 50 [a0, some (.int y), a2] (.int z :: st) M x = Rs L xs (d) 207 51 [a0, some (.int y), some (.int z)] st M x := Rs_next c207_50 rfl
theorem s207_50r {L : Nat} {xs : Nat → Int32} {d x : Nat} {M : qxM} {st : List Value} {a0 a2 : Option Value} {z : Int32} {y : Nat} : Rs L xs (d) 207 50 [a0, some (.ref y), a2] (.int z :: st) M x = Rs L xs (d) 207 51 [a0, some (.ref y), some (.int z)] st M x := Rs_next c207_50 rfl
theorem s207_50n {L : Nat} {xs : Nat → Int32} {d x : Nat} {M : qxM} {st : List Value} {a0 a2 : Option Value} {z : Int32} : Rs L xs (d) 207 50 [a0, none, a2] (.int z :: st) M x = Rs L xs (d) 207 51 [a0, none, some (.int z)] st M x := Rs_next c207_50 rfl
theorem c207_51 : qx_code 207 51 = some (51, .iload_n 2, 52, 0, 0, 0) := by decide +kernel
theorem s207_51 {L : Nat} {xs : Nat → Int32} {d x : Nat} {M : qxM} {st : List Value} {a0 a1 : Option Value} {z : Int32} : Rs L xs (d) 207 51 [a0, a1, some (.int z)] st M x = Rs L xs (d) 207 52 [a0, a1, some (.int z)] (.int z :: st) M x := Rs_next c207_51 rfl
theorem c207_52 : qx_code 207 52 = some (52, .sipush 335, 55, 0, 0, 0) := by decide +kernel
theorem s207_52 {L : Nat} {xs : Nat → Int32} {d x : Nat} {M : qxM} {st : List Value} {ls : qxL} : Rs L xs (d) 207 52 ls st M x = Rs L xs (d) 207 55 ls (.int (nI 335) :: st) M x := Rs_next c207_52 rfl
theorem c207_55 : qx_code 207 55 = some (55, .if_icmp .ge 16, 58, 71, 0, 0) := by decide +kernel
theorem s207_55 {L : Nat} {xs : Nat → Int32} {d x : Nat} {M : qxM} {st : List Value} {ls : qxL} {z y : Int32} : Rs L xs (d) 207 55 ls (.int y :: .int z :: st) M x = if y ≤ z then Rs L xs (d) 207 71 ls st M x else Rs L xs (d) 207 58 ls st M x := Rs_ite c207_55 rfl
theorem c207_58 : qx_code 207 58 = some (58, .aload_n 0, 59, 0, 0, 0) := by decide +kernel
theorem s207_58 {L : Nat} {xs : Nat → Int32} {d x : Nat} {M : qxM} {st : List Value} {a1 a2 : Option Value} {z : Nat} : Rs L xs (d) 207 58 [some (.ref z), a1, a2] st M x = Rs L xs (d) 207 59 [some (.ref z), a1, a2] (.ref z :: st) M x := Rs_next c207_58 rfl
theorem c207_59 : qx_code 207 59 = some (59, .getfield 9, 62, 8, 1, 1546) := by decide +kernel
theorem s207_59 {L : Nat} {xs : Nat → Int32} {d x : Nat} {M : qxM} {st : List Value} {ls : qxL} {t : Nat} (hk : qx_kd t = 18) : Rs L xs (d) 207 59 ls (.ref t :: st) M x = Rs L xs (d) 207 62 ls (.ref (t + 1) :: st) M x := Rs_when (qx_kd_obj (k := 8) (by decide) hk) c207_59 rfl
theorem c207_62 : qx_code 207 62 = some (62, .iload_n 2, 63, 0, 0, 0) := by decide +kernel
theorem s207_62 {L : Nat} {xs : Nat → Int32} {d x : Nat} {M : qxM} {st : List Value} {a0 a1 : Option Value} {z : Int32} : Rs L xs (d) 207 62 [a0, a1, some (.int z)] st M x = Rs L xs (d) 207 63 [a0, a1, some (.int z)] (.int z :: st) M x := Rs_next c207_62 rfl
theorem c207_63 : qx_code 207 63 = some (63, .iconst 0, 64, 0, 0, 0) := by decide +kernel
theorem s207_63 {L : Nat} {xs : Nat → Int32} {d x : Nat} {M : qxM} {st : List Value} {ls : qxL} : Rs L xs (d) 207 63 ls st M x = Rs L xs (d) 207 64 ls (.int (nI 0) :: st) M x := Rs_next c207_63 rfl
theorem c207_64 : qx_code 207 64 = some (64, .iastore, 65, 0, 0, 0) := by decide +kernel
theorem s207_64 {L : Nat} {xs : Nat → Int32} {d x : Nat} {M : qxM} {st : List Value} {ls : qxL} {t : Nat} {j : Int32} {z : Int32} (hk : qx_kd t = 0) (hj : qx_ib j (qx_ln t) = true) : Rs L xs (d) 207 64 ls (.int z :: .int j :: .ref t :: st) M x = Rs L xs (d) 207 65 ls st (qx_up M t j.toNatClampNeg z) x := by
  have h1 := qx_kd_row (k := 0) (by decide) hk
  exact Rs_unless (qx_ib_not hj) c207_64 (by unfold qx_act; dsimp only; rw [h1]; rfl)
theorem c207_65 : qx_code 207 65 = some (65, .iinc 2 1, 68, 0, 0, 0) := by decide +kernel
theorem s207_65i {L : Nat} {xs : Nat → Int32} {d x : Nat} {M : qxM} {st : List Value} {a0 : Option Value} {z : Int32} {y : Int32} : Rs L xs (d) 207 65 [a0, some (.int y), some (.int z)] st M x = Rs L xs (d) 207 68 [a0, some (.int y), some (.int (z + (nI 1)))] st M x := Rs_next c207_65 rfl
theorem s207_65r {L : Nat} {xs : Nat → Int32} {d x : Nat} {M : qxM} {st : List Value} {a0 : Option Value} {z : Int32} {y : Nat} : Rs L xs (d) 207 65 [a0, some (.ref y), some (.int z)] st M x = Rs L xs (d) 207 68 [a0, some (.ref y), some (.int (z + (nI 1)))] st M x := Rs_next c207_65 rfl
theorem s207_65n {L : Nat} {xs : Nat → Int32} {d x : Nat} {M : qxM} {st : List Value} {a0 : Option Value} {z : Int32} : Rs L xs (d) 207 65 [a0, none, some (.int z)] st M x = Rs L xs (d) 207 68 [a0, none, some (.int (z + (nI 1)))] st M x := Rs_next c207_65 rfl
theorem c207_68 : qx_code 207 68 = some (68, .goto (-17), 71, 51, 0, 0) := by decide +kernel
theorem s207_68 {L : Nat} {xs : Nat → Int32} {d x : Nat} {M : qxM} {st : List Value} {ls : qxL} : Rs L xs (d) 207 68 ls st M x = Rs L xs (d) 207 51 ls st M x := Rs_next c207_68 rfl
theorem c207_71 : qx_code 207 71 = some (71, .aload_n 0, 72, 0, 0, 0) := by decide +kernel
theorem s207_71 {L : Nat} {xs : Nat → Int32} {d x : Nat} {M : qxM} {st : List Value} {a1 a2 : Option Value} {z : Nat} : Rs L xs (d) 207 71 [some (.ref z), a1, a2] st M x = Rs L xs (d) 207 72 [some (.ref z), a1, a2] (.ref z :: st) M x := Rs_next c207_71 rfl
theorem c207_72 : qx_code 207 72 = some (72, .invokevirtual 181, 75, 206, 1, 1655) := by decide +kernel
theorem s207_72 {L : Nat} {xs : Nat → Int32} {d x : Nat} {M : qxM} {st : List Value} {ls : qxL} {t : Nat} (hk : qx_kd t = 18) (hs : st.length ≤ 4) : Rs L xs (d + 1) 207 72 ls (.ref t :: st) M x = (Rs L xs d 206 0 [some (.ref t), none] [] M 0).bind (qx_kn L xs (d + 1) 207 72 75 206 ls st x) := by
  have h1 : qx_act L xs (qx_rt 207) (72, .invokevirtual 181, 75, 206, 1, 1655) ls (.ref t :: st) M = if 1 ≤ (.ref t :: st).length ∧ st.length ≤ 4 then some (.inr (.inr (.inr (206, [.ref t], st)))) else none := rfl
  rw [if_pos ⟨by simp [List.length_cons]; try omega, hs⟩] at h1
  have h2 := qx_kd_obj (k := 8) (by decide) hk
  exact Rs_call c207_72 h1 (by rw [show qx_args 206 [.ref t] = decide (qx_sh t = some (.inl 8)) from rfl]; exact decide_eq_true h2)
theorem c207_75 : qx_code 207 75 = some (75, .aload_n 0, 76, 0, 0, 0) := by decide +kernel
theorem s207_75 {L : Nat} {xs : Nat → Int32} {d x : Nat} {M : qxM} {st : List Value} {a1 a2 : Option Value} {z : Nat} : Rs L xs (d) 207 75 [some (.ref z), a1, a2] st M x = Rs L xs (d) 207 76 [some (.ref z), a1, a2] (.ref z :: st) M x := Rs_next c207_75 rfl
theorem c207_76 : qx_code 207 76 = some (76, .getfield 63, 79, 8, 10, 1555) := by decide +kernel
theorem s207_76 {L : Nat} {xs : Nat → Int32} {d x : Nat} {M : qxM} {st : List Value} {ls : qxL} {t : Nat} (hk : qx_kd t = 18) : Rs L xs (d) 207 76 ls (.ref t :: st) M x = Rs L xs (d) 207 79 ls (.int (M.1 t 10) :: st) M x := Rs_when (qx_kd_obj (k := 8) (by decide) hk) c207_76 rfl
theorem c207_79 : qx_code 207 79 = some (79, .ifCond .le 14, 82, 93, 0, 0) := by decide +kernel
theorem s207_79 {L : Nat} {xs : Nat → Int32} {d x : Nat} {M : qxM} {st : List Value} {ls : qxL} {z : Int32} : Rs L xs (d) 207 79 ls (.int z :: st) M x = if z ≤ 0 then Rs L xs (d) 207 93 ls st M x else Rs L xs (d) 207 82 ls st M x := Rs_ite c207_79 rfl
theorem c207_82 : qx_code 207 82 = some (82, .aload_n 0, 83, 0, 0, 0) := by decide +kernel
theorem s207_82 {L : Nat} {xs : Nat → Int32} {d x : Nat} {M : qxM} {st : List Value} {a1 a2 : Option Value} {z : Nat} : Rs L xs (d) 207 82 [some (.ref z), a1, a2] st M x = Rs L xs (d) 207 83 [some (.ref z), a1, a2] (.ref z :: st) M x := Rs_next c207_82 rfl
theorem c207_83 : qx_code 207 83 = some (83, .iconst 2, 84, 0, 0, 0) := by decide +kernel
theorem s207_83 {L : Nat} {xs : Nat → Int32} {d x : Nat} {M : qxM} {st : List Value} {ls : qxL} : Rs L xs (d) 207 83 ls st M x = Rs L xs (d) 207 84 ls (.int (nI 2) :: st) M x := Rs_next c207_83 rfl
theorem c207_84 : qx_code 207 84 = some (84, .putfield 46, 87, 8, 0, 1545) := by decide +kernel
theorem s207_84 {L : Nat} {xs : Nat → Int32} {d x : Nat} {M : qxM} {st : List Value} {ls : qxL} {t : Nat} {z : Int32} (hk : qx_kd t = 18) : Rs L xs (d) 207 84 ls (.int z :: .ref t :: st) M x = Rs L xs (d) 207 87 ls st (qx_up M t 0 z) x := Rs_when (cnd := qx_sh t = some (.inl 8) ∧ qx_fo 8 0 = none ∧ (qx_bf 8 0 = true → z = 0 ∨ z = 1)) ⟨qx_kd_obj (k := 8) (by decide) hk, rfl, fun h => nomatch h⟩ c207_84 rfl
theorem c207_87 : qx_code 207 87 = some (87, .aload_n 0, 88, 0, 0, 0) := by decide +kernel
theorem s207_87 {L : Nat} {xs : Nat → Int32} {d x : Nat} {M : qxM} {st : List Value} {a1 a2 : Option Value} {z : Nat} : Rs L xs (d) 207 87 [some (.ref z), a1, a2] st M x = Rs L xs (d) 207 88 [some (.ref z), a1, a2] (.ref z :: st) M x := Rs_next c207_87 rfl
theorem c207_88 : qx_code 207 88 = some (88, .iconst 0, 89, 0, 0, 0) := by decide +kernel
theorem s207_88 {L : Nat} {xs : Nat → Int32} {d x : Nat} {M : qxM} {st : List Value} {ls : qxL} : Rs L xs (d) 207 88 ls st M x = Rs L xs (d) 207 89 ls (.int (nI 0) :: st) M x := Rs_next c207_88 rfl
theorem c207_89 : qx_code 207 89 = some (89, .invokevirtual 184, 92, 184, 2, 1765) := by decide +kernel
theorem s207_89 {L : Nat} {xs : Nat → Int32} {d x : Nat} {M : qxM} {st : List Value} {ls : qxL} {t : Nat} {z0 : Int32} (hk : qx_kd t = 18) (hs : st.length ≤ 4) : Rs L xs (d + 1) 207 89 ls (.int z0 :: .ref t :: st) M x = (Rs L xs d 184 0 [some (.ref t), some (.int z0)] [] M 0).bind (qx_kn L xs (d + 1) 207 89 92 184 ls st x) := by
  have h1 : qx_act L xs (qx_rt 207) (89, .invokevirtual 184, 92, 184, 2, 1765) ls (.int z0 :: .ref t :: st) M = if 2 ≤ (.int z0 :: .ref t :: st).length ∧ st.length ≤ 4 then some (.inr (.inr (.inr (184, [.ref t, .int z0], st)))) else none := rfl
  rw [if_pos ⟨by simp [List.length_cons]; try omega, hs⟩] at h1
  have h2 := qx_kd_obj (k := 8) (by decide) hk
  exact Rs_call c207_89 h1 (by rw [show qx_args 184 [.ref t, .int z0] = decide (qx_sh t = some (.inl 8)) from rfl]; exact decide_eq_true h2)
theorem c207_92 : qx_code 207 92 = some (92, .ireturn, 93, 0, 0, 0) := by decide +kernel
theorem s207_92 {L : Nat} {xs : Nat → Int32} {d x : Nat} {M : qxM} {ls : qxL} {z : Int32} : Rs L xs (d) 207 92 ls [.int z] M x = some (.inl (some (.int z)), M, x) := Rs_ret c207_92 rfl
theorem c207_93 : qx_code 207 93 = some (93, .aload_n 0, 94, 0, 0, 0) := by decide +kernel
theorem s207_93 {L : Nat} {xs : Nat → Int32} {d x : Nat} {M : qxM} {st : List Value} {a1 a2 : Option Value} {z : Nat} : Rs L xs (d) 207 93 [some (.ref z), a1, a2] st M x = Rs L xs (d) 207 94 [some (.ref z), a1, a2] (.ref z :: st) M x := Rs_next c207_93 rfl
theorem c207_94 : qx_code 207 94 = some (94, .iconst 1, 95, 0, 0, 0) := by decide +kernel
theorem s207_94 {L : Nat} {xs : Nat → Int32} {d x : Nat} {M : qxM} {st : List Value} {ls : qxL} : Rs L xs (d) 207 94 ls st M x = Rs L xs (d) 207 95 ls (.int (nI 1) :: st) M x := Rs_next c207_94 rfl
theorem c207_95 : qx_code 207 95 = some (95, .putfield 187, 98, 8, 6, 1551) := by decide +kernel
theorem s207_95 {L : Nat} {xs : Nat → Int32} {d x : Nat} {M : qxM} {st : List Value} {ls : qxL} {t : Nat} {z : Int32} (hk : qx_kd t = 18) (h01 : z = 0 ∨ z = 1) : Rs L xs (d) 207 95 ls (.int z :: .ref t :: st) M x = Rs L xs (d) 207 98 ls st (qx_up M t 6 z) x := Rs_when (cnd := qx_sh t = some (.inl 8) ∧ qx_fo 8 6 = none ∧ (qx_bf 8 6 = true → z = 0 ∨ z = 1)) ⟨qx_kd_obj (k := 8) (by decide) hk, rfl, fun _ => h01⟩ c207_95 rfl
theorem c207_98 : qx_code 207 98 = some (98, .aload_n 0, 99, 0, 0, 0) := by decide +kernel
theorem s207_98 {L : Nat} {xs : Nat → Int32} {d x : Nat} {M : qxM} {st : List Value} {a1 a2 : Option Value} {z : Nat} : Rs L xs (d) 207 98 [some (.ref z), a1, a2] st M x = Rs L xs (d) 207 99 [some (.ref z), a1, a2] (.ref z :: st) M x := Rs_next c207_98 rfl
theorem c207_99 : qx_code 207 99 = some (99, .iconst 0, 100, 0, 0, 0) := by decide +kernel
theorem s207_99 {L : Nat} {xs : Nat → Int32} {d x : Nat} {M : qxM} {st : List Value} {ls : qxL} : Rs L xs (d) 207 99 ls st M x = Rs L xs (d) 207 100 ls (.int (nI 0) :: st) M x := Rs_next c207_99 rfl
theorem c207_100 : qx_code 207 100 = some (100, .putfield 191, 103, 8, 7, 1552) := by decide +kernel
theorem s207_100 {L : Nat} {xs : Nat → Int32} {d x : Nat} {M : qxM} {st : List Value} {ls : qxL} {t : Nat} {z : Int32} (hk : qx_kd t = 18) : Rs L xs (d) 207 100 ls (.int z :: .ref t :: st) M x = Rs L xs (d) 207 103 ls st (qx_up M t 7 z) x := Rs_when (cnd := qx_sh t = some (.inl 8) ∧ qx_fo 8 7 = none ∧ (qx_bf 8 7 = true → z = 0 ∨ z = 1)) ⟨qx_kd_obj (k := 8) (by decide) hk, rfl, fun h => nomatch h⟩ c207_100 rfl
theorem c207_103 : qx_code 207 103 = some (103, .aload_n 0, 104, 0, 0, 0) := by decide +kernel
theorem s207_103 {L : Nat} {xs : Nat → Int32} {d x : Nat} {M : qxM} {st : List Value} {a1 a2 : Option Value} {z : Nat} : Rs L xs (d) 207 103 [some (.ref z), a1, a2] st M x = Rs L xs (d) 207 104 [some (.ref z), a1, a2] (.ref z :: st) M x := Rs_next c207_103 rfl
theorem c207_104 : qx_code 207 104 = some (104, .getfield 22, 107, 8, 5, 1550) := by decide +kernel
theorem s207_104 {L : Nat} {xs : Nat → Int32} {d x : Nat} {M : qxM} {st : List Value} {ls : qxL} {t : Nat} (hk : qx_kd t = 18) : Rs L xs (d) 207 104 ls (.ref t :: st) M x = Rs L xs (d) 207 107 ls (.ref (t + 5) :: st) M x := Rs_when (qx_kd_obj (k := 8) (by decide) hk) c207_104 rfl
theorem c207_107 : qx_code 207 107 = some (107, .iconst 0, 108, 0, 0, 0) := by decide +kernel
theorem s207_107 {L : Nat} {xs : Nat → Int32} {d x : Nat} {M : qxM} {st : List Value} {ls : qxL} : Rs L xs (d) 207 107 ls st M x = Rs L xs (d) 207 108 ls (.int (nI 0) :: st) M x := Rs_next c207_107 rfl
theorem c207_108 : qx_code 207 108 = some (108, .iconst 0, 109, 0, 0, 0) := by decide +kernel
theorem s207_108 {L : Nat} {xs : Nat → Int32} {d x : Nat} {M : qxM} {st : List Value} {ls : qxL} : Rs L xs (d) 207 108 ls st M x = Rs L xs (d) 207 109 ls (.int (nI 0) :: st) M x := Rs_next c207_108 rfl
theorem c207_109 : qx_code 207 109 = some (109, .bastore, 110, 0, 0, 0) := by decide +kernel
theorem s207_109 {L : Nat} {xs : Nat → Int32} {d x : Nat} {M : qxM} {st : List Value} {ls : qxL} {t : Nat} {j : Int32} {z : Int32} (hk : qx_kd t = 1) (hj : qx_ib j (qx_ln t) = true) : Rs L xs (d) 207 109 ls (.int z :: .int j :: .ref t :: st) M x = Rs L xs (d) 207 110 ls st (qx_up M t j.toNatClampNeg z.toInt8.toInt32) x := by
  have h1 := qx_kd_row (k := 1) (by decide) hk
  exact Rs_unless (qx_ib_not hj) c207_109 (by unfold qx_act; dsimp only; rw [h1]; rfl)
theorem s207_109z {L : Nat} {xs : Nat → Int32} {d x : Nat} {M : qxM} {st : List Value} {ls : qxL} {t : Nat} {j : Int32} {z : Int32} (hk : qx_kd t = 2) (hj : qx_ib j (qx_ln t) = true) (h01 : z = 0 ∨ z = 1) : Rs L xs (d) 207 109 ls (.int z :: .int j :: .ref t :: st) M x = Rs L xs (d) 207 110 ls st (qx_up M t j.toNatClampNeg z) x := by
  have h1 := qx_kd_row (k := 2) (by decide) hk
  exact Rs_unless (qx_ib_not hj) c207_109 (by unfold qx_act; dsimp only; rw [h1]; first | (rw [if_pos h01]; rfl) | (simp only [if_pos h01]; rfl) | rfl)
theorem c207_110 : qx_code 207 110 = some (110, .aload_n 0, 111, 0, 0, 0) := by decide +kernel
theorem s207_110 {L : Nat} {xs : Nat → Int32} {d x : Nat} {M : qxM} {st : List Value} {a1 a2 : Option Value} {z : Nat} : Rs L xs (d) 207 110 [some (.ref z), a1, a2] st M x = Rs L xs (d) 207 111 [some (.ref z), a1, a2] (.ref z :: st) M x := Rs_next c207_110 rfl
theorem c207_111 : qx_code 207 111 = some (111, .getfield 22, 114, 8, 5, 1550) := by decide +kernel
theorem s207_111 {L : Nat} {xs : Nat → Int32} {d x : Nat} {M : qxM} {st : List Value} {ls : qxL} {t : Nat} (hk : qx_kd t = 18) : Rs L xs (d) 207 111 ls (.ref t :: st) M x = Rs L xs (d) 207 114 ls (.ref (t + 5) :: st) M x := Rs_when (qx_kd_obj (k := 8) (by decide) hk) c207_111 rfl
theorem c207_114 : qx_code 207 114 = some (114, .iconst 1, 115, 0, 0, 0) := by decide +kernel
theorem s207_114 {L : Nat} {xs : Nat → Int32} {d x : Nat} {M : qxM} {st : List Value} {ls : qxL} : Rs L xs (d) 207 114 ls st M x = Rs L xs (d) 207 115 ls (.int (nI 1) :: st) M x := Rs_next c207_114 rfl
theorem c207_115 : qx_code 207 115 = some (115, .iconst 0, 116, 0, 0, 0) := by decide +kernel
theorem s207_115 {L : Nat} {xs : Nat → Int32} {d x : Nat} {M : qxM} {st : List Value} {ls : qxL} : Rs L xs (d) 207 115 ls st M x = Rs L xs (d) 207 116 ls (.int (nI 0) :: st) M x := Rs_next c207_115 rfl
theorem c207_116 : qx_code 207 116 = some (116, .bastore, 117, 0, 0, 0) := by decide +kernel
theorem s207_116 {L : Nat} {xs : Nat → Int32} {d x : Nat} {M : qxM} {st : List Value} {ls : qxL} {t : Nat} {j : Int32} {z : Int32} (hk : qx_kd t = 1) (hj : qx_ib j (qx_ln t) = true) : Rs L xs (d) 207 116 ls (.int z :: .int j :: .ref t :: st) M x = Rs L xs (d) 207 117 ls st (qx_up M t j.toNatClampNeg z.toInt8.toInt32) x := by
  have h1 := qx_kd_row (k := 1) (by decide) hk
  exact Rs_unless (qx_ib_not hj) c207_116 (by unfold qx_act; dsimp only; rw [h1]; rfl)
theorem s207_116z {L : Nat} {xs : Nat → Int32} {d x : Nat} {M : qxM} {st : List Value} {ls : qxL} {t : Nat} {j : Int32} {z : Int32} (hk : qx_kd t = 2) (hj : qx_ib j (qx_ln t) = true) (h01 : z = 0 ∨ z = 1) : Rs L xs (d) 207 116 ls (.int z :: .int j :: .ref t :: st) M x = Rs L xs (d) 207 117 ls st (qx_up M t j.toNatClampNeg z) x := by
  have h1 := qx_kd_row (k := 2) (by decide) hk
  exact Rs_unless (qx_ib_not hj) c207_116 (by unfold qx_act; dsimp only; rw [h1]; first | (rw [if_pos h01]; rfl) | (simp only [if_pos h01]; rfl) | rfl)
theorem c207_117 : qx_code 207 117 = some (117, .aload_n 0, 118, 0, 0, 0) := by decide +kernel
theorem s207_117 {L : Nat} {xs : Nat → Int32} {d x : Nat} {M : qxM} {st : List Value} {a1 a2 : Option Value} {z : Nat} : Rs L xs (d) 207 117 [some (.ref z), a1, a2] st M x = Rs L xs (d) 207 118 [some (.ref z), a1, a2] (.ref z :: st) M x := Rs_next c207_117 rfl
theorem c207_118 : qx_code 207 118 = some (118, .getfield 9, 121, 8, 1, 1546) := by decide +kernel
theorem s207_118 {L : Nat} {xs : Nat → Int32} {d x : Nat} {M : qxM} {st : List Value} {ls : qxL} {t : Nat} (hk : qx_kd t = 18) : Rs L xs (d) 207 118 ls (.ref t :: st) M x = Rs L xs (d) 207 121 ls (.ref (t + 1) :: st) M x := Rs_when (qx_kd_obj (k := 8) (by decide) hk) c207_118 rfl
theorem c207_121 : qx_code 207 121 = some (121, .iconst 0, 122, 0, 0, 0) := by decide +kernel
theorem s207_121 {L : Nat} {xs : Nat → Int32} {d x : Nat} {M : qxM} {st : List Value} {ls : qxL} : Rs L xs (d) 207 121 ls st M x = Rs L xs (d) 207 122 ls (.int (nI 0) :: st) M x := Rs_next c207_121 rfl
theorem c207_122 : qx_code 207 122 = some (122, .iaload, 123, 0, 0, 0) := by decide +kernel
theorem s207_122 {L : Nat} {xs : Nat → Int32} {d x : Nat} {M : qxM} {st : List Value} {ls : qxL} {t : Nat} {j : Int32} (hk : qx_kd t = 0) (hj : qx_ib j (qx_ln t) = true) : Rs L xs (d) 207 122 ls (.int j :: .ref t :: st) M x = Rs L xs (d) 207 123 ls (.int (M.1 t j.toNatClampNeg) :: st) M x := by
  have h1 := qx_kd_row (k := 0) (by decide) hk
  exact Rs_unless (qx_ib_not hj) c207_122 (by unfold qx_act; dsimp only; rw [h1]; rfl)
theorem c207_123 : qx_code 207 123 = some (123, .ireturn, 124, 0, 0, 0) := by decide +kernel
theorem s207_123 {L : Nat} {xs : Nat → Int32} {d x : Nat} {M : qxM} {ls : qxL} {z : Int32} : Rs L xs (d) 207 123 ls [.int z] M x = some (.inl (some (.int z)), M, x) := Rs_ret c207_123 rfl
