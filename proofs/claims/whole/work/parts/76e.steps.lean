/-! Steps. -/
theorem c335_0 : qx_code 335 0 = some (0, .aload_n 2, 1, 0, 0, 0) := by decide +kernel
theorem s335_0 {L : Nat} {xs : Nat → Int32} {d x : Nat} {M : qxM} {st : List Value} {a0 a1 a3 : Option Value} {z : Nat} : Rs L xs (d) 335 0 [a0, a1, some (.ref z), a3] st M x = Rs L xs (d) 335 1 [a0, a1, some (.ref z), a3] (.ref z :: st) M x := Rs_next c335_0 rfl
theorem c335_1 : qx_code 335 1 = some (1, .iconst 0, 2, 0, 0, 0) := by decide +kernel
theorem s335_1 {L : Nat} {xs : Nat → Int32} {d x : Nat} {M : qxM} {st : List Value} {ls : qxL} : Rs L xs (d) 335 1 ls st M x = Rs L xs (d) 335 2 ls (.int (nI 0) :: st) M x := Rs_next c335_1 rfl
theorem c335_2 : qx_code 335 2 = some (2, .aload_n 0, 3, 0, 0, 0) := by decide +kernel
theorem s335_2 {L : Nat} {xs : Nat → Int32} {d x : Nat} {M : qxM} {st : List Value} {a1 a2 a3 : Option Value} {z : Nat} : Rs L xs (d) 335 2 [some (.ref z), a1, a2, a3] st M x = Rs L xs (d) 335 3 [some (.ref z), a1, a2, a3] (.ref z :: st) M x := Rs_next c335_2 rfl
theorem c335_3 : qx_code 335 3 = some (3, .iload_n 1, 4, 0, 0, 0) := by decide +kernel
theorem s335_3 {L : Nat} {xs : Nat → Int32} {d x : Nat} {M : qxM} {st : List Value} {a0 a2 a3 : Option Value} {z : Int32} : Rs L xs (d) 335 3 [a0, some (.int z), a2, a3] st M x = Rs L xs (d) 335 4 [a0, some (.int z), a2, a3] (.int z :: st) M x := Rs_next c335_3 rfl
theorem c335_4 : qx_code 335 4 = some (4, .invokevirtual 7, 7, 93, 2, 448) := by decide +kernel
theorem s335_4 {L : Nat} {xs : Nat → Int32} {d x : Nat} {M : qxM} {st : List Value} {ls : qxL} {t : Nat} {z0 : Int32} (hk : qx_kd t = 17) (hs : st.length ≤ 4) : Rs L xs (d + 1) 335 4 ls (.int z0 :: .ref t :: st) M x = (Rs L xs d 93 0 [some (.ref t), some (.int z0)] [] M 0).bind (qx_kn L xs (d + 1) 335 4 7 93 ls st x) := by
  have h1 : qx_act L xs (qx_rt 335) (4, .invokevirtual 7, 7, 93, 2, 448) ls (.int z0 :: .ref t :: st) M = if 2 ≤ (.int z0 :: .ref t :: st).length ∧ st.length ≤ 4 then some (.inr (.inr (.inr (93, [.ref t, .int z0], st)))) else none := rfl
  rw [if_pos ⟨by simp [List.length_cons]; try omega, hs⟩] at h1
  have h2 := qx_kd_obj (k := 7) (by decide) hk
  exact Rs_call c335_4 h1 (by rw [show qx_args 93 [.ref t, .int z0] = decide (qx_sh t = some (.inl 7)) from rfl]; exact decide_eq_true h2)
theorem c335_7 : qx_code 335 7 = some (7, .i2l, 8, 0, 0, 0) := by decide +kernel
theorem s335_7 {L : Nat} {xs : Nat → Int32} {d x : Nat} {M : qxM} {st : List Value} {ls : qxL} {z : Int32} : Rs L xs (d) 335 7 ls (.int z :: st) M x = Rs L xs (d) 335 8 ls (.long z.toInt64 :: st) M x := Rs_next c335_7 rfl
theorem c335_8 : qx_code 335 8 = some (8, .lastore, 9, 0, 0, 0) := by decide +kernel
theorem s335_8 {L : Nat} {xs : Nat → Int32} {d x : Nat} {M : qxM} {st : List Value} {ls : qxL} {t : Nat} {j : Int32} {z : Int64} (hk : qx_kd t = 4) (hj : qx_ib j (qx_ln t) = true) : Rs L xs (d) 335 8 ls (.long z :: .int j :: .ref t :: st) M x = Rs L xs (d) 335 9 ls st ((M.1, vp_updL M.2.1 j.toNatClampNeg z, M.2.2)) x := by
  have h1 := qx_kd_row (k := 4) (by decide) hk
  exact Rs_unless (qx_ib_not hj) c335_8 (by unfold qx_act; dsimp only; rw [h1]; rfl)
theorem c335_9 : qx_code 335 9 = some (9, .goto 9, 12, 18, 0, 0) := by decide +kernel
theorem s335_9 {L : Nat} {xs : Nat → Int32} {d x : Nat} {M : qxM} {st : List Value} {ls : qxL} : Rs L xs (d) 335 9 ls st M x = Rs L xs (d) 335 18 ls st M x := Rs_next c335_9 rfl
theorem c335_12 : qx_code 335 12 = some (12, .astore_n 3, 13, 0, 0, 0) := by decide +kernel
theorem s335_12i {L : Nat} {xs : Nat → Int32} {d x : Nat} {M : qxM} {st : List Value} {a0 a1 a3 : Option Value} {z : Nat} {y : Int32} : Rs L xs (d) 335 12 [a0, a1, some (.int y), a3] (.ref z :: st) M x = Rs L xs (d) 335 13 [a0, a1, some (.int y), some (.ref z)] st M x := Rs_next c335_12 rfl
theorem s335_12r {L : Nat} {xs : Nat → Int32} {d x : Nat} {M : qxM} {st : List Value} {a0 a1 a3 : Option Value} {z : Nat} {y : Nat} : Rs L xs (d) 335 12 [a0, a1, some (.ref y), a3] (.ref z :: st) M x = Rs L xs (d) 335 13 [a0, a1, some (.ref y), some (.ref z)] st M x := Rs_next c335_12 rfl
theorem s335_12n {L : Nat} {xs : Nat → Int32} {d x : Nat} {M : qxM} {st : List Value} {a0 a1 a3 : Option Value} {z : Nat} : Rs L xs (d) 335 12 [a0, a1, none, a3] (.ref z :: st) M x = Rs L xs (d) 335 13 [a0, a1, none, some (.ref z)] st M x := Rs_next c335_12 rfl
theorem c335_13 : qx_code 335 13 = some (13, .iconst 1, 14, 0, 0, 0) := by decide +kernel
theorem s335_13 {L : Nat} {xs : Nat → Int32} {d x : Nat} {M : qxM} {st : List Value} {ls : qxL} : Rs L xs (d) 335 13 ls st M x = Rs L xs (d) 335 14 ls (.int (nI 1) :: st) M x := Rs_next c335_13 rfl
theorem c335_14 : qx_code 335 14 = some (14, .ireturn, 15, 0, 0, 0) := by decide +kernel
theorem s335_14 {L : Nat} {xs : Nat → Int32} {d x : Nat} {M : qxM} {ls : qxL} {z : Int32} : Rs L xs (d) 335 14 ls [.int z] M x = some (.inl (some (.int z)), M, x) := Rs_ret c335_14 rfl
theorem c335_15 : qx_code 335 15 = some (15, .astore_n 3, 16, 0, 0, 0) := by decide +kernel
theorem s335_15i {L : Nat} {xs : Nat → Int32} {d x : Nat} {M : qxM} {st : List Value} {a0 a1 a3 : Option Value} {z : Nat} {y : Int32} : Rs L xs (d) 335 15 [a0, a1, some (.int y), a3] (.ref z :: st) M x = Rs L xs (d) 335 16 [a0, a1, some (.int y), some (.ref z)] st M x := Rs_next c335_15 rfl
theorem s335_15r {L : Nat} {xs : Nat → Int32} {d x : Nat} {M : qxM} {st : List Value} {a0 a1 a3 : Option Value} {z : Nat} {y : Nat} : Rs L xs (d) 335 15 [a0, a1, some (.ref y), a3] (.ref z :: st) M x = Rs L xs (d) 335 16 [a0, a1, some (.ref y), some (.ref z)] st M x := Rs_next c335_15 rfl
theorem s335_15n {L : Nat} {xs : Nat → Int32} {d x : Nat} {M : qxM} {st : List Value} {a0 a1 a3 : Option Value} {z : Nat} : Rs L xs (d) 335 15 [a0, a1, none, a3] (.ref z :: st) M x = Rs L xs (d) 335 16 [a0, a1, none, some (.ref z)] st M x := Rs_next c335_15 rfl
theorem c335_16 : qx_code 335 16 = some (16, .iconst 2, 17, 0, 0, 0) := by decide +kernel
theorem s335_16 {L : Nat} {xs : Nat → Int32} {d x : Nat} {M : qxM} {st : List Value} {ls : qxL} : Rs L xs (d) 335 16 ls st M x = Rs L xs (d) 335 17 ls (.int (nI 2) :: st) M x := Rs_next c335_16 rfl
theorem c335_17 : qx_code 335 17 = some (17, .ireturn, 18, 0, 0, 0) := by decide +kernel
theorem s335_17 {L : Nat} {xs : Nat → Int32} {d x : Nat} {M : qxM} {ls : qxL} {z : Int32} : Rs L xs (d) 335 17 ls [.int z] M x = some (.inl (some (.int z)), M, x) := Rs_ret c335_17 rfl
theorem c335_18 : qx_code 335 18 = some (18, .iconst 0, 19, 0, 0, 0) := by decide +kernel
theorem s335_18 {L : Nat} {xs : Nat → Int32} {d x : Nat} {M : qxM} {st : List Value} {ls : qxL} : Rs L xs (d) 335 18 ls st M x = Rs L xs (d) 335 19 ls (.int (nI 0) :: st) M x := Rs_next c335_18 rfl
theorem c335_19 : qx_code 335 19 = some (19, .ireturn, 20, 0, 0, 0) := by decide +kernel
theorem s335_19 {L : Nat} {xs : Nat → Int32} {d x : Nat} {M : qxM} {ls : qxL} {z : Int32} : Rs L xs (d) 335 19 ls [.int z] M x = some (.inl (some (.int z)), M, x) := Rs_ret c335_19 rfl
theorem c336_0 : qx_code 336 0 = some (0, .aload_n 2, 1, 0, 0, 0) := by decide +kernel
theorem s336_0 {L : Nat} {xs : Nat → Int32} {d x : Nat} {M : qxM} {st : List Value} {a0 a1 a3 : Option Value} {z : Nat} : Rs L xs (d) 336 0 [a0, a1, some (.ref z), a3] st M x = Rs L xs (d) 336 1 [a0, a1, some (.ref z), a3] (.ref z :: st) M x := Rs_next c336_0 rfl
theorem c336_1 : qx_code 336 1 = some (1, .iconst 0, 2, 0, 0, 0) := by decide +kernel
theorem s336_1 {L : Nat} {xs : Nat → Int32} {d x : Nat} {M : qxM} {st : List Value} {ls : qxL} : Rs L xs (d) 336 1 ls st M x = Rs L xs (d) 336 2 ls (.int (nI 0) :: st) M x := Rs_next c336_1 rfl
theorem c336_2 : qx_code 336 2 = some (2, .aload_n 0, 3, 0, 0, 0) := by decide +kernel
theorem s336_2 {L : Nat} {xs : Nat → Int32} {d x : Nat} {M : qxM} {st : List Value} {a1 a2 a3 : Option Value} {z : Nat} : Rs L xs (d) 336 2 [some (.ref z), a1, a2, a3] st M x = Rs L xs (d) 336 3 [some (.ref z), a1, a2, a3] (.ref z :: st) M x := Rs_next c336_2 rfl
theorem c336_3 : qx_code 336 3 = some (3, .iload_n 1, 4, 0, 0, 0) := by decide +kernel
theorem s336_3 {L : Nat} {xs : Nat → Int32} {d x : Nat} {M : qxM} {st : List Value} {a0 a2 a3 : Option Value} {z : Int32} : Rs L xs (d) 336 3 [a0, some (.int z), a2, a3] st M x = Rs L xs (d) 336 4 [a0, some (.int z), a2, a3] (.int z :: st) M x := Rs_next c336_3 rfl
theorem c336_4 : qx_code 336 4 = some (4, .invokevirtual 17, 7, 97, 2, 724) := by decide +kernel
theorem s336_4 {L : Nat} {xs : Nat → Int32} {d x : Nat} {M : qxM} {st : List Value} {ls : qxL} {t : Nat} {z0 : Int32} (hk : qx_kd t = 17) (hs : st.length ≤ 4) : Rs L xs (d + 1) 336 4 ls (.int z0 :: .ref t :: st) M x = (Rs L xs d 97 0 [some (.ref t), some (.int z0), none] [] M 0).bind (qx_kn L xs (d + 1) 336 4 7 97 ls st x) := by
  have h1 : qx_act L xs (qx_rt 336) (4, .invokevirtual 17, 7, 97, 2, 724) ls (.int z0 :: .ref t :: st) M = if 2 ≤ (.int z0 :: .ref t :: st).length ∧ st.length ≤ 4 then some (.inr (.inr (.inr (97, [.ref t, .int z0], st)))) else none := rfl
  rw [if_pos ⟨by simp [List.length_cons]; try omega, hs⟩] at h1
  have h2 := qx_kd_obj (k := 7) (by decide) hk
  exact Rs_call c336_4 h1 (by rw [show qx_args 97 [.ref t, .int z0] = decide (qx_sh t = some (.inl 7)) from rfl]; exact decide_eq_true h2)
theorem c336_7 : qx_code 336 7 = some (7, .i2l, 8, 0, 0, 0) := by decide +kernel
theorem s336_7 {L : Nat} {xs : Nat → Int32} {d x : Nat} {M : qxM} {st : List Value} {ls : qxL} {z : Int32} : Rs L xs (d) 336 7 ls (.int z :: st) M x = Rs L xs (d) 336 8 ls (.long z.toInt64 :: st) M x := Rs_next c336_7 rfl
theorem c336_8 : qx_code 336 8 = some (8, .lastore, 9, 0, 0, 0) := by decide +kernel
theorem s336_8 {L : Nat} {xs : Nat → Int32} {d x : Nat} {M : qxM} {st : List Value} {ls : qxL} {t : Nat} {j : Int32} {z : Int64} (hk : qx_kd t = 4) (hj : qx_ib j (qx_ln t) = true) : Rs L xs (d) 336 8 ls (.long z :: .int j :: .ref t :: st) M x = Rs L xs (d) 336 9 ls st ((M.1, vp_updL M.2.1 j.toNatClampNeg z, M.2.2)) x := by
  have h1 := qx_kd_row (k := 4) (by decide) hk
  exact Rs_unless (qx_ib_not hj) c336_8 (by unfold qx_act; dsimp only; rw [h1]; rfl)
theorem c336_9 : qx_code 336 9 = some (9, .goto 9, 12, 18, 0, 0) := by decide +kernel
theorem s336_9 {L : Nat} {xs : Nat → Int32} {d x : Nat} {M : qxM} {st : List Value} {ls : qxL} : Rs L xs (d) 336 9 ls st M x = Rs L xs (d) 336 18 ls st M x := Rs_next c336_9 rfl
theorem c336_12 : qx_code 336 12 = some (12, .astore_n 3, 13, 0, 0, 0) := by decide +kernel
theorem s336_12i {L : Nat} {xs : Nat → Int32} {d x : Nat} {M : qxM} {st : List Value} {a0 a1 a3 : Option Value} {z : Nat} {y : Int32} : Rs L xs (d) 336 12 [a0, a1, some (.int y), a3] (.ref z :: st) M x = Rs L xs (d) 336 13 [a0, a1, some (.int y), some (.ref z)] st M x := Rs_next c336_12 rfl
theorem s336_12r {L : Nat} {xs : Nat → Int32} {d x : Nat} {M : qxM} {st : List Value} {a0 a1 a3 : Option Value} {z : Nat} {y : Nat} : Rs L xs (d) 336 12 [a0, a1, some (.ref y), a3] (.ref z :: st) M x = Rs L xs (d) 336 13 [a0, a1, some (.ref y), some (.ref z)] st M x := Rs_next c336_12 rfl
theorem s336_12n {L : Nat} {xs : Nat → Int32} {d x : Nat} {M : qxM} {st : List Value} {a0 a1 a3 : Option Value} {z : Nat} : Rs L xs (d) 336 12 [a0, a1, none, a3] (.ref z :: st) M x = Rs L xs (d) 336 13 [a0, a1, none, some (.ref z)] st M x := Rs_next c336_12 rfl
theorem c336_13 : qx_code 336 13 = some (13, .iconst 1, 14, 0, 0, 0) := by decide +kernel
theorem s336_13 {L : Nat} {xs : Nat → Int32} {d x : Nat} {M : qxM} {st : List Value} {ls : qxL} : Rs L xs (d) 336 13 ls st M x = Rs L xs (d) 336 14 ls (.int (nI 1) :: st) M x := Rs_next c336_13 rfl
theorem c336_14 : qx_code 336 14 = some (14, .ireturn, 15, 0, 0, 0) := by decide +kernel
theorem s336_14 {L : Nat} {xs : Nat → Int32} {d x : Nat} {M : qxM} {ls : qxL} {z : Int32} : Rs L xs (d) 336 14 ls [.int z] M x = some (.inl (some (.int z)), M, x) := Rs_ret c336_14 rfl
theorem c336_15 : qx_code 336 15 = some (15, .astore_n 3, 16, 0, 0, 0) := by decide +kernel
theorem s336_15i {L : Nat} {xs : Nat → Int32} {d x : Nat} {M : qxM} {st : List Value} {a0 a1 a3 : Option Value} {z : Nat} {y : Int32} : Rs L xs (d) 336 15 [a0, a1, some (.int y), a3] (.ref z :: st) M x = Rs L xs (d) 336 16 [a0, a1, some (.int y), some (.ref z)] st M x := Rs_next c336_15 rfl
theorem s336_15r {L : Nat} {xs : Nat → Int32} {d x : Nat} {M : qxM} {st : List Value} {a0 a1 a3 : Option Value} {z : Nat} {y : Nat} : Rs L xs (d) 336 15 [a0, a1, some (.ref y), a3] (.ref z :: st) M x = Rs L xs (d) 336 16 [a0, a1, some (.ref y), some (.ref z)] st M x := Rs_next c336_15 rfl
theorem s336_15n {L : Nat} {xs : Nat → Int32} {d x : Nat} {M : qxM} {st : List Value} {a0 a1 a3 : Option Value} {z : Nat} : Rs L xs (d) 336 15 [a0, a1, none, a3] (.ref z :: st) M x = Rs L xs (d) 336 16 [a0, a1, none, some (.ref z)] st M x := Rs_next c336_15 rfl
theorem c336_16 : qx_code 336 16 = some (16, .iconst 2, 17, 0, 0, 0) := by decide +kernel
theorem s336_16 {L : Nat} {xs : Nat → Int32} {d x : Nat} {M : qxM} {st : List Value} {ls : qxL} : Rs L xs (d) 336 16 ls st M x = Rs L xs (d) 336 17 ls (.int (nI 2) :: st) M x := Rs_next c336_16 rfl
theorem c336_17 : qx_code 336 17 = some (17, .ireturn, 18, 0, 0, 0) := by decide +kernel
theorem s336_17 {L : Nat} {xs : Nat → Int32} {d x : Nat} {M : qxM} {ls : qxL} {z : Int32} : Rs L xs (d) 336 17 ls [.int z] M x = some (.inl (some (.int z)), M, x) := Rs_ret c336_17 rfl
theorem c336_18 : qx_code 336 18 = some (18, .iconst 0, 19, 0, 0, 0) := by decide +kernel
theorem s336_18 {L : Nat} {xs : Nat → Int32} {d x : Nat} {M : qxM} {st : List Value} {ls : qxL} : Rs L xs (d) 336 18 ls st M x = Rs L xs (d) 336 19 ls (.int (nI 0) :: st) M x := Rs_next c336_18 rfl
theorem c336_19 : qx_code 336 19 = some (19, .ireturn, 20, 0, 0, 0) := by decide +kernel
theorem s336_19 {L : Nat} {xs : Nat → Int32} {d x : Nat} {M : qxM} {ls : qxL} {z : Int32} : Rs L xs (d) 336 19 ls [.int z] M x = some (.inl (some (.int z)), M, x) := Rs_ret c336_19 rfl
theorem c337_0 : qx_code 337 0 = some (0, .aload_n 3, 1, 0, 0, 0) := by decide +kernel
theorem s337_0 {L : Nat} {xs : Nat → Int32} {d x : Nat} {M : qxM} {st : List Value} {a0 a1 a2 a4 : Option Value} {z : Nat} : Rs L xs (d) 337 0 [a0, a1, a2, some (.ref z), a4] st M x = Rs L xs (d) 337 1 [a0, a1, a2, some (.ref z), a4] (.ref z :: st) M x := Rs_next c337_0 rfl
theorem c337_1 : qx_code 337 1 = some (1, .iconst 0, 2, 0, 0, 0) := by decide +kernel
theorem s337_1 {L : Nat} {xs : Nat → Int32} {d x : Nat} {M : qxM} {st : List Value} {ls : qxL} : Rs L xs (d) 337 1 ls st M x = Rs L xs (d) 337 2 ls (.int (nI 0) :: st) M x := Rs_next c337_1 rfl
theorem c337_2 : qx_code 337 2 = some (2, .aload_n 0, 3, 0, 0, 0) := by decide +kernel
theorem s337_2 {L : Nat} {xs : Nat → Int32} {d x : Nat} {M : qxM} {st : List Value} {a1 a2 a3 a4 : Option Value} {z : Nat} : Rs L xs (d) 337 2 [some (.ref z), a1, a2, a3, a4] st M x = Rs L xs (d) 337 3 [some (.ref z), a1, a2, a3, a4] (.ref z :: st) M x := Rs_next c337_2 rfl
theorem c337_3 : qx_code 337 3 = some (3, .iload_n 1, 4, 0, 0, 0) := by decide +kernel
theorem s337_3 {L : Nat} {xs : Nat → Int32} {d x : Nat} {M : qxM} {st : List Value} {a0 a2 a3 a4 : Option Value} {z : Int32} : Rs L xs (d) 337 3 [a0, some (.int z), a2, a3, a4] st M x = Rs L xs (d) 337 4 [a0, some (.int z), a2, a3, a4] (.int z :: st) M x := Rs_next c337_3 rfl
theorem c337_4 : qx_code 337 4 = some (4, .iload_n 2, 5, 0, 0, 0) := by decide +kernel
theorem s337_4 {L : Nat} {xs : Nat → Int32} {d x : Nat} {M : qxM} {st : List Value} {a0 a1 a3 a4 : Option Value} {z : Int32} : Rs L xs (d) 337 4 [a0, a1, some (.int z), a3, a4] st M x = Rs L xs (d) 337 5 [a0, a1, some (.int z), a3, a4] (.int z :: st) M x := Rs_next c337_4 rfl
theorem c337_5 : qx_code 337 5 = some (5, .invokevirtual 22, 8, 98, 3, 776) := by decide +kernel
theorem s337_5 {L : Nat} {xs : Nat → Int32} {d x : Nat} {M : qxM} {st : List Value} {ls : qxL} {t : Nat} {z0 : Int32} {z1 : Int32} (hk : qx_kd t = 17) (hs : st.length ≤ 4) : Rs L xs (d + 1) 337 5 ls (.int z1 :: .int z0 :: .ref t :: st) M x = (Rs L xs d 98 0 [some (.ref t), some (.int z0), some (.int z1), none] [] M 0).bind (qx_kn L xs (d + 1) 337 5 8 98 ls st x) := by
  have h1 : qx_act L xs (qx_rt 337) (5, .invokevirtual 22, 8, 98, 3, 776) ls (.int z1 :: .int z0 :: .ref t :: st) M = if 3 ≤ (.int z1 :: .int z0 :: .ref t :: st).length ∧ st.length ≤ 4 then some (.inr (.inr (.inr (98, [.ref t, .int z0, .int z1], st)))) else none := rfl
  rw [if_pos ⟨by simp [List.length_cons]; try omega, hs⟩] at h1
  have h2 := qx_kd_obj (k := 7) (by decide) hk
  exact Rs_call c337_5 h1 (by rw [show qx_args 98 [.ref t, .int z0, .int z1] = decide (qx_sh t = some (.inl 7)) from rfl]; exact decide_eq_true h2)
theorem c337_8 : qx_code 337 8 = some (8, .i2l, 9, 0, 0, 0) := by decide +kernel
theorem s337_8 {L : Nat} {xs : Nat → Int32} {d x : Nat} {M : qxM} {st : List Value} {ls : qxL} {z : Int32} : Rs L xs (d) 337 8 ls (.int z :: st) M x = Rs L xs (d) 337 9 ls (.long z.toInt64 :: st) M x := Rs_next c337_8 rfl
theorem c337_9 : qx_code 337 9 = some (9, .lastore, 10, 0, 0, 0) := by decide +kernel
theorem s337_9 {L : Nat} {xs : Nat → Int32} {d x : Nat} {M : qxM} {st : List Value} {ls : qxL} {t : Nat} {j : Int32} {z : Int64} (hk : qx_kd t = 4) (hj : qx_ib j (qx_ln t) = true) : Rs L xs (d) 337 9 ls (.long z :: .int j :: .ref t :: st) M x = Rs L xs (d) 337 10 ls st ((M.1, vp_updL M.2.1 j.toNatClampNeg z, M.2.2)) x := by
  have h1 := qx_kd_row (k := 4) (by decide) hk
  exact Rs_unless (qx_ib_not hj) c337_9 (by unfold qx_act; dsimp only; rw [h1]; rfl)
theorem c337_10 : qx_code 337 10 = some (10, .goto 15, 13, 25, 0, 0) := by decide +kernel
theorem s337_10 {L : Nat} {xs : Nat → Int32} {d x : Nat} {M : qxM} {st : List Value} {ls : qxL} : Rs L xs (d) 337 10 ls st M x = Rs L xs (d) 337 25 ls st M x := Rs_next c337_10 rfl
theorem c337_13 : qx_code 337 13 = some (13, .astore 4, 15, 0, 0, 0) := by decide +kernel
theorem s337_13i {L : Nat} {xs : Nat → Int32} {d x : Nat} {M : qxM} {st : List Value} {a0 a1 a2 a4 : Option Value} {z : Nat} {y : Int32} : Rs L xs (d) 337 13 [a0, a1, a2, some (.int y), a4] (.ref z :: st) M x = Rs L xs (d) 337 15 [a0, a1, a2, some (.int y), some (.ref z)] st M x := Rs_next c337_13 rfl
theorem s337_13r {L : Nat} {xs : Nat → Int32} {d x : Nat} {M : qxM} {st : List Value} {a0 a1 a2 a4 : Option Value} {z : Nat} {y : Nat} : Rs L xs (d) 337 13 [a0, a1, a2, some (.ref y), a4] (.ref z :: st) M x = Rs L xs (d) 337 15 [a0, a1, a2, some (.ref y), some (.ref z)] st M x := Rs_next c337_13 rfl
theorem s337_13n {L : Nat} {xs : Nat → Int32} {d x : Nat} {M : qxM} {st : List Value} {a0 a1 a2 a4 : Option Value} {z : Nat} : Rs L xs (d) 337 13 [a0, a1, a2, none, a4] (.ref z :: st) M x = Rs L xs (d) 337 15 [a0, a1, a2, none, some (.ref z)] st M x := Rs_next c337_13 rfl
theorem c337_15 : qx_code 337 15 = some (15, .iconst 1, 16, 0, 0, 0) := by decide +kernel
theorem s337_15 {L : Nat} {xs : Nat → Int32} {d x : Nat} {M : qxM} {st : List Value} {ls : qxL} : Rs L xs (d) 337 15 ls st M x = Rs L xs (d) 337 16 ls (.int (nI 1) :: st) M x := Rs_next c337_15 rfl
theorem c337_16 : qx_code 337 16 = some (16, .ireturn, 17, 0, 0, 0) := by decide +kernel
theorem s337_16 {L : Nat} {xs : Nat → Int32} {d x : Nat} {M : qxM} {ls : qxL} {z : Int32} : Rs L xs (d) 337 16 ls [.int z] M x = some (.inl (some (.int z)), M, x) := Rs_ret c337_16 rfl
theorem c337_17 : qx_code 337 17 = some (17, .astore 4, 19, 0, 0, 0) := by decide +kernel
theorem s337_17i {L : Nat} {xs : Nat → Int32} {d x : Nat} {M : qxM} {st : List Value} {a0 a1 a2 a4 : Option Value} {z : Nat} {y : Int32} : Rs L xs (d) 337 17 [a0, a1, a2, some (.int y), a4] (.ref z :: st) M x = Rs L xs (d) 337 19 [a0, a1, a2, some (.int y), some (.ref z)] st M x := Rs_next c337_17 rfl
theorem s337_17r {L : Nat} {xs : Nat → Int32} {d x : Nat} {M : qxM} {st : List Value} {a0 a1 a2 a4 : Option Value} {z : Nat} {y : Nat} : Rs L xs (d) 337 17 [a0, a1, a2, some (.ref y), a4] (.ref z :: st) M x = Rs L xs (d) 337 19 [a0, a1, a2, some (.ref y), some (.ref z)] st M x := Rs_next c337_17 rfl
theorem s337_17n {L : Nat} {xs : Nat → Int32} {d x : Nat} {M : qxM} {st : List Value} {a0 a1 a2 a4 : Option Value} {z : Nat} : Rs L xs (d) 337 17 [a0, a1, a2, none, a4] (.ref z :: st) M x = Rs L xs (d) 337 19 [a0, a1, a2, none, some (.ref z)] st M x := Rs_next c337_17 rfl
theorem c337_19 : qx_code 337 19 = some (19, .iconst 2, 20, 0, 0, 0) := by decide +kernel
theorem s337_19 {L : Nat} {xs : Nat → Int32} {d x : Nat} {M : qxM} {st : List Value} {ls : qxL} : Rs L xs (d) 337 19 ls st M x = Rs L xs (d) 337 20 ls (.int (nI 2) :: st) M x := Rs_next c337_19 rfl
theorem c337_20 : qx_code 337 20 = some (20, .ireturn, 21, 0, 0, 0) := by decide +kernel
theorem s337_20 {L : Nat} {xs : Nat → Int32} {d x : Nat} {M : qxM} {ls : qxL} {z : Int32} : Rs L xs (d) 337 20 ls [.int z] M x = some (.inl (some (.int z)), M, x) := Rs_ret c337_20 rfl
theorem c337_21 : qx_code 337 21 = some (21, .astore 4, 23, 0, 0, 0) := by decide +kernel
theorem s337_21i {L : Nat} {xs : Nat → Int32} {d x : Nat} {M : qxM} {st : List Value} {a0 a1 a2 a4 : Option Value} {z : Nat} {y : Int32} : Rs L xs (d) 337 21 [a0, a1, a2, some (.int y), a4] (.ref z :: st) M x = Rs L xs (d) 337 23 [a0, a1, a2, some (.int y), some (.ref z)] st M x := Rs_next c337_21 rfl
theorem s337_21r {L : Nat} {xs : Nat → Int32} {d x : Nat} {M : qxM} {st : List Value} {a0 a1 a2 a4 : Option Value} {z : Nat} {y : Nat} : Rs L xs (d) 337 21 [a0, a1, a2, some (.ref y), a4] (.ref z :: st) M x = Rs L xs (d) 337 23 [a0, a1, a2, some (.ref y), some (.ref z)] st M x := Rs_next c337_21 rfl
theorem s337_21n {L : Nat} {xs : Nat → Int32} {d x : Nat} {M : qxM} {st : List Value} {a0 a1 a2 a4 : Option Value} {z : Nat} : Rs L xs (d) 337 21 [a0, a1, a2, none, a4] (.ref z :: st) M x = Rs L xs (d) 337 23 [a0, a1, a2, none, some (.ref z)] st M x := Rs_next c337_21 rfl
theorem c337_23 : qx_code 337 23 = some (23, .iconst 3, 24, 0, 0, 0) := by decide +kernel
theorem s337_23 {L : Nat} {xs : Nat → Int32} {d x : Nat} {M : qxM} {st : List Value} {ls : qxL} : Rs L xs (d) 337 23 ls st M x = Rs L xs (d) 337 24 ls (.int (nI 3) :: st) M x := Rs_next c337_23 rfl
theorem c337_24 : qx_code 337 24 = some (24, .ireturn, 25, 0, 0, 0) := by decide +kernel
theorem s337_24 {L : Nat} {xs : Nat → Int32} {d x : Nat} {M : qxM} {ls : qxL} {z : Int32} : Rs L xs (d) 337 24 ls [.int z] M x = some (.inl (some (.int z)), M, x) := Rs_ret c337_24 rfl
theorem c337_25 : qx_code 337 25 = some (25, .iconst 0, 26, 0, 0, 0) := by decide +kernel
theorem s337_25 {L : Nat} {xs : Nat → Int32} {d x : Nat} {M : qxM} {st : List Value} {ls : qxL} : Rs L xs (d) 337 25 ls st M x = Rs L xs (d) 337 26 ls (.int (nI 0) :: st) M x := Rs_next c337_25 rfl
theorem c337_26 : qx_code 337 26 = some (26, .ireturn, 27, 0, 0, 0) := by decide +kernel
theorem s337_26 {L : Nat} {xs : Nat → Int32} {d x : Nat} {M : qxM} {ls : qxL} {z : Int32} : Rs L xs (d) 337 26 ls [.int z] M x = some (.inl (some (.int z)), M, x) := Rs_ret c337_26 rfl
theorem c338_0 : qx_code 338 0 = some (0, .aload_n 3, 1, 0, 0, 0) := by decide +kernel
theorem s338_0 {L : Nat} {xs : Nat → Int32} {d x : Nat} {M : qxM} {st : List Value} {a0 a1 a2 a4 : Option Value} {z : Nat} : Rs L xs (d) 338 0 [a0, a1, a2, some (.ref z), a4] st M x = Rs L xs (d) 338 1 [a0, a1, a2, some (.ref z), a4] (.ref z :: st) M x := Rs_next c338_0 rfl
theorem c338_1 : qx_code 338 1 = some (1, .iconst 0, 2, 0, 0, 0) := by decide +kernel
theorem s338_1 {L : Nat} {xs : Nat → Int32} {d x : Nat} {M : qxM} {st : List Value} {ls : qxL} : Rs L xs (d) 338 1 ls st M x = Rs L xs (d) 338 2 ls (.int (nI 0) :: st) M x := Rs_next c338_1 rfl
theorem c338_2 : qx_code 338 2 = some (2, .aload_n 0, 3, 0, 0, 0) := by decide +kernel
theorem s338_2 {L : Nat} {xs : Nat → Int32} {d x : Nat} {M : qxM} {st : List Value} {a1 a2 a3 a4 : Option Value} {z : Nat} : Rs L xs (d) 338 2 [some (.ref z), a1, a2, a3, a4] st M x = Rs L xs (d) 338 3 [some (.ref z), a1, a2, a3, a4] (.ref z :: st) M x := Rs_next c338_2 rfl
theorem c338_3 : qx_code 338 3 = some (3, .iload_n 1, 4, 0, 0, 0) := by decide +kernel
theorem s338_3 {L : Nat} {xs : Nat → Int32} {d x : Nat} {M : qxM} {st : List Value} {a0 a2 a3 a4 : Option Value} {z : Int32} : Rs L xs (d) 338 3 [a0, some (.int z), a2, a3, a4] st M x = Rs L xs (d) 338 4 [a0, some (.int z), a2, a3, a4] (.int z :: st) M x := Rs_next c338_3 rfl
theorem c338_4 : qx_code 338 4 = some (4, .iload_n 2, 5, 0, 0, 0) := by decide +kernel
theorem s338_4 {L : Nat} {xs : Nat → Int32} {d x : Nat} {M : qxM} {st : List Value} {a0 a1 a3 a4 : Option Value} {z : Int32} : Rs L xs (d) 338 4 [a0, a1, some (.int z), a3, a4] st M x = Rs L xs (d) 338 5 [a0, a1, some (.int z), a3, a4] (.int z :: st) M x := Rs_next c338_4 rfl
theorem c338_5 : qx_code 338 5 = some (5, .invokevirtual 26, 8, 99, 3, 795) := by decide +kernel
theorem s338_5 {L : Nat} {xs : Nat → Int32} {d x : Nat} {M : qxM} {st : List Value} {ls : qxL} {t : Nat} {z0 : Int32} {z1 : Int32} (hk : qx_kd t = 17) (hs : st.length ≤ 4) : Rs L xs (d + 1) 338 5 ls (.int z1 :: .int z0 :: .ref t :: st) M x = (Rs L xs d 99 0 [some (.ref t), some (.int z0), some (.int z1)] [] M 0).bind (qx_kn L xs (d + 1) 338 5 8 99 ls st x) := by
  have h1 : qx_act L xs (qx_rt 338) (5, .invokevirtual 26, 8, 99, 3, 795) ls (.int z1 :: .int z0 :: .ref t :: st) M = if 3 ≤ (.int z1 :: .int z0 :: .ref t :: st).length ∧ st.length ≤ 4 then some (.inr (.inr (.inr (99, [.ref t, .int z0, .int z1], st)))) else none := rfl
  rw [if_pos ⟨by simp [List.length_cons]; try omega, hs⟩] at h1
  have h2 := qx_kd_obj (k := 7) (by decide) hk
  exact Rs_call c338_5 h1 (by rw [show qx_args 99 [.ref t, .int z0, .int z1] = decide (qx_sh t = some (.inl 7)) from rfl]; exact decide_eq_true h2)
theorem c338_8 : qx_code 338 8 = some (8, .ifCond .eq 7, 11, 15, 0, 0) := by decide +kernel
theorem s338_8 {L : Nat} {xs : Nat → Int32} {d x : Nat} {M : qxM} {st : List Value} {ls : qxL} {z : Int32} : Rs L xs (d) 338 8 ls (.int z :: st) M x = if z = 0 then Rs L xs (d) 338 15 ls st M x else Rs L xs (d) 338 11 ls st M x := Rs_ite c338_8 rfl
theorem c338_11 : qx_code 338 11 = some (11, .lconst 1, 12, 0, 0, 0) := by decide +kernel
theorem s338_11 {L : Nat} {xs : Nat → Int32} {d x : Nat} {M : qxM} {st : List Value} {ls : qxL} : Rs L xs (d) 338 11 ls st M x = Rs L xs (d) 338 12 ls (.long (Int64.ofNat 1) :: st) M x := Rs_next c338_11 rfl
theorem c338_12 : qx_code 338 12 = some (12, .goto 4, 15, 16, 0, 0) := by decide +kernel
theorem s338_12 {L : Nat} {xs : Nat → Int32} {d x : Nat} {M : qxM} {st : List Value} {ls : qxL} : Rs L xs (d) 338 12 ls st M x = Rs L xs (d) 338 16 ls st M x := Rs_next c338_12 rfl
theorem c338_15 : qx_code 338 15 = some (15, .lconst 0, 16, 0, 0, 0) := by decide +kernel
theorem s338_15 {L : Nat} {xs : Nat → Int32} {d x : Nat} {M : qxM} {st : List Value} {ls : qxL} : Rs L xs (d) 338 15 ls st M x = Rs L xs (d) 338 16 ls (.long (Int64.ofNat 0) :: st) M x := Rs_next c338_15 rfl
theorem c338_16 : qx_code 338 16 = some (16, .lastore, 17, 0, 0, 0) := by decide +kernel
theorem s338_16 {L : Nat} {xs : Nat → Int32} {d x : Nat} {M : qxM} {st : List Value} {ls : qxL} {t : Nat} {j : Int32} {z : Int64} (hk : qx_kd t = 4) (hj : qx_ib j (qx_ln t) = true) : Rs L xs (d) 338 16 ls (.long z :: .int j :: .ref t :: st) M x = Rs L xs (d) 338 17 ls st ((M.1, vp_updL M.2.1 j.toNatClampNeg z, M.2.2)) x := by
  have h1 := qx_kd_row (k := 4) (by decide) hk
  exact Rs_unless (qx_ib_not hj) c338_16 (by unfold qx_act; dsimp only; rw [h1]; rfl)
theorem c338_17 : qx_code 338 17 = some (17, .goto 11, 20, 28, 0, 0) := by decide +kernel
theorem s338_17 {L : Nat} {xs : Nat → Int32} {d x : Nat} {M : qxM} {st : List Value} {ls : qxL} : Rs L xs (d) 338 17 ls st M x = Rs L xs (d) 338 28 ls st M x := Rs_next c338_17 rfl
theorem c338_20 : qx_code 338 20 = some (20, .astore 4, 22, 0, 0, 0) := by decide +kernel
theorem s338_20i {L : Nat} {xs : Nat → Int32} {d x : Nat} {M : qxM} {st : List Value} {a0 a1 a2 a4 : Option Value} {z : Nat} {y : Int32} : Rs L xs (d) 338 20 [a0, a1, a2, some (.int y), a4] (.ref z :: st) M x = Rs L xs (d) 338 22 [a0, a1, a2, some (.int y), some (.ref z)] st M x := Rs_next c338_20 rfl
theorem s338_20r {L : Nat} {xs : Nat → Int32} {d x : Nat} {M : qxM} {st : List Value} {a0 a1 a2 a4 : Option Value} {z : Nat} {y : Nat} : Rs L xs (d) 338 20 [a0, a1, a2, some (.ref y), a4] (.ref z :: st) M x = Rs L xs (d) 338 22 [a0, a1, a2, some (.ref y), some (.ref z)] st M x := Rs_next c338_20 rfl
theorem s338_20n {L : Nat} {xs : Nat → Int32} {d x : Nat} {M : qxM} {st : List Value} {a0 a1 a2 a4 : Option Value} {z : Nat} : Rs L xs (d) 338 20 [a0, a1, a2, none, a4] (.ref z :: st) M x = Rs L xs (d) 338 22 [a0, a1, a2, none, some (.ref z)] st M x := Rs_next c338_20 rfl
theorem c338_22 : qx_code 338 22 = some (22, .iconst 1, 23, 0, 0, 0) := by decide +kernel
theorem s338_22 {L : Nat} {xs : Nat → Int32} {d x : Nat} {M : qxM} {st : List Value} {ls : qxL} : Rs L xs (d) 338 22 ls st M x = Rs L xs (d) 338 23 ls (.int (nI 1) :: st) M x := Rs_next c338_22 rfl
theorem c338_23 : qx_code 338 23 = some (23, .ireturn, 24, 0, 0, 0) := by decide +kernel
theorem s338_23 {L : Nat} {xs : Nat → Int32} {d x : Nat} {M : qxM} {ls : qxL} {z : Int32} : Rs L xs (d) 338 23 ls [.int z] M x = some (.inl (some (.int z)), M, x) := Rs_ret c338_23 rfl
theorem c338_24 : qx_code 338 24 = some (24, .astore 4, 26, 0, 0, 0) := by decide +kernel
theorem s338_24i {L : Nat} {xs : Nat → Int32} {d x : Nat} {M : qxM} {st : List Value} {a0 a1 a2 a4 : Option Value} {z : Nat} {y : Int32} : Rs L xs (d) 338 24 [a0, a1, a2, some (.int y), a4] (.ref z :: st) M x = Rs L xs (d) 338 26 [a0, a1, a2, some (.int y), some (.ref z)] st M x := Rs_next c338_24 rfl
theorem s338_24r {L : Nat} {xs : Nat → Int32} {d x : Nat} {M : qxM} {st : List Value} {a0 a1 a2 a4 : Option Value} {z : Nat} {y : Nat} : Rs L xs (d) 338 24 [a0, a1, a2, some (.ref y), a4] (.ref z :: st) M x = Rs L xs (d) 338 26 [a0, a1, a2, some (.ref y), some (.ref z)] st M x := Rs_next c338_24 rfl
theorem s338_24n {L : Nat} {xs : Nat → Int32} {d x : Nat} {M : qxM} {st : List Value} {a0 a1 a2 a4 : Option Value} {z : Nat} : Rs L xs (d) 338 24 [a0, a1, a2, none, a4] (.ref z :: st) M x = Rs L xs (d) 338 26 [a0, a1, a2, none, some (.ref z)] st M x := Rs_next c338_24 rfl
theorem c338_26 : qx_code 338 26 = some (26, .iconst 2, 27, 0, 0, 0) := by decide +kernel
theorem s338_26 {L : Nat} {xs : Nat → Int32} {d x : Nat} {M : qxM} {st : List Value} {ls : qxL} : Rs L xs (d) 338 26 ls st M x = Rs L xs (d) 338 27 ls (.int (nI 2) :: st) M x := Rs_next c338_26 rfl
theorem c338_27 : qx_code 338 27 = some (27, .ireturn, 28, 0, 0, 0) := by decide +kernel
theorem s338_27 {L : Nat} {xs : Nat → Int32} {d x : Nat} {M : qxM} {ls : qxL} {z : Int32} : Rs L xs (d) 338 27 ls [.int z] M x = some (.inl (some (.int z)), M, x) := Rs_ret c338_27 rfl
theorem c338_28 : qx_code 338 28 = some (28, .iconst 0, 29, 0, 0, 0) := by decide +kernel
theorem s338_28 {L : Nat} {xs : Nat → Int32} {d x : Nat} {M : qxM} {st : List Value} {ls : qxL} : Rs L xs (d) 338 28 ls st M x = Rs L xs (d) 338 29 ls (.int (nI 0) :: st) M x := Rs_next c338_28 rfl
theorem c338_29 : qx_code 338 29 = some (29, .ireturn, 30, 0, 0, 0) := by decide +kernel
theorem s338_29 {L : Nat} {xs : Nat → Int32} {d x : Nat} {M : qxM} {ls : qxL} {z : Int32} : Rs L xs (d) 338 29 ls [.int z] M x = some (.inl (some (.int z)), M, x) := Rs_ret c338_29 rfl
theorem c339_0 : qx_code 339 0 = some (0, .aload_n 3, 1, 0, 0, 0) := by decide +kernel
theorem s339_0 {L : Nat} {xs : Nat → Int32} {d x : Nat} {M : qxM} {st : List Value} {a0 a1 a2 a4 : Option Value} {z : Nat} : Rs L xs (d) 339 0 [a0, a1, a2, some (.ref z), a4] st M x = Rs L xs (d) 339 1 [a0, a1, a2, some (.ref z), a4] (.ref z :: st) M x := Rs_next c339_0 rfl
theorem c339_1 : qx_code 339 1 = some (1, .iconst 0, 2, 0, 0, 0) := by decide +kernel
theorem s339_1 {L : Nat} {xs : Nat → Int32} {d x : Nat} {M : qxM} {st : List Value} {ls : qxL} : Rs L xs (d) 339 1 ls st M x = Rs L xs (d) 339 2 ls (.int (nI 0) :: st) M x := Rs_next c339_1 rfl
theorem c339_2 : qx_code 339 2 = some (2, .aload_n 0, 3, 0, 0, 0) := by decide +kernel
theorem s339_2 {L : Nat} {xs : Nat → Int32} {d x : Nat} {M : qxM} {st : List Value} {a1 a2 a3 a4 : Option Value} {z : Nat} : Rs L xs (d) 339 2 [some (.ref z), a1, a2, a3, a4] st M x = Rs L xs (d) 339 3 [some (.ref z), a1, a2, a3, a4] (.ref z :: st) M x := Rs_next c339_2 rfl
theorem c339_3 : qx_code 339 3 = some (3, .iload_n 1, 4, 0, 0, 0) := by decide +kernel
theorem s339_3 {L : Nat} {xs : Nat → Int32} {d x : Nat} {M : qxM} {st : List Value} {a0 a2 a3 a4 : Option Value} {z : Int32} : Rs L xs (d) 339 3 [a0, some (.int z), a2, a3, a4] st M x = Rs L xs (d) 339 4 [a0, some (.int z), a2, a3, a4] (.int z :: st) M x := Rs_next c339_3 rfl
theorem c339_4 : qx_code 339 4 = some (4, .iload_n 2, 5, 0, 0, 0) := by decide +kernel
theorem s339_4 {L : Nat} {xs : Nat → Int32} {d x : Nat} {M : qxM} {st : List Value} {a0 a1 a3 a4 : Option Value} {z : Int32} : Rs L xs (d) 339 4 [a0, a1, some (.int z), a3, a4] st M x = Rs L xs (d) 339 5 [a0, a1, some (.int z), a3, a4] (.int z :: st) M x := Rs_next c339_4 rfl
theorem c339_5 : qx_code 339 5 = some (5, .invokevirtual 30, 8, 100, 3, 807) := by decide +kernel
theorem s339_5 {L : Nat} {xs : Nat → Int32} {d x : Nat} {M : qxM} {st : List Value} {ls : qxL} {t : Nat} {z0 : Int32} {z1 : Int32} (hk : qx_kd t = 17) (hs : st.length ≤ 4) : Rs L xs (d + 1) 339 5 ls (.int z1 :: .int z0 :: .ref t :: st) M x = (Rs L xs d 100 0 [some (.ref t), some (.int z0), some (.int z1), none, none, none] [] M 0).bind (qx_kn L xs (d + 1) 339 5 8 100 ls st x) := by
  have h1 : qx_act L xs (qx_rt 339) (5, .invokevirtual 30, 8, 100, 3, 807) ls (.int z1 :: .int z0 :: .ref t :: st) M = if 3 ≤ (.int z1 :: .int z0 :: .ref t :: st).length ∧ st.length ≤ 4 then some (.inr (.inr (.inr (100, [.ref t, .int z0, .int z1], st)))) else none := rfl
  rw [if_pos ⟨by simp [List.length_cons]; try omega, hs⟩] at h1
  have h2 := qx_kd_obj (k := 7) (by decide) hk
  exact Rs_call c339_5 h1 (by rw [show qx_args 100 [.ref t, .int z0, .int z1] = decide (qx_sh t = some (.inl 7)) from rfl]; exact decide_eq_true h2)
theorem c339_8 : qx_code 339 8 = some (8, .i2l, 9, 0, 0, 0) := by decide +kernel
theorem s339_8 {L : Nat} {xs : Nat → Int32} {d x : Nat} {M : qxM} {st : List Value} {ls : qxL} {z : Int32} : Rs L xs (d) 339 8 ls (.int z :: st) M x = Rs L xs (d) 339 9 ls (.long z.toInt64 :: st) M x := Rs_next c339_8 rfl
theorem c339_9 : qx_code 339 9 = some (9, .lastore, 10, 0, 0, 0) := by decide +kernel
theorem s339_9 {L : Nat} {xs : Nat → Int32} {d x : Nat} {M : qxM} {st : List Value} {ls : qxL} {t : Nat} {j : Int32} {z : Int64} (hk : qx_kd t = 4) (hj : qx_ib j (qx_ln t) = true) : Rs L xs (d) 339 9 ls (.long z :: .int j :: .ref t :: st) M x = Rs L xs (d) 339 10 ls st ((M.1, vp_updL M.2.1 j.toNatClampNeg z, M.2.2)) x := by
  have h1 := qx_kd_row (k := 4) (by decide) hk
  exact Rs_unless (qx_ib_not hj) c339_9 (by unfold qx_act; dsimp only; rw [h1]; rfl)
theorem c339_10 : qx_code 339 10 = some (10, .goto 11, 13, 21, 0, 0) := by decide +kernel
theorem s339_10 {L : Nat} {xs : Nat → Int32} {d x : Nat} {M : qxM} {st : List Value} {ls : qxL} : Rs L xs (d) 339 10 ls st M x = Rs L xs (d) 339 21 ls st M x := Rs_next c339_10 rfl
theorem c339_13 : qx_code 339 13 = some (13, .astore 4, 15, 0, 0, 0) := by decide +kernel
theorem s339_13i {L : Nat} {xs : Nat → Int32} {d x : Nat} {M : qxM} {st : List Value} {a0 a1 a2 a4 : Option Value} {z : Nat} {y : Int32} : Rs L xs (d) 339 13 [a0, a1, a2, some (.int y), a4] (.ref z :: st) M x = Rs L xs (d) 339 15 [a0, a1, a2, some (.int y), some (.ref z)] st M x := Rs_next c339_13 rfl
theorem s339_13r {L : Nat} {xs : Nat → Int32} {d x : Nat} {M : qxM} {st : List Value} {a0 a1 a2 a4 : Option Value} {z : Nat} {y : Nat} : Rs L xs (d) 339 13 [a0, a1, a2, some (.ref y), a4] (.ref z :: st) M x = Rs L xs (d) 339 15 [a0, a1, a2, some (.ref y), some (.ref z)] st M x := Rs_next c339_13 rfl
theorem s339_13n {L : Nat} {xs : Nat → Int32} {d x : Nat} {M : qxM} {st : List Value} {a0 a1 a2 a4 : Option Value} {z : Nat} : Rs L xs (d) 339 13 [a0, a1, a2, none, a4] (.ref z :: st) M x = Rs L xs (d) 339 15 [a0, a1, a2, none, some (.ref z)] st M x := Rs_next c339_13 rfl
theorem c339_15 : qx_code 339 15 = some (15, .iconst 1, 16, 0, 0, 0) := by decide +kernel
theorem s339_15 {L : Nat} {xs : Nat → Int32} {d x : Nat} {M : qxM} {st : List Value} {ls : qxL} : Rs L xs (d) 339 15 ls st M x = Rs L xs (d) 339 16 ls (.int (nI 1) :: st) M x := Rs_next c339_15 rfl
theorem c339_16 : qx_code 339 16 = some (16, .ireturn, 17, 0, 0, 0) := by decide +kernel
theorem s339_16 {L : Nat} {xs : Nat → Int32} {d x : Nat} {M : qxM} {ls : qxL} {z : Int32} : Rs L xs (d) 339 16 ls [.int z] M x = some (.inl (some (.int z)), M, x) := Rs_ret c339_16 rfl
theorem c339_17 : qx_code 339 17 = some (17, .astore 4, 19, 0, 0, 0) := by decide +kernel
theorem s339_17i {L : Nat} {xs : Nat → Int32} {d x : Nat} {M : qxM} {st : List Value} {a0 a1 a2 a4 : Option Value} {z : Nat} {y : Int32} : Rs L xs (d) 339 17 [a0, a1, a2, some (.int y), a4] (.ref z :: st) M x = Rs L xs (d) 339 19 [a0, a1, a2, some (.int y), some (.ref z)] st M x := Rs_next c339_17 rfl
theorem s339_17r {L : Nat} {xs : Nat → Int32} {d x : Nat} {M : qxM} {st : List Value} {a0 a1 a2 a4 : Option Value} {z : Nat} {y : Nat} : Rs L xs (d) 339 17 [a0, a1, a2, some (.ref y), a4] (.ref z :: st) M x = Rs L xs (d) 339 19 [a0, a1, a2, some (.ref y), some (.ref z)] st M x := Rs_next c339_17 rfl
theorem s339_17n {L : Nat} {xs : Nat → Int32} {d x : Nat} {M : qxM} {st : List Value} {a0 a1 a2 a4 : Option Value} {z : Nat} : Rs L xs (d) 339 17 [a0, a1, a2, none, a4] (.ref z :: st) M x = Rs L xs (d) 339 19 [a0, a1, a2, none, some (.ref z)] st M x := Rs_next c339_17 rfl
theorem c339_19 : qx_code 339 19 = some (19, .iconst 2, 20, 0, 0, 0) := by decide +kernel
theorem s339_19 {L : Nat} {xs : Nat → Int32} {d x : Nat} {M : qxM} {st : List Value} {ls : qxL} : Rs L xs (d) 339 19 ls st M x = Rs L xs (d) 339 20 ls (.int (nI 2) :: st) M x := Rs_next c339_19 rfl
theorem c339_20 : qx_code 339 20 = some (20, .ireturn, 21, 0, 0, 0) := by decide +kernel
theorem s339_20 {L : Nat} {xs : Nat → Int32} {d x : Nat} {M : qxM} {ls : qxL} {z : Int32} : Rs L xs (d) 339 20 ls [.int z] M x = some (.inl (some (.int z)), M, x) := Rs_ret c339_20 rfl
theorem c339_21 : qx_code 339 21 = some (21, .iconst 0, 22, 0, 0, 0) := by decide +kernel
theorem s339_21 {L : Nat} {xs : Nat → Int32} {d x : Nat} {M : qxM} {st : List Value} {ls : qxL} : Rs L xs (d) 339 21 ls st M x = Rs L xs (d) 339 22 ls (.int (nI 0) :: st) M x := Rs_next c339_21 rfl
theorem c339_22 : qx_code 339 22 = some (22, .ireturn, 23, 0, 0, 0) := by decide +kernel
theorem s339_22 {L : Nat} {xs : Nat → Int32} {d x : Nat} {M : qxM} {ls : qxL} {z : Int32} : Rs L xs (d) 339 22 ls [.int z] M x = some (.inl (some (.int z)), M, x) := Rs_ret c339_22 rfl
theorem c340_0 : qx_code 340 0 = some (0, .aload_n 3, 1, 0, 0, 0) := by decide +kernel
theorem s340_0 {L : Nat} {xs : Nat → Int32} {d x : Nat} {M : qxM} {st : List Value} {a0 a1 a2 a4 : Option Value} {z : Nat} : Rs L xs (d) 340 0 [a0, a1, a2, some (.ref z), a4] st M x = Rs L xs (d) 340 1 [a0, a1, a2, some (.ref z), a4] (.ref z :: st) M x := Rs_next c340_0 rfl
theorem c340_1 : qx_code 340 1 = some (1, .iconst 0, 2, 0, 0, 0) := by decide +kernel
theorem s340_1 {L : Nat} {xs : Nat → Int32} {d x : Nat} {M : qxM} {st : List Value} {ls : qxL} : Rs L xs (d) 340 1 ls st M x = Rs L xs (d) 340 2 ls (.int (nI 0) :: st) M x := Rs_next c340_1 rfl
theorem c340_2 : qx_code 340 2 = some (2, .aload_n 0, 3, 0, 0, 0) := by decide +kernel
theorem s340_2 {L : Nat} {xs : Nat → Int32} {d x : Nat} {M : qxM} {st : List Value} {a1 a2 a3 a4 : Option Value} {z : Nat} : Rs L xs (d) 340 2 [some (.ref z), a1, a2, a3, a4] st M x = Rs L xs (d) 340 3 [some (.ref z), a1, a2, a3, a4] (.ref z :: st) M x := Rs_next c340_2 rfl
theorem c340_3 : qx_code 340 3 = some (3, .iload_n 1, 4, 0, 0, 0) := by decide +kernel
theorem s340_3 {L : Nat} {xs : Nat → Int32} {d x : Nat} {M : qxM} {st : List Value} {a0 a2 a3 a4 : Option Value} {z : Int32} : Rs L xs (d) 340 3 [a0, some (.int z), a2, a3, a4] st M x = Rs L xs (d) 340 4 [a0, some (.int z), a2, a3, a4] (.int z :: st) M x := Rs_next c340_3 rfl
theorem c340_4 : qx_code 340 4 = some (4, .iload_n 2, 5, 0, 0, 0) := by decide +kernel
theorem s340_4 {L : Nat} {xs : Nat → Int32} {d x : Nat} {M : qxM} {st : List Value} {a0 a1 a3 a4 : Option Value} {z : Int32} : Rs L xs (d) 340 4 [a0, a1, some (.int z), a3, a4] st M x = Rs L xs (d) 340 5 [a0, a1, some (.int z), a3, a4] (.int z :: st) M x := Rs_next c340_4 rfl
theorem c340_5 : qx_code 340 5 = some (5, .invokevirtual 33, 8, 101, 3, 814) := by decide +kernel
theorem s340_5 {L : Nat} {xs : Nat → Int32} {d x : Nat} {M : qxM} {st : List Value} {ls : qxL} {t : Nat} {z0 : Int32} {z1 : Int32} (hk : qx_kd t = 17) (hs : st.length ≤ 4) : Rs L xs (d + 1) 340 5 ls (.int z1 :: .int z0 :: .ref t :: st) M x = (Rs L xs d 101 0 [some (.ref t), some (.int z0), some (.int z1)] [] M 0).bind (qx_kn L xs (d + 1) 340 5 8 101 ls st x) := by
  have h1 : qx_act L xs (qx_rt 340) (5, .invokevirtual 33, 8, 101, 3, 814) ls (.int z1 :: .int z0 :: .ref t :: st) M = if 3 ≤ (.int z1 :: .int z0 :: .ref t :: st).length ∧ st.length ≤ 4 then some (.inr (.inr (.inr (101, [.ref t, .int z0, .int z1], st)))) else none := rfl
  rw [if_pos ⟨by simp [List.length_cons]; try omega, hs⟩] at h1
  have h2 := qx_kd_obj (k := 7) (by decide) hk
  exact Rs_call c340_5 h1 (by rw [show qx_args 101 [.ref t, .int z0, .int z1] = decide (qx_sh t = some (.inl 7)) from rfl]; exact decide_eq_true h2)
theorem c340_8 : qx_code 340 8 = some (8, .i2l, 9, 0, 0, 0) := by decide +kernel
theorem s340_8 {L : Nat} {xs : Nat → Int32} {d x : Nat} {M : qxM} {st : List Value} {ls : qxL} {z : Int32} : Rs L xs (d) 340 8 ls (.int z :: st) M x = Rs L xs (d) 340 9 ls (.long z.toInt64 :: st) M x := Rs_next c340_8 rfl
theorem c340_9 : qx_code 340 9 = some (9, .lastore, 10, 0, 0, 0) := by decide +kernel
theorem s340_9 {L : Nat} {xs : Nat → Int32} {d x : Nat} {M : qxM} {st : List Value} {ls : qxL} {t : Nat} {j : Int32} {z : Int64} (hk : qx_kd t = 4) (hj : qx_ib j (qx_ln t) = true) : Rs L xs (d) 340 9 ls (.long z :: .int j :: .ref t :: st) M x = Rs L xs (d) 340 10 ls st ((M.1, vp_updL M.2.1 j.toNatClampNeg z, M.2.2)) x := by
  have h1 := qx_kd_row (k := 4) (by decide) hk
  exact Rs_unless (qx_ib_not hj) c340_9 (by unfold qx_act; dsimp only; rw [h1]; rfl)
theorem c340_10 : qx_code 340 10 = some (10, .goto 11, 13, 21, 0, 0) := by decide +kernel
theorem s340_10 {L : Nat} {xs : Nat → Int32} {d x : Nat} {M : qxM} {st : List Value} {ls : qxL} : Rs L xs (d) 340 10 ls st M x = Rs L xs (d) 340 21 ls st M x := Rs_next c340_10 rfl
theorem c340_13 : qx_code 340 13 = some (13, .astore 4, 15, 0, 0, 0) := by decide +kernel
theorem s340_13i {L : Nat} {xs : Nat → Int32} {d x : Nat} {M : qxM} {st : List Value} {a0 a1 a2 a4 : Option Value} {z : Nat} {y : Int32} : Rs L xs (d) 340 13 [a0, a1, a2, some (.int y), a4] (.ref z :: st) M x = Rs L xs (d) 340 15 [a0, a1, a2, some (.int y), some (.ref z)] st M x := Rs_next c340_13 rfl
theorem s340_13r {L : Nat} {xs : Nat → Int32} {d x : Nat} {M : qxM} {st : List Value} {a0 a1 a2 a4 : Option Value} {z : Nat} {y : Nat} : Rs L xs (d) 340 13 [a0, a1, a2, some (.ref y), a4] (.ref z :: st) M x = Rs L xs (d) 340 15 [a0, a1, a2, some (.ref y), some (.ref z)] st M x := Rs_next c340_13 rfl
theorem s340_13n {L : Nat} {xs : Nat → Int32} {d x : Nat} {M : qxM} {st : List Value} {a0 a1 a2 a4 : Option Value} {z : Nat} : Rs L xs (d) 340 13 [a0, a1, a2, none, a4] (.ref z :: st) M x = Rs L xs (d) 340 15 [a0, a1, a2, none, some (.ref z)] st M x := Rs_next c340_13 rfl
theorem c340_15 : qx_code 340 15 = some (15, .iconst 1, 16, 0, 0, 0) := by decide +kernel
theorem s340_15 {L : Nat} {xs : Nat → Int32} {d x : Nat} {M : qxM} {st : List Value} {ls : qxL} : Rs L xs (d) 340 15 ls st M x = Rs L xs (d) 340 16 ls (.int (nI 1) :: st) M x := Rs_next c340_15 rfl
theorem c340_16 : qx_code 340 16 = some (16, .ireturn, 17, 0, 0, 0) := by decide +kernel
theorem s340_16 {L : Nat} {xs : Nat → Int32} {d x : Nat} {M : qxM} {ls : qxL} {z : Int32} : Rs L xs (d) 340 16 ls [.int z] M x = some (.inl (some (.int z)), M, x) := Rs_ret c340_16 rfl
theorem c340_17 : qx_code 340 17 = some (17, .astore 4, 19, 0, 0, 0) := by decide +kernel
theorem s340_17i {L : Nat} {xs : Nat → Int32} {d x : Nat} {M : qxM} {st : List Value} {a0 a1 a2 a4 : Option Value} {z : Nat} {y : Int32} : Rs L xs (d) 340 17 [a0, a1, a2, some (.int y), a4] (.ref z :: st) M x = Rs L xs (d) 340 19 [a0, a1, a2, some (.int y), some (.ref z)] st M x := Rs_next c340_17 rfl
theorem s340_17r {L : Nat} {xs : Nat → Int32} {d x : Nat} {M : qxM} {st : List Value} {a0 a1 a2 a4 : Option Value} {z : Nat} {y : Nat} : Rs L xs (d) 340 17 [a0, a1, a2, some (.ref y), a4] (.ref z :: st) M x = Rs L xs (d) 340 19 [a0, a1, a2, some (.ref y), some (.ref z)] st M x := Rs_next c340_17 rfl
theorem s340_17n {L : Nat} {xs : Nat → Int32} {d x : Nat} {M : qxM} {st : List Value} {a0 a1 a2 a4 : Option Value} {z : Nat} : Rs L xs (d) 340 17 [a0, a1, a2, none, a4] (.ref z :: st) M x = Rs L xs (d) 340 19 [a0, a1, a2, none, some (.ref z)] st M x := Rs_next c340_17 rfl
theorem c340_19 : qx_code 340 19 = some (19, .iconst 2, 20, 0, 0, 0) := by decide +kernel
theorem s340_19 {L : Nat} {xs : Nat → Int32} {d x : Nat} {M : qxM} {st : List Value} {ls : qxL} : Rs L xs (d) 340 19 ls st M x = Rs L xs (d) 340 20 ls (.int (nI 2) :: st) M x := Rs_next c340_19 rfl
theorem c340_20 : qx_code 340 20 = some (20, .ireturn, 21, 0, 0, 0) := by decide +kernel
theorem s340_20 {L : Nat} {xs : Nat → Int32} {d x : Nat} {M : qxM} {ls : qxL} {z : Int32} : Rs L xs (d) 340 20 ls [.int z] M x = some (.inl (some (.int z)), M, x) := Rs_ret c340_20 rfl
theorem c340_21 : qx_code 340 21 = some (21, .iconst 0, 22, 0, 0, 0) := by decide +kernel
theorem s340_21 {L : Nat} {xs : Nat → Int32} {d x : Nat} {M : qxM} {st : List Value} {ls : qxL} : Rs L xs (d) 340 21 ls st M x = Rs L xs (d) 340 22 ls (.int (nI 0) :: st) M x := Rs_next c340_21 rfl
theorem c340_22 : qx_code 340 22 = some (22, .ireturn, 23, 0, 0, 0) := by decide +kernel
theorem s340_22 {L : Nat} {xs : Nat → Int32} {d x : Nat} {M : qxM} {ls : qxL} {z : Int32} : Rs L xs (d) 340 22 ls [.int z] M x = some (.inl (some (.int z)), M, x) := Rs_ret c340_22 rfl
theorem c341_0 : qx_code 341 0 = some (0, .aload_n 2, 1, 0, 0, 0) := by decide +kernel
theorem s341_0 {L : Nat} {xs : Nat → Int32} {d x : Nat} {M : qxM} {st : List Value} {a0 a1 a3 : Option Value} {z : Nat} : Rs L xs (d) 341 0 [a0, a1, some (.ref z), a3] st M x = Rs L xs (d) 341 1 [a0, a1, some (.ref z), a3] (.ref z :: st) M x := Rs_next c341_0 rfl
theorem c341_1 : qx_code 341 1 = some (1, .iconst 0, 2, 0, 0, 0) := by decide +kernel
theorem s341_1 {L : Nat} {xs : Nat → Int32} {d x : Nat} {M : qxM} {st : List Value} {ls : qxL} : Rs L xs (d) 341 1 ls st M x = Rs L xs (d) 341 2 ls (.int (nI 0) :: st) M x := Rs_next c341_1 rfl
theorem c341_2 : qx_code 341 2 = some (2, .aload_n 0, 3, 0, 0, 0) := by decide +kernel
theorem s341_2 {L : Nat} {xs : Nat → Int32} {d x : Nat} {M : qxM} {st : List Value} {a1 a2 a3 : Option Value} {z : Nat} : Rs L xs (d) 341 2 [some (.ref z), a1, a2, a3] st M x = Rs L xs (d) 341 3 [some (.ref z), a1, a2, a3] (.ref z :: st) M x := Rs_next c341_2 rfl
theorem c341_3 : qx_code 341 3 = some (3, .iload_n 1, 4, 0, 0, 0) := by decide +kernel
theorem s341_3 {L : Nat} {xs : Nat → Int32} {d x : Nat} {M : qxM} {st : List Value} {a0 a2 a3 : Option Value} {z : Int32} : Rs L xs (d) 341 3 [a0, some (.int z), a2, a3] st M x = Rs L xs (d) 341 4 [a0, some (.int z), a2, a3] (.int z :: st) M x := Rs_next c341_3 rfl
theorem c341_4 : qx_code 341 4 = some (4, .invokevirtual 36, 7, 103, 2, 831) := by decide +kernel
theorem s341_4 {L : Nat} {xs : Nat → Int32} {d x : Nat} {M : qxM} {st : List Value} {ls : qxL} {t : Nat} {z0 : Int32} (hk : qx_kd t = 17) (hs : st.length ≤ 4) : Rs L xs (d + 1) 341 4 ls (.int z0 :: .ref t :: st) M x = (Rs L xs d 103 0 [some (.ref t), some (.int z0), none] [] M 0).bind (qx_kn L xs (d + 1) 341 4 7 103 ls st x) := by
  have h1 : qx_act L xs (qx_rt 341) (4, .invokevirtual 36, 7, 103, 2, 831) ls (.int z0 :: .ref t :: st) M = if 2 ≤ (.int z0 :: .ref t :: st).length ∧ st.length ≤ 4 then some (.inr (.inr (.inr (103, [.ref t, .int z0], st)))) else none := rfl
  rw [if_pos ⟨by simp [List.length_cons]; try omega, hs⟩] at h1
  have h2 := qx_kd_obj (k := 7) (by decide) hk
  exact Rs_call c341_4 h1 (by rw [show qx_args 103 [.ref t, .int z0] = decide (qx_sh t = some (.inl 7)) from rfl]; exact decide_eq_true h2)
theorem c341_7 : qx_code 341 7 = some (7, .i2l, 8, 0, 0, 0) := by decide +kernel
theorem s341_7 {L : Nat} {xs : Nat → Int32} {d x : Nat} {M : qxM} {st : List Value} {ls : qxL} {z : Int32} : Rs L xs (d) 341 7 ls (.int z :: st) M x = Rs L xs (d) 341 8 ls (.long z.toInt64 :: st) M x := Rs_next c341_7 rfl
theorem c341_8 : qx_code 341 8 = some (8, .lastore, 9, 0, 0, 0) := by decide +kernel
theorem s341_8 {L : Nat} {xs : Nat → Int32} {d x : Nat} {M : qxM} {st : List Value} {ls : qxL} {t : Nat} {j : Int32} {z : Int64} (hk : qx_kd t = 4) (hj : qx_ib j (qx_ln t) = true) : Rs L xs (d) 341 8 ls (.long z :: .int j :: .ref t :: st) M x = Rs L xs (d) 341 9 ls st ((M.1, vp_updL M.2.1 j.toNatClampNeg z, M.2.2)) x := by
  have h1 := qx_kd_row (k := 4) (by decide) hk
  exact Rs_unless (qx_ib_not hj) c341_8 (by unfold qx_act; dsimp only; rw [h1]; rfl)
theorem c341_9 : qx_code 341 9 = some (9, .goto 9, 12, 18, 0, 0) := by decide +kernel
theorem s341_9 {L : Nat} {xs : Nat → Int32} {d x : Nat} {M : qxM} {st : List Value} {ls : qxL} : Rs L xs (d) 341 9 ls st M x = Rs L xs (d) 341 18 ls st M x := Rs_next c341_9 rfl
theorem c341_12 : qx_code 341 12 = some (12, .astore_n 3, 13, 0, 0, 0) := by decide +kernel
theorem s341_12i {L : Nat} {xs : Nat → Int32} {d x : Nat} {M : qxM} {st : List Value} {a0 a1 a3 : Option Value} {z : Nat} {y : Int32} : Rs L xs (d) 341 12 [a0, a1, some (.int y), a3] (.ref z :: st) M x = Rs L xs (d) 341 13 [a0, a1, some (.int y), some (.ref z)] st M x := Rs_next c341_12 rfl
theorem s341_12r {L : Nat} {xs : Nat → Int32} {d x : Nat} {M : qxM} {st : List Value} {a0 a1 a3 : Option Value} {z : Nat} {y : Nat} : Rs L xs (d) 341 12 [a0, a1, some (.ref y), a3] (.ref z :: st) M x = Rs L xs (d) 341 13 [a0, a1, some (.ref y), some (.ref z)] st M x := Rs_next c341_12 rfl
theorem s341_12n {L : Nat} {xs : Nat → Int32} {d x : Nat} {M : qxM} {st : List Value} {a0 a1 a3 : Option Value} {z : Nat} : Rs L xs (d) 341 12 [a0, a1, none, a3] (.ref z :: st) M x = Rs L xs (d) 341 13 [a0, a1, none, some (.ref z)] st M x := Rs_next c341_12 rfl
theorem c341_13 : qx_code 341 13 = some (13, .iconst 1, 14, 0, 0, 0) := by decide +kernel
theorem s341_13 {L : Nat} {xs : Nat → Int32} {d x : Nat} {M : qxM} {st : List Value} {ls : qxL} : Rs L xs (d) 341 13 ls st M x = Rs L xs (d) 341 14 ls (.int (nI 1) :: st) M x := Rs_next c341_13 rfl
theorem c341_14 : qx_code 341 14 = some (14, .ireturn, 15, 0, 0, 0) := by decide +kernel
theorem s341_14 {L : Nat} {xs : Nat → Int32} {d x : Nat} {M : qxM} {ls : qxL} {z : Int32} : Rs L xs (d) 341 14 ls [.int z] M x = some (.inl (some (.int z)), M, x) := Rs_ret c341_14 rfl
theorem c341_15 : qx_code 341 15 = some (15, .astore_n 3, 16, 0, 0, 0) := by decide +kernel
theorem s341_15i {L : Nat} {xs : Nat → Int32} {d x : Nat} {M : qxM} {st : List Value} {a0 a1 a3 : Option Value} {z : Nat} {y : Int32} : Rs L xs (d) 341 15 [a0, a1, some (.int y), a3] (.ref z :: st) M x = Rs L xs (d) 341 16 [a0, a1, some (.int y), some (.ref z)] st M x := Rs_next c341_15 rfl
theorem s341_15r {L : Nat} {xs : Nat → Int32} {d x : Nat} {M : qxM} {st : List Value} {a0 a1 a3 : Option Value} {z : Nat} {y : Nat} : Rs L xs (d) 341 15 [a0, a1, some (.ref y), a3] (.ref z :: st) M x = Rs L xs (d) 341 16 [a0, a1, some (.ref y), some (.ref z)] st M x := Rs_next c341_15 rfl
theorem s341_15n {L : Nat} {xs : Nat → Int32} {d x : Nat} {M : qxM} {st : List Value} {a0 a1 a3 : Option Value} {z : Nat} : Rs L xs (d) 341 15 [a0, a1, none, a3] (.ref z :: st) M x = Rs L xs (d) 341 16 [a0, a1, none, some (.ref z)] st M x := Rs_next c341_15 rfl
theorem c341_16 : qx_code 341 16 = some (16, .iconst 2, 17, 0, 0, 0) := by decide +kernel
theorem s341_16 {L : Nat} {xs : Nat → Int32} {d x : Nat} {M : qxM} {st : List Value} {ls : qxL} : Rs L xs (d) 341 16 ls st M x = Rs L xs (d) 341 17 ls (.int (nI 2) :: st) M x := Rs_next c341_16 rfl
theorem c341_17 : qx_code 341 17 = some (17, .ireturn, 18, 0, 0, 0) := by decide +kernel
theorem s341_17 {L : Nat} {xs : Nat → Int32} {d x : Nat} {M : qxM} {ls : qxL} {z : Int32} : Rs L xs (d) 341 17 ls [.int z] M x = some (.inl (some (.int z)), M, x) := Rs_ret c341_17 rfl
theorem c341_18 : qx_code 341 18 = some (18, .iconst 0, 19, 0, 0, 0) := by decide +kernel
theorem s341_18 {L : Nat} {xs : Nat → Int32} {d x : Nat} {M : qxM} {st : List Value} {ls : qxL} : Rs L xs (d) 341 18 ls st M x = Rs L xs (d) 341 19 ls (.int (nI 0) :: st) M x := Rs_next c341_18 rfl
theorem c341_19 : qx_code 341 19 = some (19, .ireturn, 20, 0, 0, 0) := by decide +kernel
theorem s341_19 {L : Nat} {xs : Nat → Int32} {d x : Nat} {M : qxM} {ls : qxL} {z : Int32} : Rs L xs (d) 341 19 ls [.int z] M x = some (.inl (some (.int z)), M, x) := Rs_ret c341_19 rfl
theorem c342_0 : qx_code 342 0 = some (0, .aload_n 2, 1, 0, 0, 0) := by decide +kernel
theorem s342_0 {L : Nat} {xs : Nat → Int32} {d x : Nat} {M : qxM} {st : List Value} {a0 a1 a3 : Option Value} {z : Nat} : Rs L xs (d) 342 0 [a0, a1, some (.ref z), a3] st M x = Rs L xs (d) 342 1 [a0, a1, some (.ref z), a3] (.ref z :: st) M x := Rs_next c342_0 rfl
theorem c342_1 : qx_code 342 1 = some (1, .iconst 0, 2, 0, 0, 0) := by decide +kernel
theorem s342_1 {L : Nat} {xs : Nat → Int32} {d x : Nat} {M : qxM} {st : List Value} {ls : qxL} : Rs L xs (d) 342 1 ls st M x = Rs L xs (d) 342 2 ls (.int (nI 0) :: st) M x := Rs_next c342_1 rfl
theorem c342_2 : qx_code 342 2 = some (2, .aload_n 0, 3, 0, 0, 0) := by decide +kernel
theorem s342_2 {L : Nat} {xs : Nat → Int32} {d x : Nat} {M : qxM} {st : List Value} {a1 a2 a3 : Option Value} {z : Nat} : Rs L xs (d) 342 2 [some (.ref z), a1, a2, a3] st M x = Rs L xs (d) 342 3 [some (.ref z), a1, a2, a3] (.ref z :: st) M x := Rs_next c342_2 rfl
theorem c342_3 : qx_code 342 3 = some (3, .iload_n 1, 4, 0, 0, 0) := by decide +kernel
theorem s342_3 {L : Nat} {xs : Nat → Int32} {d x : Nat} {M : qxM} {st : List Value} {a0 a2 a3 : Option Value} {z : Int32} : Rs L xs (d) 342 3 [a0, some (.int z), a2, a3] st M x = Rs L xs (d) 342 4 [a0, some (.int z), a2, a3] (.int z :: st) M x := Rs_next c342_3 rfl
theorem c342_4 : qx_code 342 4 = some (4, .invokevirtual 39, 7, 104, 2, 868) := by decide +kernel
theorem s342_4 {L : Nat} {xs : Nat → Int32} {d x : Nat} {M : qxM} {st : List Value} {ls : qxL} {t : Nat} {z0 : Int32} (hk : qx_kd t = 17) (hs : st.length ≤ 4) : Rs L xs (d + 1) 342 4 ls (.int z0 :: .ref t :: st) M x = (Rs L xs d 104 0 [some (.ref t), some (.int z0)] [] M 0).bind (qx_kn L xs (d + 1) 342 4 7 104 ls st x) := by
  have h1 : qx_act L xs (qx_rt 342) (4, .invokevirtual 39, 7, 104, 2, 868) ls (.int z0 :: .ref t :: st) M = if 2 ≤ (.int z0 :: .ref t :: st).length ∧ st.length ≤ 4 then some (.inr (.inr (.inr (104, [.ref t, .int z0], st)))) else none := rfl
  rw [if_pos ⟨by simp [List.length_cons]; try omega, hs⟩] at h1
  have h2 := qx_kd_obj (k := 7) (by decide) hk
  exact Rs_call c342_4 h1 (by rw [show qx_args 104 [.ref t, .int z0] = decide (qx_sh t = some (.inl 7)) from rfl]; exact decide_eq_true h2)
theorem c342_7 : qx_code 342 7 = some (7, .i2l, 8, 0, 0, 0) := by decide +kernel
theorem s342_7 {L : Nat} {xs : Nat → Int32} {d x : Nat} {M : qxM} {st : List Value} {ls : qxL} {z : Int32} : Rs L xs (d) 342 7 ls (.int z :: st) M x = Rs L xs (d) 342 8 ls (.long z.toInt64 :: st) M x := Rs_next c342_7 rfl
theorem c342_8 : qx_code 342 8 = some (8, .lastore, 9, 0, 0, 0) := by decide +kernel
theorem s342_8 {L : Nat} {xs : Nat → Int32} {d x : Nat} {M : qxM} {st : List Value} {ls : qxL} {t : Nat} {j : Int32} {z : Int64} (hk : qx_kd t = 4) (hj : qx_ib j (qx_ln t) = true) : Rs L xs (d) 342 8 ls (.long z :: .int j :: .ref t :: st) M x = Rs L xs (d) 342 9 ls st ((M.1, vp_updL M.2.1 j.toNatClampNeg z, M.2.2)) x := by
  have h1 := qx_kd_row (k := 4) (by decide) hk
  exact Rs_unless (qx_ib_not hj) c342_8 (by unfold qx_act; dsimp only; rw [h1]; rfl)
theorem c342_9 : qx_code 342 9 = some (9, .goto 9, 12, 18, 0, 0) := by decide +kernel
theorem s342_9 {L : Nat} {xs : Nat → Int32} {d x : Nat} {M : qxM} {st : List Value} {ls : qxL} : Rs L xs (d) 342 9 ls st M x = Rs L xs (d) 342 18 ls st M x := Rs_next c342_9 rfl
theorem c342_12 : qx_code 342 12 = some (12, .astore_n 3, 13, 0, 0, 0) := by decide +kernel
theorem s342_12i {L : Nat} {xs : Nat → Int32} {d x : Nat} {M : qxM} {st : List Value} {a0 a1 a3 : Option Value} {z : Nat} {y : Int32} : Rs L xs (d) 342 12 [a0, a1, some (.int y), a3] (.ref z :: st) M x = Rs L xs (d) 342 13 [a0, a1, some (.int y), some (.ref z)] st M x := Rs_next c342_12 rfl
theorem s342_12r {L : Nat} {xs : Nat → Int32} {d x : Nat} {M : qxM} {st : List Value} {a0 a1 a3 : Option Value} {z : Nat} {y : Nat} : Rs L xs (d) 342 12 [a0, a1, some (.ref y), a3] (.ref z :: st) M x = Rs L xs (d) 342 13 [a0, a1, some (.ref y), some (.ref z)] st M x := Rs_next c342_12 rfl
theorem s342_12n {L : Nat} {xs : Nat → Int32} {d x : Nat} {M : qxM} {st : List Value} {a0 a1 a3 : Option Value} {z : Nat} : Rs L xs (d) 342 12 [a0, a1, none, a3] (.ref z :: st) M x = Rs L xs (d) 342 13 [a0, a1, none, some (.ref z)] st M x := Rs_next c342_12 rfl
theorem c342_13 : qx_code 342 13 = some (13, .iconst 1, 14, 0, 0, 0) := by decide +kernel
theorem s342_13 {L : Nat} {xs : Nat → Int32} {d x : Nat} {M : qxM} {st : List Value} {ls : qxL} : Rs L xs (d) 342 13 ls st M x = Rs L xs (d) 342 14 ls (.int (nI 1) :: st) M x := Rs_next c342_13 rfl
theorem c342_14 : qx_code 342 14 = some (14, .ireturn, 15, 0, 0, 0) := by decide +kernel
theorem s342_14 {L : Nat} {xs : Nat → Int32} {d x : Nat} {M : qxM} {ls : qxL} {z : Int32} : Rs L xs (d) 342 14 ls [.int z] M x = some (.inl (some (.int z)), M, x) := Rs_ret c342_14 rfl
theorem c342_15 : qx_code 342 15 = some (15, .astore_n 3, 16, 0, 0, 0) := by decide +kernel
theorem s342_15i {L : Nat} {xs : Nat → Int32} {d x : Nat} {M : qxM} {st : List Value} {a0 a1 a3 : Option Value} {z : Nat} {y : Int32} : Rs L xs (d) 342 15 [a0, a1, some (.int y), a3] (.ref z :: st) M x = Rs L xs (d) 342 16 [a0, a1, some (.int y), some (.ref z)] st M x := Rs_next c342_15 rfl
theorem s342_15r {L : Nat} {xs : Nat → Int32} {d x : Nat} {M : qxM} {st : List Value} {a0 a1 a3 : Option Value} {z : Nat} {y : Nat} : Rs L xs (d) 342 15 [a0, a1, some (.ref y), a3] (.ref z :: st) M x = Rs L xs (d) 342 16 [a0, a1, some (.ref y), some (.ref z)] st M x := Rs_next c342_15 rfl
theorem s342_15n {L : Nat} {xs : Nat → Int32} {d x : Nat} {M : qxM} {st : List Value} {a0 a1 a3 : Option Value} {z : Nat} : Rs L xs (d) 342 15 [a0, a1, none, a3] (.ref z :: st) M x = Rs L xs (d) 342 16 [a0, a1, none, some (.ref z)] st M x := Rs_next c342_15 rfl
theorem c342_16 : qx_code 342 16 = some (16, .iconst 2, 17, 0, 0, 0) := by decide +kernel
theorem s342_16 {L : Nat} {xs : Nat → Int32} {d x : Nat} {M : qxM} {st : List Value} {ls : qxL} : Rs L xs (d) 342 16 ls st M x = Rs L xs (d) 342 17 ls (.int (nI 2) :: st) M x := Rs_next c342_16 rfl
theorem c342_17 : qx_code 342 17 = some (17, .ireturn, 18, 0, 0, 0) := by decide +kernel
theorem s342_17 {L : Nat} {xs : Nat → Int32} {d x : Nat} {M : qxM} {ls : qxL} {z : Int32} : Rs L xs (d) 342 17 ls [.int z] M x = some (.inl (some (.int z)), M, x) := Rs_ret c342_17 rfl
theorem c342_18 : qx_code 342 18 = some (18, .iconst 0, 19, 0, 0, 0) := by decide +kernel
theorem s342_18 {L : Nat} {xs : Nat → Int32} {d x : Nat} {M : qxM} {st : List Value} {ls : qxL} : Rs L xs (d) 342 18 ls st M x = Rs L xs (d) 342 19 ls (.int (nI 0) :: st) M x := Rs_next c342_18 rfl
theorem c342_19 : qx_code 342 19 = some (19, .ireturn, 20, 0, 0, 0) := by decide +kernel
theorem s342_19 {L : Nat} {xs : Nat → Int32} {d x : Nat} {M : qxM} {ls : qxL} {z : Int32} : Rs L xs (d) 342 19 ls [.int z] M x = some (.inl (some (.int z)), M, x) := Rs_ret c342_19 rfl
theorem c343_0 : qx_code 343 0 = some (0, .aload_n 2, 1, 0, 0, 0) := by decide +kernel
theorem s343_0 {L : Nat} {xs : Nat → Int32} {d x : Nat} {M : qxM} {st : List Value} {a0 a1 a3 : Option Value} {z : Nat} : Rs L xs (d) 343 0 [a0, a1, some (.ref z), a3] st M x = Rs L xs (d) 343 1 [a0, a1, some (.ref z), a3] (.ref z :: st) M x := Rs_next c343_0 rfl
theorem c343_1 : qx_code 343 1 = some (1, .iconst 0, 2, 0, 0, 0) := by decide +kernel
theorem s343_1 {L : Nat} {xs : Nat → Int32} {d x : Nat} {M : qxM} {st : List Value} {ls : qxL} : Rs L xs (d) 343 1 ls st M x = Rs L xs (d) 343 2 ls (.int (nI 0) :: st) M x := Rs_next c343_1 rfl
theorem c343_2 : qx_code 343 2 = some (2, .aload_n 0, 3, 0, 0, 0) := by decide +kernel
theorem s343_2 {L : Nat} {xs : Nat → Int32} {d x : Nat} {M : qxM} {st : List Value} {a1 a2 a3 : Option Value} {z : Nat} : Rs L xs (d) 343 2 [some (.ref z), a1, a2, a3] st M x = Rs L xs (d) 343 3 [some (.ref z), a1, a2, a3] (.ref z :: st) M x := Rs_next c343_2 rfl
theorem c343_3 : qx_code 343 3 = some (3, .iload_n 1, 4, 0, 0, 0) := by decide +kernel
theorem s343_3 {L : Nat} {xs : Nat → Int32} {d x : Nat} {M : qxM} {st : List Value} {a0 a2 a3 : Option Value} {z : Int32} : Rs L xs (d) 343 3 [a0, some (.int z), a2, a3] st M x = Rs L xs (d) 343 4 [a0, some (.int z), a2, a3] (.int z :: st) M x := Rs_next c343_3 rfl
theorem c343_4 : qx_code 343 4 = some (4, .invokevirtual 42, 7, 105, 2, 880) := by decide +kernel
theorem s343_4 {L : Nat} {xs : Nat → Int32} {d x : Nat} {M : qxM} {st : List Value} {ls : qxL} {t : Nat} {z0 : Int32} (hk : qx_kd t = 17) (hs : st.length ≤ 4) : Rs L xs (d + 1) 343 4 ls (.int z0 :: .ref t :: st) M x = (Rs L xs d 105 0 [some (.ref t), some (.int z0)] [] M 0).bind (qx_kn L xs (d + 1) 343 4 7 105 ls st x) := by
  have h1 : qx_act L xs (qx_rt 343) (4, .invokevirtual 42, 7, 105, 2, 880) ls (.int z0 :: .ref t :: st) M = if 2 ≤ (.int z0 :: .ref t :: st).length ∧ st.length ≤ 4 then some (.inr (.inr (.inr (105, [.ref t, .int z0], st)))) else none := rfl
  rw [if_pos ⟨by simp [List.length_cons]; try omega, hs⟩] at h1
  have h2 := qx_kd_obj (k := 7) (by decide) hk
  exact Rs_call c343_4 h1 (by rw [show qx_args 105 [.ref t, .int z0] = decide (qx_sh t = some (.inl 7)) from rfl]; exact decide_eq_true h2)
theorem c343_7 : qx_code 343 7 = some (7, .i2l, 8, 0, 0, 0) := by decide +kernel
theorem s343_7 {L : Nat} {xs : Nat → Int32} {d x : Nat} {M : qxM} {st : List Value} {ls : qxL} {z : Int32} : Rs L xs (d) 343 7 ls (.int z :: st) M x = Rs L xs (d) 343 8 ls (.long z.toInt64 :: st) M x := Rs_next c343_7 rfl
theorem c343_8 : qx_code 343 8 = some (8, .lastore, 9, 0, 0, 0) := by decide +kernel
theorem s343_8 {L : Nat} {xs : Nat → Int32} {d x : Nat} {M : qxM} {st : List Value} {ls : qxL} {t : Nat} {j : Int32} {z : Int64} (hk : qx_kd t = 4) (hj : qx_ib j (qx_ln t) = true) : Rs L xs (d) 343 8 ls (.long z :: .int j :: .ref t :: st) M x = Rs L xs (d) 343 9 ls st ((M.1, vp_updL M.2.1 j.toNatClampNeg z, M.2.2)) x := by
  have h1 := qx_kd_row (k := 4) (by decide) hk
  exact Rs_unless (qx_ib_not hj) c343_8 (by unfold qx_act; dsimp only; rw [h1]; rfl)
theorem c343_9 : qx_code 343 9 = some (9, .goto 9, 12, 18, 0, 0) := by decide +kernel
theorem s343_9 {L : Nat} {xs : Nat → Int32} {d x : Nat} {M : qxM} {st : List Value} {ls : qxL} : Rs L xs (d) 343 9 ls st M x = Rs L xs (d) 343 18 ls st M x := Rs_next c343_9 rfl
theorem c343_12 : qx_code 343 12 = some (12, .astore_n 3, 13, 0, 0, 0) := by decide +kernel
theorem s343_12i {L : Nat} {xs : Nat → Int32} {d x : Nat} {M : qxM} {st : List Value} {a0 a1 a3 : Option Value} {z : Nat} {y : Int32} : Rs L xs (d) 343 12 [a0, a1, some (.int y), a3] (.ref z :: st) M x = Rs L xs (d) 343 13 [a0, a1, some (.int y), some (.ref z)] st M x := Rs_next c343_12 rfl
theorem s343_12r {L : Nat} {xs : Nat → Int32} {d x : Nat} {M : qxM} {st : List Value} {a0 a1 a3 : Option Value} {z : Nat} {y : Nat} : Rs L xs (d) 343 12 [a0, a1, some (.ref y), a3] (.ref z :: st) M x = Rs L xs (d) 343 13 [a0, a1, some (.ref y), some (.ref z)] st M x := Rs_next c343_12 rfl
theorem s343_12n {L : Nat} {xs : Nat → Int32} {d x : Nat} {M : qxM} {st : List Value} {a0 a1 a3 : Option Value} {z : Nat} : Rs L xs (d) 343 12 [a0, a1, none, a3] (.ref z :: st) M x = Rs L xs (d) 343 13 [a0, a1, none, some (.ref z)] st M x := Rs_next c343_12 rfl
theorem c343_13 : qx_code 343 13 = some (13, .iconst 1, 14, 0, 0, 0) := by decide +kernel
theorem s343_13 {L : Nat} {xs : Nat → Int32} {d x : Nat} {M : qxM} {st : List Value} {ls : qxL} : Rs L xs (d) 343 13 ls st M x = Rs L xs (d) 343 14 ls (.int (nI 1) :: st) M x := Rs_next c343_13 rfl
theorem c343_14 : qx_code 343 14 = some (14, .ireturn, 15, 0, 0, 0) := by decide +kernel
theorem s343_14 {L : Nat} {xs : Nat → Int32} {d x : Nat} {M : qxM} {ls : qxL} {z : Int32} : Rs L xs (d) 343 14 ls [.int z] M x = some (.inl (some (.int z)), M, x) := Rs_ret c343_14 rfl
theorem c343_15 : qx_code 343 15 = some (15, .astore_n 3, 16, 0, 0, 0) := by decide +kernel
theorem s343_15i {L : Nat} {xs : Nat → Int32} {d x : Nat} {M : qxM} {st : List Value} {a0 a1 a3 : Option Value} {z : Nat} {y : Int32} : Rs L xs (d) 343 15 [a0, a1, some (.int y), a3] (.ref z :: st) M x = Rs L xs (d) 343 16 [a0, a1, some (.int y), some (.ref z)] st M x := Rs_next c343_15 rfl
theorem s343_15r {L : Nat} {xs : Nat → Int32} {d x : Nat} {M : qxM} {st : List Value} {a0 a1 a3 : Option Value} {z : Nat} {y : Nat} : Rs L xs (d) 343 15 [a0, a1, some (.ref y), a3] (.ref z :: st) M x = Rs L xs (d) 343 16 [a0, a1, some (.ref y), some (.ref z)] st M x := Rs_next c343_15 rfl
theorem s343_15n {L : Nat} {xs : Nat → Int32} {d x : Nat} {M : qxM} {st : List Value} {a0 a1 a3 : Option Value} {z : Nat} : Rs L xs (d) 343 15 [a0, a1, none, a3] (.ref z :: st) M x = Rs L xs (d) 343 16 [a0, a1, none, some (.ref z)] st M x := Rs_next c343_15 rfl
theorem c343_16 : qx_code 343 16 = some (16, .iconst 2, 17, 0, 0, 0) := by decide +kernel
theorem s343_16 {L : Nat} {xs : Nat → Int32} {d x : Nat} {M : qxM} {st : List Value} {ls : qxL} : Rs L xs (d) 343 16 ls st M x = Rs L xs (d) 343 17 ls (.int (nI 2) :: st) M x := Rs_next c343_16 rfl
theorem c343_17 : qx_code 343 17 = some (17, .ireturn, 18, 0, 0, 0) := by decide +kernel
theorem s343_17 {L : Nat} {xs : Nat → Int32} {d x : Nat} {M : qxM} {ls : qxL} {z : Int32} : Rs L xs (d) 343 17 ls [.int z] M x = some (.inl (some (.int z)), M, x) := Rs_ret c343_17 rfl
theorem c343_18 : qx_code 343 18 = some (18, .iconst 0, 19, 0, 0, 0) := by decide +kernel
theorem s343_18 {L : Nat} {xs : Nat → Int32} {d x : Nat} {M : qxM} {st : List Value} {ls : qxL} : Rs L xs (d) 343 18 ls st M x = Rs L xs (d) 343 19 ls (.int (nI 0) :: st) M x := Rs_next c343_18 rfl
theorem c343_19 : qx_code 343 19 = some (19, .ireturn, 20, 0, 0, 0) := by decide +kernel
theorem s343_19 {L : Nat} {xs : Nat → Int32} {d x : Nat} {M : qxM} {ls : qxL} {z : Int32} : Rs L xs (d) 343 19 ls [.int z] M x = some (.inl (some (.int z)), M, x) := Rs_ret c343_19 rfl
theorem c344_0 : qx_code 344 0 = some (0, .aload_n 2, 1, 0, 0, 0) := by decide +kernel
theorem s344_0 {L : Nat} {xs : Nat → Int32} {d x : Nat} {M : qxM} {st : List Value} {a0 a1 a3 : Option Value} {z : Nat} : Rs L xs (d) 344 0 [a0, a1, some (.ref z), a3] st M x = Rs L xs (d) 344 1 [a0, a1, some (.ref z), a3] (.ref z :: st) M x := Rs_next c344_0 rfl
theorem c344_1 : qx_code 344 1 = some (1, .iconst 0, 2, 0, 0, 0) := by decide +kernel
theorem s344_1 {L : Nat} {xs : Nat → Int32} {d x : Nat} {M : qxM} {st : List Value} {ls : qxL} : Rs L xs (d) 344 1 ls st M x = Rs L xs (d) 344 2 ls (.int (nI 0) :: st) M x := Rs_next c344_1 rfl
theorem c344_2 : qx_code 344 2 = some (2, .aload_n 0, 3, 0, 0, 0) := by decide +kernel
theorem s344_2 {L : Nat} {xs : Nat → Int32} {d x : Nat} {M : qxM} {st : List Value} {a1 a2 a3 : Option Value} {z : Nat} : Rs L xs (d) 344 2 [some (.ref z), a1, a2, a3] st M x = Rs L xs (d) 344 3 [some (.ref z), a1, a2, a3] (.ref z :: st) M x := Rs_next c344_2 rfl
theorem c344_3 : qx_code 344 3 = some (3, .iload_n 1, 4, 0, 0, 0) := by decide +kernel
theorem s344_3 {L : Nat} {xs : Nat → Int32} {d x : Nat} {M : qxM} {st : List Value} {a0 a2 a3 : Option Value} {z : Int32} : Rs L xs (d) 344 3 [a0, some (.int z), a2, a3] st M x = Rs L xs (d) 344 4 [a0, some (.int z), a2, a3] (.int z :: st) M x := Rs_next c344_3 rfl
theorem c344_4 : qx_code 344 4 = some (4, .invokevirtual 45, 7, 107, 2, 887) := by decide +kernel
theorem s344_4 {L : Nat} {xs : Nat → Int32} {d x : Nat} {M : qxM} {st : List Value} {ls : qxL} {t : Nat} {z0 : Int32} (hk : qx_kd t = 17) (hs : st.length ≤ 4) : Rs L xs (d + 1) 344 4 ls (.int z0 :: .ref t :: st) M x = (Rs L xs d 107 0 [some (.ref t), some (.int z0)] [] M 0).bind (qx_kn L xs (d + 1) 344 4 7 107 ls st x) := by
  have h1 : qx_act L xs (qx_rt 344) (4, .invokevirtual 45, 7, 107, 2, 887) ls (.int z0 :: .ref t :: st) M = if 2 ≤ (.int z0 :: .ref t :: st).length ∧ st.length ≤ 4 then some (.inr (.inr (.inr (107, [.ref t, .int z0], st)))) else none := rfl
  rw [if_pos ⟨by simp [List.length_cons]; try omega, hs⟩] at h1
  have h2 := qx_kd_obj (k := 7) (by decide) hk
  exact Rs_call c344_4 h1 (by rw [show qx_args 107 [.ref t, .int z0] = decide (qx_sh t = some (.inl 7)) from rfl]; exact decide_eq_true h2)
theorem c344_7 : qx_code 344 7 = some (7, .i2l, 8, 0, 0, 0) := by decide +kernel
theorem s344_7 {L : Nat} {xs : Nat → Int32} {d x : Nat} {M : qxM} {st : List Value} {ls : qxL} {z : Int32} : Rs L xs (d) 344 7 ls (.int z :: st) M x = Rs L xs (d) 344 8 ls (.long z.toInt64 :: st) M x := Rs_next c344_7 rfl
theorem c344_8 : qx_code 344 8 = some (8, .lastore, 9, 0, 0, 0) := by decide +kernel
theorem s344_8 {L : Nat} {xs : Nat → Int32} {d x : Nat} {M : qxM} {st : List Value} {ls : qxL} {t : Nat} {j : Int32} {z : Int64} (hk : qx_kd t = 4) (hj : qx_ib j (qx_ln t) = true) : Rs L xs (d) 344 8 ls (.long z :: .int j :: .ref t :: st) M x = Rs L xs (d) 344 9 ls st ((M.1, vp_updL M.2.1 j.toNatClampNeg z, M.2.2)) x := by
  have h1 := qx_kd_row (k := 4) (by decide) hk
  exact Rs_unless (qx_ib_not hj) c344_8 (by unfold qx_act; dsimp only; rw [h1]; rfl)
theorem c344_9 : qx_code 344 9 = some (9, .goto 9, 12, 18, 0, 0) := by decide +kernel
theorem s344_9 {L : Nat} {xs : Nat → Int32} {d x : Nat} {M : qxM} {st : List Value} {ls : qxL} : Rs L xs (d) 344 9 ls st M x = Rs L xs (d) 344 18 ls st M x := Rs_next c344_9 rfl
theorem c344_12 : qx_code 344 12 = some (12, .astore_n 3, 13, 0, 0, 0) := by decide +kernel
theorem s344_12i {L : Nat} {xs : Nat → Int32} {d x : Nat} {M : qxM} {st : List Value} {a0 a1 a3 : Option Value} {z : Nat} {y : Int32} : Rs L xs (d) 344 12 [a0, a1, some (.int y), a3] (.ref z :: st) M x = Rs L xs (d) 344 13 [a0, a1, some (.int y), some (.ref z)] st M x := Rs_next c344_12 rfl
theorem s344_12r {L : Nat} {xs : Nat → Int32} {d x : Nat} {M : qxM} {st : List Value} {a0 a1 a3 : Option Value} {z : Nat} {y : Nat} : Rs L xs (d) 344 12 [a0, a1, some (.ref y), a3] (.ref z :: st) M x = Rs L xs (d) 344 13 [a0, a1, some (.ref y), some (.ref z)] st M x := Rs_next c344_12 rfl
theorem s344_12n {L : Nat} {xs : Nat → Int32} {d x : Nat} {M : qxM} {st : List Value} {a0 a1 a3 : Option Value} {z : Nat} : Rs L xs (d) 344 12 [a0, a1, none, a3] (.ref z :: st) M x = Rs L xs (d) 344 13 [a0, a1, none, some (.ref z)] st M x := Rs_next c344_12 rfl
theorem c344_13 : qx_code 344 13 = some (13, .iconst 1, 14, 0, 0, 0) := by decide +kernel
theorem s344_13 {L : Nat} {xs : Nat → Int32} {d x : Nat} {M : qxM} {st : List Value} {ls : qxL} : Rs L xs (d) 344 13 ls st M x = Rs L xs (d) 344 14 ls (.int (nI 1) :: st) M x := Rs_next c344_13 rfl
theorem c344_14 : qx_code 344 14 = some (14, .ireturn, 15, 0, 0, 0) := by decide +kernel
theorem s344_14 {L : Nat} {xs : Nat → Int32} {d x : Nat} {M : qxM} {ls : qxL} {z : Int32} : Rs L xs (d) 344 14 ls [.int z] M x = some (.inl (some (.int z)), M, x) := Rs_ret c344_14 rfl
theorem c344_15 : qx_code 344 15 = some (15, .astore_n 3, 16, 0, 0, 0) := by decide +kernel
theorem s344_15i {L : Nat} {xs : Nat → Int32} {d x : Nat} {M : qxM} {st : List Value} {a0 a1 a3 : Option Value} {z : Nat} {y : Int32} : Rs L xs (d) 344 15 [a0, a1, some (.int y), a3] (.ref z :: st) M x = Rs L xs (d) 344 16 [a0, a1, some (.int y), some (.ref z)] st M x := Rs_next c344_15 rfl
theorem s344_15r {L : Nat} {xs : Nat → Int32} {d x : Nat} {M : qxM} {st : List Value} {a0 a1 a3 : Option Value} {z : Nat} {y : Nat} : Rs L xs (d) 344 15 [a0, a1, some (.ref y), a3] (.ref z :: st) M x = Rs L xs (d) 344 16 [a0, a1, some (.ref y), some (.ref z)] st M x := Rs_next c344_15 rfl
theorem s344_15n {L : Nat} {xs : Nat → Int32} {d x : Nat} {M : qxM} {st : List Value} {a0 a1 a3 : Option Value} {z : Nat} : Rs L xs (d) 344 15 [a0, a1, none, a3] (.ref z :: st) M x = Rs L xs (d) 344 16 [a0, a1, none, some (.ref z)] st M x := Rs_next c344_15 rfl
theorem c344_16 : qx_code 344 16 = some (16, .iconst 2, 17, 0, 0, 0) := by decide +kernel
theorem s344_16 {L : Nat} {xs : Nat → Int32} {d x : Nat} {M : qxM} {st : List Value} {ls : qxL} : Rs L xs (d) 344 16 ls st M x = Rs L xs (d) 344 17 ls (.int (nI 2) :: st) M x := Rs_next c344_16 rfl
theorem c344_17 : qx_code 344 17 = some (17, .ireturn, 18, 0, 0, 0) := by decide +kernel
theorem s344_17 {L : Nat} {xs : Nat → Int32} {d x : Nat} {M : qxM} {ls : qxL} {z : Int32} : Rs L xs (d) 344 17 ls [.int z] M x = some (.inl (some (.int z)), M, x) := Rs_ret c344_17 rfl
theorem c344_18 : qx_code 344 18 = some (18, .iconst 0, 19, 0, 0, 0) := by decide +kernel
theorem s344_18 {L : Nat} {xs : Nat → Int32} {d x : Nat} {M : qxM} {st : List Value} {ls : qxL} : Rs L xs (d) 344 18 ls st M x = Rs L xs (d) 344 19 ls (.int (nI 0) :: st) M x := Rs_next c344_18 rfl
theorem c344_19 : qx_code 344 19 = some (19, .ireturn, 20, 0, 0, 0) := by decide +kernel
theorem s344_19 {L : Nat} {xs : Nat → Int32} {d x : Nat} {M : qxM} {ls : qxL} {z : Int32} : Rs L xs (d) 344 19 ls [.int z] M x = some (.inl (some (.int z)), M, x) := Rs_ret c344_19 rfl
theorem c345_0 : qx_code 345 0 = some (0, .aload_n 2, 1, 0, 0, 0) := by decide +kernel
theorem s345_0 {L : Nat} {xs : Nat → Int32} {d x : Nat} {M : qxM} {st : List Value} {a0 a1 a3 : Option Value} {z : Nat} : Rs L xs (d) 345 0 [a0, a1, some (.ref z), a3] st M x = Rs L xs (d) 345 1 [a0, a1, some (.ref z), a3] (.ref z :: st) M x := Rs_next c345_0 rfl
theorem c345_1 : qx_code 345 1 = some (1, .iconst 0, 2, 0, 0, 0) := by decide +kernel
theorem s345_1 {L : Nat} {xs : Nat → Int32} {d x : Nat} {M : qxM} {st : List Value} {ls : qxL} : Rs L xs (d) 345 1 ls st M x = Rs L xs (d) 345 2 ls (.int (nI 0) :: st) M x := Rs_next c345_1 rfl
theorem c345_2 : qx_code 345 2 = some (2, .aload_n 0, 3, 0, 0, 0) := by decide +kernel
theorem s345_2 {L : Nat} {xs : Nat → Int32} {d x : Nat} {M : qxM} {st : List Value} {a1 a2 a3 : Option Value} {z : Nat} : Rs L xs (d) 345 2 [some (.ref z), a1, a2, a3] st M x = Rs L xs (d) 345 3 [some (.ref z), a1, a2, a3] (.ref z :: st) M x := Rs_next c345_2 rfl
theorem c345_3 : qx_code 345 3 = some (3, .iload_n 1, 4, 0, 0, 0) := by decide +kernel
theorem s345_3 {L : Nat} {xs : Nat → Int32} {d x : Nat} {M : qxM} {st : List Value} {a0 a2 a3 : Option Value} {z : Int32} : Rs L xs (d) 345 3 [a0, some (.int z), a2, a3] st M x = Rs L xs (d) 345 4 [a0, some (.int z), a2, a3] (.int z :: st) M x := Rs_next c345_3 rfl
theorem c345_4 : qx_code 345 4 = some (4, .invokevirtual 48, 7, 108, 2, 894) := by decide +kernel
theorem s345_4 {L : Nat} {xs : Nat → Int32} {d x : Nat} {M : qxM} {st : List Value} {ls : qxL} {t : Nat} {z0 : Int32} (hk : qx_kd t = 17) (hs : st.length ≤ 4) : Rs L xs (d + 1) 345 4 ls (.int z0 :: .ref t :: st) M x = (Rs L xs d 108 0 [some (.ref t), some (.int z0)] [] M 0).bind (qx_kn L xs (d + 1) 345 4 7 108 ls st x) := by
  have h1 : qx_act L xs (qx_rt 345) (4, .invokevirtual 48, 7, 108, 2, 894) ls (.int z0 :: .ref t :: st) M = if 2 ≤ (.int z0 :: .ref t :: st).length ∧ st.length ≤ 4 then some (.inr (.inr (.inr (108, [.ref t, .int z0], st)))) else none := rfl
  rw [if_pos ⟨by simp [List.length_cons]; try omega, hs⟩] at h1
  have h2 := qx_kd_obj (k := 7) (by decide) hk
  exact Rs_call c345_4 h1 (by rw [show qx_args 108 [.ref t, .int z0] = decide (qx_sh t = some (.inl 7)) from rfl]; exact decide_eq_true h2)
theorem c345_7 : qx_code 345 7 = some (7, .i2l, 8, 0, 0, 0) := by decide +kernel
theorem s345_7 {L : Nat} {xs : Nat → Int32} {d x : Nat} {M : qxM} {st : List Value} {ls : qxL} {z : Int32} : Rs L xs (d) 345 7 ls (.int z :: st) M x = Rs L xs (d) 345 8 ls (.long z.toInt64 :: st) M x := Rs_next c345_7 rfl
theorem c345_8 : qx_code 345 8 = some (8, .lastore, 9, 0, 0, 0) := by decide +kernel
theorem s345_8 {L : Nat} {xs : Nat → Int32} {d x : Nat} {M : qxM} {st : List Value} {ls : qxL} {t : Nat} {j : Int32} {z : Int64} (hk : qx_kd t = 4) (hj : qx_ib j (qx_ln t) = true) : Rs L xs (d) 345 8 ls (.long z :: .int j :: .ref t :: st) M x = Rs L xs (d) 345 9 ls st ((M.1, vp_updL M.2.1 j.toNatClampNeg z, M.2.2)) x := by
  have h1 := qx_kd_row (k := 4) (by decide) hk
  exact Rs_unless (qx_ib_not hj) c345_8 (by unfold qx_act; dsimp only; rw [h1]; rfl)
theorem c345_9 : qx_code 345 9 = some (9, .goto 9, 12, 18, 0, 0) := by decide +kernel
theorem s345_9 {L : Nat} {xs : Nat → Int32} {d x : Nat} {M : qxM} {st : List Value} {ls : qxL} : Rs L xs (d) 345 9 ls st M x = Rs L xs (d) 345 18 ls st M x := Rs_next c345_9 rfl
theorem c345_12 : qx_code 345 12 = some (12, .astore_n 3, 13, 0, 0, 0) := by decide +kernel
theorem s345_12i {L : Nat} {xs : Nat → Int32} {d x : Nat} {M : qxM} {st : List Value} {a0 a1 a3 : Option Value} {z : Nat} {y : Int32} : Rs L xs (d) 345 12 [a0, a1, some (.int y), a3] (.ref z :: st) M x = Rs L xs (d) 345 13 [a0, a1, some (.int y), some (.ref z)] st M x := Rs_next c345_12 rfl
theorem s345_12r {L : Nat} {xs : Nat → Int32} {d x : Nat} {M : qxM} {st : List Value} {a0 a1 a3 : Option Value} {z : Nat} {y : Nat} : Rs L xs (d) 345 12 [a0, a1, some (.ref y), a3] (.ref z :: st) M x = Rs L xs (d) 345 13 [a0, a1, some (.ref y), some (.ref z)] st M x := Rs_next c345_12 rfl
theorem s345_12n {L : Nat} {xs : Nat → Int32} {d x : Nat} {M : qxM} {st : List Value} {a0 a1 a3 : Option Value} {z : Nat} : Rs L xs (d) 345 12 [a0, a1, none, a3] (.ref z :: st) M x = Rs L xs (d) 345 13 [a0, a1, none, some (.ref z)] st M x := Rs_next c345_12 rfl
theorem c345_13 : qx_code 345 13 = some (13, .iconst 1, 14, 0, 0, 0) := by decide +kernel
theorem s345_13 {L : Nat} {xs : Nat → Int32} {d x : Nat} {M : qxM} {st : List Value} {ls : qxL} : Rs L xs (d) 345 13 ls st M x = Rs L xs (d) 345 14 ls (.int (nI 1) :: st) M x := Rs_next c345_13 rfl
theorem c345_14 : qx_code 345 14 = some (14, .ireturn, 15, 0, 0, 0) := by decide +kernel
theorem s345_14 {L : Nat} {xs : Nat → Int32} {d x : Nat} {M : qxM} {ls : qxL} {z : Int32} : Rs L xs (d) 345 14 ls [.int z] M x = some (.inl (some (.int z)), M, x) := Rs_ret c345_14 rfl
theorem c345_15 : qx_code 345 15 = some (15, .astore_n 3, 16, 0, 0, 0) := by decide +kernel
theorem s345_15i {L : Nat} {xs : Nat → Int32} {d x : Nat} {M : qxM} {st : List Value} {a0 a1 a3 : Option Value} {z : Nat} {y : Int32} : Rs L xs (d) 345 15 [a0, a1, some (.int y), a3] (.ref z :: st) M x = Rs L xs (d) 345 16 [a0, a1, some (.int y), some (.ref z)] st M x := Rs_next c345_15 rfl
theorem s345_15r {L : Nat} {xs : Nat → Int32} {d x : Nat} {M : qxM} {st : List Value} {a0 a1 a3 : Option Value} {z : Nat} {y : Nat} : Rs L xs (d) 345 15 [a0, a1, some (.ref y), a3] (.ref z :: st) M x = Rs L xs (d) 345 16 [a0, a1, some (.ref y), some (.ref z)] st M x := Rs_next c345_15 rfl
theorem s345_15n {L : Nat} {xs : Nat → Int32} {d x : Nat} {M : qxM} {st : List Value} {a0 a1 a3 : Option Value} {z : Nat} : Rs L xs (d) 345 15 [a0, a1, none, a3] (.ref z :: st) M x = Rs L xs (d) 345 16 [a0, a1, none, some (.ref z)] st M x := Rs_next c345_15 rfl
theorem c345_16 : qx_code 345 16 = some (16, .iconst 2, 17, 0, 0, 0) := by decide +kernel
theorem s345_16 {L : Nat} {xs : Nat → Int32} {d x : Nat} {M : qxM} {st : List Value} {ls : qxL} : Rs L xs (d) 345 16 ls st M x = Rs L xs (d) 345 17 ls (.int (nI 2) :: st) M x := Rs_next c345_16 rfl
theorem c345_17 : qx_code 345 17 = some (17, .ireturn, 18, 0, 0, 0) := by decide +kernel
theorem s345_17 {L : Nat} {xs : Nat → Int32} {d x : Nat} {M : qxM} {ls : qxL} {z : Int32} : Rs L xs (d) 345 17 ls [.int z] M x = some (.inl (some (.int z)), M, x) := Rs_ret c345_17 rfl
theorem c345_18 : qx_code 345 18 = some (18, .iconst 0, 19, 0, 0, 0) := by decide +kernel
theorem s345_18 {L : Nat} {xs : Nat → Int32} {d x : Nat} {M : qxM} {st : List Value} {ls : qxL} : Rs L xs (d) 345 18 ls st M x = Rs L xs (d) 345 19 ls (.int (nI 0) :: st) M x := Rs_next c345_18 rfl
theorem c345_19 : qx_code 345 19 = some (19, .ireturn, 20, 0, 0, 0) := by decide +kernel
theorem s345_19 {L : Nat} {xs : Nat → Int32} {d x : Nat} {M : qxM} {ls : qxL} {z : Int32} : Rs L xs (d) 345 19 ls [.int z] M x = some (.inl (some (.int z)), M, x) := Rs_ret c345_19 rfl
theorem c346_0 : qx_code 346 0 = some (0, .aload_n 3, 1, 0, 0, 0) := by decide +kernel
theorem s346_0 {L : Nat} {xs : Nat → Int32} {d x : Nat} {M : qxM} {st : List Value} {a0 a1 a2 a4 : Option Value} {z : Nat} : Rs L xs (d) 346 0 [a0, a1, a2, some (.ref z), a4] st M x = Rs L xs (d) 346 1 [a0, a1, a2, some (.ref z), a4] (.ref z :: st) M x := Rs_next c346_0 rfl
theorem c346_1 : qx_code 346 1 = some (1, .iconst 0, 2, 0, 0, 0) := by decide +kernel
theorem s346_1 {L : Nat} {xs : Nat → Int32} {d x : Nat} {M : qxM} {st : List Value} {ls : qxL} : Rs L xs (d) 346 1 ls st M x = Rs L xs (d) 346 2 ls (.int (nI 0) :: st) M x := Rs_next c346_1 rfl
theorem c346_2 : qx_code 346 2 = some (2, .aload_n 0, 3, 0, 0, 0) := by decide +kernel
theorem s346_2 {L : Nat} {xs : Nat → Int32} {d x : Nat} {M : qxM} {st : List Value} {a1 a2 a3 a4 : Option Value} {z : Nat} : Rs L xs (d) 346 2 [some (.ref z), a1, a2, a3, a4] st M x = Rs L xs (d) 346 3 [some (.ref z), a1, a2, a3, a4] (.ref z :: st) M x := Rs_next c346_2 rfl
theorem c346_3 : qx_code 346 3 = some (3, .iload_n 1, 4, 0, 0, 0) := by decide +kernel
theorem s346_3 {L : Nat} {xs : Nat → Int32} {d x : Nat} {M : qxM} {st : List Value} {a0 a2 a3 a4 : Option Value} {z : Int32} : Rs L xs (d) 346 3 [a0, some (.int z), a2, a3, a4] st M x = Rs L xs (d) 346 4 [a0, some (.int z), a2, a3, a4] (.int z :: st) M x := Rs_next c346_3 rfl
theorem c346_4 : qx_code 346 4 = some (4, .iload_n 2, 5, 0, 0, 0) := by decide +kernel
theorem s346_4 {L : Nat} {xs : Nat → Int32} {d x : Nat} {M : qxM} {st : List Value} {a0 a1 a3 a4 : Option Value} {z : Int32} : Rs L xs (d) 346 4 [a0, a1, some (.int z), a3, a4] st M x = Rs L xs (d) 346 5 [a0, a1, some (.int z), a3, a4] (.int z :: st) M x := Rs_next c346_4 rfl
theorem c346_5 : qx_code 346 5 = some (5, .invokevirtual 51, 8, 109, 3, 904) := by decide +kernel
theorem s346_5 {L : Nat} {xs : Nat → Int32} {d x : Nat} {M : qxM} {st : List Value} {ls : qxL} {t : Nat} {z0 : Int32} {z1 : Int32} (hk : qx_kd t = 17) (hs : st.length ≤ 4) : Rs L xs (d + 1) 346 5 ls (.int z1 :: .int z0 :: .ref t :: st) M x = (Rs L xs d 109 0 [some (.ref t), some (.int z0), some (.int z1)] [] M 0).bind (qx_kn L xs (d + 1) 346 5 8 109 ls st x) := by
  have h1 : qx_act L xs (qx_rt 346) (5, .invokevirtual 51, 8, 109, 3, 904) ls (.int z1 :: .int z0 :: .ref t :: st) M = if 3 ≤ (.int z1 :: .int z0 :: .ref t :: st).length ∧ st.length ≤ 4 then some (.inr (.inr (.inr (109, [.ref t, .int z0, .int z1], st)))) else none := rfl
  rw [if_pos ⟨by simp [List.length_cons]; try omega, hs⟩] at h1
  have h2 := qx_kd_obj (k := 7) (by decide) hk
  exact Rs_call c346_5 h1 (by rw [show qx_args 109 [.ref t, .int z0, .int z1] = decide (qx_sh t = some (.inl 7)) from rfl]; exact decide_eq_true h2)
theorem c346_8 : qx_code 346 8 = some (8, .i2l, 9, 0, 0, 0) := by decide +kernel
theorem s346_8 {L : Nat} {xs : Nat → Int32} {d x : Nat} {M : qxM} {st : List Value} {ls : qxL} {z : Int32} : Rs L xs (d) 346 8 ls (.int z :: st) M x = Rs L xs (d) 346 9 ls (.long z.toInt64 :: st) M x := Rs_next c346_8 rfl
theorem c346_9 : qx_code 346 9 = some (9, .lastore, 10, 0, 0, 0) := by decide +kernel
theorem s346_9 {L : Nat} {xs : Nat → Int32} {d x : Nat} {M : qxM} {st : List Value} {ls : qxL} {t : Nat} {j : Int32} {z : Int64} (hk : qx_kd t = 4) (hj : qx_ib j (qx_ln t) = true) : Rs L xs (d) 346 9 ls (.long z :: .int j :: .ref t :: st) M x = Rs L xs (d) 346 10 ls st ((M.1, vp_updL M.2.1 j.toNatClampNeg z, M.2.2)) x := by
  have h1 := qx_kd_row (k := 4) (by decide) hk
  exact Rs_unless (qx_ib_not hj) c346_9 (by unfold qx_act; dsimp only; rw [h1]; rfl)
theorem c346_10 : qx_code 346 10 = some (10, .goto 11, 13, 21, 0, 0) := by decide +kernel
theorem s346_10 {L : Nat} {xs : Nat → Int32} {d x : Nat} {M : qxM} {st : List Value} {ls : qxL} : Rs L xs (d) 346 10 ls st M x = Rs L xs (d) 346 21 ls st M x := Rs_next c346_10 rfl
theorem c346_13 : qx_code 346 13 = some (13, .astore 4, 15, 0, 0, 0) := by decide +kernel
theorem s346_13i {L : Nat} {xs : Nat → Int32} {d x : Nat} {M : qxM} {st : List Value} {a0 a1 a2 a4 : Option Value} {z : Nat} {y : Int32} : Rs L xs (d) 346 13 [a0, a1, a2, some (.int y), a4] (.ref z :: st) M x = Rs L xs (d) 346 15 [a0, a1, a2, some (.int y), some (.ref z)] st M x := Rs_next c346_13 rfl
theorem s346_13r {L : Nat} {xs : Nat → Int32} {d x : Nat} {M : qxM} {st : List Value} {a0 a1 a2 a4 : Option Value} {z : Nat} {y : Nat} : Rs L xs (d) 346 13 [a0, a1, a2, some (.ref y), a4] (.ref z :: st) M x = Rs L xs (d) 346 15 [a0, a1, a2, some (.ref y), some (.ref z)] st M x := Rs_next c346_13 rfl
theorem s346_13n {L : Nat} {xs : Nat → Int32} {d x : Nat} {M : qxM} {st : List Value} {a0 a1 a2 a4 : Option Value} {z : Nat} : Rs L xs (d) 346 13 [a0, a1, a2, none, a4] (.ref z :: st) M x = Rs L xs (d) 346 15 [a0, a1, a2, none, some (.ref z)] st M x := Rs_next c346_13 rfl
theorem c346_15 : qx_code 346 15 = some (15, .iconst 1, 16, 0, 0, 0) := by decide +kernel
theorem s346_15 {L : Nat} {xs : Nat → Int32} {d x : Nat} {M : qxM} {st : List Value} {ls : qxL} : Rs L xs (d) 346 15 ls st M x = Rs L xs (d) 346 16 ls (.int (nI 1) :: st) M x := Rs_next c346_15 rfl
theorem c346_16 : qx_code 346 16 = some (16, .ireturn, 17, 0, 0, 0) := by decide +kernel
theorem s346_16 {L : Nat} {xs : Nat → Int32} {d x : Nat} {M : qxM} {ls : qxL} {z : Int32} : Rs L xs (d) 346 16 ls [.int z] M x = some (.inl (some (.int z)), M, x) := Rs_ret c346_16 rfl
theorem c346_17 : qx_code 346 17 = some (17, .astore 4, 19, 0, 0, 0) := by decide +kernel
theorem s346_17i {L : Nat} {xs : Nat → Int32} {d x : Nat} {M : qxM} {st : List Value} {a0 a1 a2 a4 : Option Value} {z : Nat} {y : Int32} : Rs L xs (d) 346 17 [a0, a1, a2, some (.int y), a4] (.ref z :: st) M x = Rs L xs (d) 346 19 [a0, a1, a2, some (.int y), some (.ref z)] st M x := Rs_next c346_17 rfl
theorem s346_17r {L : Nat} {xs : Nat → Int32} {d x : Nat} {M : qxM} {st : List Value} {a0 a1 a2 a4 : Option Value} {z : Nat} {y : Nat} : Rs L xs (d) 346 17 [a0, a1, a2, some (.ref y), a4] (.ref z :: st) M x = Rs L xs (d) 346 19 [a0, a1, a2, some (.ref y), some (.ref z)] st M x := Rs_next c346_17 rfl
theorem s346_17n {L : Nat} {xs : Nat → Int32} {d x : Nat} {M : qxM} {st : List Value} {a0 a1 a2 a4 : Option Value} {z : Nat} : Rs L xs (d) 346 17 [a0, a1, a2, none, a4] (.ref z :: st) M x = Rs L xs (d) 346 19 [a0, a1, a2, none, some (.ref z)] st M x := Rs_next c346_17 rfl
theorem c346_19 : qx_code 346 19 = some (19, .iconst 2, 20, 0, 0, 0) := by decide +kernel
theorem s346_19 {L : Nat} {xs : Nat → Int32} {d x : Nat} {M : qxM} {st : List Value} {ls : qxL} : Rs L xs (d) 346 19 ls st M x = Rs L xs (d) 346 20 ls (.int (nI 2) :: st) M x := Rs_next c346_19 rfl
theorem c346_20 : qx_code 346 20 = some (20, .ireturn, 21, 0, 0, 0) := by decide +kernel
theorem s346_20 {L : Nat} {xs : Nat → Int32} {d x : Nat} {M : qxM} {ls : qxL} {z : Int32} : Rs L xs (d) 346 20 ls [.int z] M x = some (.inl (some (.int z)), M, x) := Rs_ret c346_20 rfl
theorem c346_21 : qx_code 346 21 = some (21, .iconst 0, 22, 0, 0, 0) := by decide +kernel
theorem s346_21 {L : Nat} {xs : Nat → Int32} {d x : Nat} {M : qxM} {st : List Value} {ls : qxL} : Rs L xs (d) 346 21 ls st M x = Rs L xs (d) 346 22 ls (.int (nI 0) :: st) M x := Rs_next c346_21 rfl
theorem c346_22 : qx_code 346 22 = some (22, .ireturn, 23, 0, 0, 0) := by decide +kernel
theorem s346_22 {L : Nat} {xs : Nat → Int32} {d x : Nat} {M : qxM} {ls : qxL} {z : Int32} : Rs L xs (d) 346 22 ls [.int z] M x = some (.inl (some (.int z)), M, x) := Rs_ret c346_22 rfl
theorem c347_0 : qx_code 347 0 = some (0, .aload_n 2, 1, 0, 0, 0) := by decide +kernel
theorem s347_0 {L : Nat} {xs : Nat → Int32} {d x : Nat} {M : qxM} {st : List Value} {a0 a1 a3 : Option Value} {z : Nat} : Rs L xs (d) 347 0 [a0, a1, some (.ref z), a3] st M x = Rs L xs (d) 347 1 [a0, a1, some (.ref z), a3] (.ref z :: st) M x := Rs_next c347_0 rfl
theorem c347_1 : qx_code 347 1 = some (1, .iconst 0, 2, 0, 0, 0) := by decide +kernel
theorem s347_1 {L : Nat} {xs : Nat → Int32} {d x : Nat} {M : qxM} {st : List Value} {ls : qxL} : Rs L xs (d) 347 1 ls st M x = Rs L xs (d) 347 2 ls (.int (nI 0) :: st) M x := Rs_next c347_1 rfl
theorem c347_2 : qx_code 347 2 = some (2, .aload_n 0, 3, 0, 0, 0) := by decide +kernel
theorem s347_2 {L : Nat} {xs : Nat → Int32} {d x : Nat} {M : qxM} {st : List Value} {a1 a2 a3 : Option Value} {z : Nat} : Rs L xs (d) 347 2 [some (.ref z), a1, a2, a3] st M x = Rs L xs (d) 347 3 [some (.ref z), a1, a2, a3] (.ref z :: st) M x := Rs_next c347_2 rfl
theorem c347_3 : qx_code 347 3 = some (3, .iload_n 1, 4, 0, 0, 0) := by decide +kernel
theorem s347_3 {L : Nat} {xs : Nat → Int32} {d x : Nat} {M : qxM} {st : List Value} {a0 a2 a3 : Option Value} {z : Int32} : Rs L xs (d) 347 3 [a0, some (.int z), a2, a3] st M x = Rs L xs (d) 347 4 [a0, some (.int z), a2, a3] (.int z :: st) M x := Rs_next c347_3 rfl
theorem c347_4 : qx_code 347 4 = some (4, .invokevirtual 55, 7, 110, 2, 911) := by decide +kernel
theorem s347_4 {L : Nat} {xs : Nat → Int32} {d x : Nat} {M : qxM} {st : List Value} {ls : qxL} {t : Nat} {z0 : Int32} (hk : qx_kd t = 17) (hs : st.length ≤ 4) : Rs L xs (d + 1) 347 4 ls (.int z0 :: .ref t :: st) M x = (Rs L xs d 110 0 [some (.ref t), some (.int z0)] [] M 0).bind (qx_kn L xs (d + 1) 347 4 7 110 ls st x) := by
  have h1 : qx_act L xs (qx_rt 347) (4, .invokevirtual 55, 7, 110, 2, 911) ls (.int z0 :: .ref t :: st) M = if 2 ≤ (.int z0 :: .ref t :: st).length ∧ st.length ≤ 4 then some (.inr (.inr (.inr (110, [.ref t, .int z0], st)))) else none := rfl
  rw [if_pos ⟨by simp [List.length_cons]; try omega, hs⟩] at h1
  have h2 := qx_kd_obj (k := 7) (by decide) hk
  exact Rs_call c347_4 h1 (by rw [show qx_args 110 [.ref t, .int z0] = decide (qx_sh t = some (.inl 7)) from rfl]; exact decide_eq_true h2)
theorem c347_7 : qx_code 347 7 = some (7, .i2l, 8, 0, 0, 0) := by decide +kernel
theorem s347_7 {L : Nat} {xs : Nat → Int32} {d x : Nat} {M : qxM} {st : List Value} {ls : qxL} {z : Int32} : Rs L xs (d) 347 7 ls (.int z :: st) M x = Rs L xs (d) 347 8 ls (.long z.toInt64 :: st) M x := Rs_next c347_7 rfl
theorem c347_8 : qx_code 347 8 = some (8, .lastore, 9, 0, 0, 0) := by decide +kernel
theorem s347_8 {L : Nat} {xs : Nat → Int32} {d x : Nat} {M : qxM} {st : List Value} {ls : qxL} {t : Nat} {j : Int32} {z : Int64} (hk : qx_kd t = 4) (hj : qx_ib j (qx_ln t) = true) : Rs L xs (d) 347 8 ls (.long z :: .int j :: .ref t :: st) M x = Rs L xs (d) 347 9 ls st ((M.1, vp_updL M.2.1 j.toNatClampNeg z, M.2.2)) x := by
  have h1 := qx_kd_row (k := 4) (by decide) hk
  exact Rs_unless (qx_ib_not hj) c347_8 (by unfold qx_act; dsimp only; rw [h1]; rfl)
theorem c347_9 : qx_code 347 9 = some (9, .goto 6, 12, 15, 0, 0) := by decide +kernel
theorem s347_9 {L : Nat} {xs : Nat → Int32} {d x : Nat} {M : qxM} {st : List Value} {ls : qxL} : Rs L xs (d) 347 9 ls st M x = Rs L xs (d) 347 15 ls st M x := Rs_next c347_9 rfl
theorem c347_12 : qx_code 347 12 = some (12, .astore_n 3, 13, 0, 0, 0) := by decide +kernel
theorem s347_12i {L : Nat} {xs : Nat → Int32} {d x : Nat} {M : qxM} {st : List Value} {a0 a1 a3 : Option Value} {z : Nat} {y : Int32} : Rs L xs (d) 347 12 [a0, a1, some (.int y), a3] (.ref z :: st) M x = Rs L xs (d) 347 13 [a0, a1, some (.int y), some (.ref z)] st M x := Rs_next c347_12 rfl
theorem s347_12r {L : Nat} {xs : Nat → Int32} {d x : Nat} {M : qxM} {st : List Value} {a0 a1 a3 : Option Value} {z : Nat} {y : Nat} : Rs L xs (d) 347 12 [a0, a1, some (.ref y), a3] (.ref z :: st) M x = Rs L xs (d) 347 13 [a0, a1, some (.ref y), some (.ref z)] st M x := Rs_next c347_12 rfl
theorem s347_12n {L : Nat} {xs : Nat → Int32} {d x : Nat} {M : qxM} {st : List Value} {a0 a1 a3 : Option Value} {z : Nat} : Rs L xs (d) 347 12 [a0, a1, none, a3] (.ref z :: st) M x = Rs L xs (d) 347 13 [a0, a1, none, some (.ref z)] st M x := Rs_next c347_12 rfl
theorem c347_13 : qx_code 347 13 = some (13, .iconst 1, 14, 0, 0, 0) := by decide +kernel
theorem s347_13 {L : Nat} {xs : Nat → Int32} {d x : Nat} {M : qxM} {st : List Value} {ls : qxL} : Rs L xs (d) 347 13 ls st M x = Rs L xs (d) 347 14 ls (.int (nI 1) :: st) M x := Rs_next c347_13 rfl
theorem c347_14 : qx_code 347 14 = some (14, .ireturn, 15, 0, 0, 0) := by decide +kernel
theorem s347_14 {L : Nat} {xs : Nat → Int32} {d x : Nat} {M : qxM} {ls : qxL} {z : Int32} : Rs L xs (d) 347 14 ls [.int z] M x = some (.inl (some (.int z)), M, x) := Rs_ret c347_14 rfl
theorem c347_15 : qx_code 347 15 = some (15, .iconst 0, 16, 0, 0, 0) := by decide +kernel
theorem s347_15 {L : Nat} {xs : Nat → Int32} {d x : Nat} {M : qxM} {st : List Value} {ls : qxL} : Rs L xs (d) 347 15 ls st M x = Rs L xs (d) 347 16 ls (.int (nI 0) :: st) M x := Rs_next c347_15 rfl
theorem c347_16 : qx_code 347 16 = some (16, .ireturn, 17, 0, 0, 0) := by decide +kernel
theorem s347_16 {L : Nat} {xs : Nat → Int32} {d x : Nat} {M : qxM} {ls : qxL} {z : Int32} : Rs L xs (d) 347 16 ls [.int z] M x = some (.inl (some (.int z)), M, x) := Rs_ret c347_16 rfl
theorem c348_0 : qx_code 348 0 = some (0, .aload_n 1, 1, 0, 0, 0) := by decide +kernel
theorem s348_0 {L : Nat} {xs : Nat → Int32} {d x : Nat} {M : qxM} {st : List Value} {a0 a2 : Option Value} {z : Nat} : Rs L xs (d) 348 0 [a0, some (.ref z), a2] st M x = Rs L xs (d) 348 1 [a0, some (.ref z), a2] (.ref z :: st) M x := Rs_next c348_0 rfl
theorem c348_1 : qx_code 348 1 = some (1, .iconst 0, 2, 0, 0, 0) := by decide +kernel
theorem s348_1 {L : Nat} {xs : Nat → Int32} {d x : Nat} {M : qxM} {st : List Value} {ls : qxL} : Rs L xs (d) 348 1 ls st M x = Rs L xs (d) 348 2 ls (.int (nI 0) :: st) M x := Rs_next c348_1 rfl
theorem c348_2 : qx_code 348 2 = some (2, .aload_n 0, 3, 0, 0, 0) := by decide +kernel
theorem s348_2 {L : Nat} {xs : Nat → Int32} {d x : Nat} {M : qxM} {st : List Value} {a1 a2 : Option Value} {z : Nat} : Rs L xs (d) 348 2 [some (.ref z), a1, a2] st M x = Rs L xs (d) 348 3 [some (.ref z), a1, a2] (.ref z :: st) M x := Rs_next c348_2 rfl
theorem c348_3 : qx_code 348 3 = some (3, .invokevirtual 58, 6, 111, 1, 924) := by decide +kernel
theorem s348_3 {L : Nat} {xs : Nat → Int32} {d x : Nat} {M : qxM} {st : List Value} {ls : qxL} {t : Nat} (hk : qx_kd t = 17) (hs : st.length ≤ 4) : Rs L xs (d + 1) 348 3 ls (.ref t :: st) M x = (Rs L xs d 111 0 [some (.ref t), none] [] M 0).bind (qx_kn L xs (d + 1) 348 3 6 111 ls st x) := by
  have h1 : qx_act L xs (qx_rt 348) (3, .invokevirtual 58, 6, 111, 1, 924) ls (.ref t :: st) M = if 1 ≤ (.ref t :: st).length ∧ st.length ≤ 4 then some (.inr (.inr (.inr (111, [.ref t], st)))) else none := rfl
  rw [if_pos ⟨by simp [List.length_cons]; try omega, hs⟩] at h1
  have h2 := qx_kd_obj (k := 7) (by decide) hk
  exact Rs_call c348_3 h1 (by rw [show qx_args 111 [.ref t] = decide (qx_sh t = some (.inl 7)) from rfl]; exact decide_eq_true h2)
theorem c348_6 : qx_code 348 6 = some (6, .i2l, 7, 0, 0, 0) := by decide +kernel
theorem s348_6 {L : Nat} {xs : Nat → Int32} {d x : Nat} {M : qxM} {st : List Value} {ls : qxL} {z : Int32} : Rs L xs (d) 348 6 ls (.int z :: st) M x = Rs L xs (d) 348 7 ls (.long z.toInt64 :: st) M x := Rs_next c348_6 rfl
theorem c348_7 : qx_code 348 7 = some (7, .lastore, 8, 0, 0, 0) := by decide +kernel
theorem s348_7 {L : Nat} {xs : Nat → Int32} {d x : Nat} {M : qxM} {st : List Value} {ls : qxL} {t : Nat} {j : Int32} {z : Int64} (hk : qx_kd t = 4) (hj : qx_ib j (qx_ln t) = true) : Rs L xs (d) 348 7 ls (.long z :: .int j :: .ref t :: st) M x = Rs L xs (d) 348 8 ls st ((M.1, vp_updL M.2.1 j.toNatClampNeg z, M.2.2)) x := by
  have h1 := qx_kd_row (k := 4) (by decide) hk
  exact Rs_unless (qx_ib_not hj) c348_7 (by unfold qx_act; dsimp only; rw [h1]; rfl)
theorem c348_8 : qx_code 348 8 = some (8, .goto 6, 11, 14, 0, 0) := by decide +kernel
theorem s348_8 {L : Nat} {xs : Nat → Int32} {d x : Nat} {M : qxM} {st : List Value} {ls : qxL} : Rs L xs (d) 348 8 ls st M x = Rs L xs (d) 348 14 ls st M x := Rs_next c348_8 rfl
theorem c348_11 : qx_code 348 11 = some (11, .astore_n 2, 12, 0, 0, 0) := by decide +kernel
theorem s348_11i {L : Nat} {xs : Nat → Int32} {d x : Nat} {M : qxM} {st : List Value} {a0 a2 : Option Value} {z : Nat} {y : Int32} : Rs L xs (d) 348 11 [a0, some (.int y), a2] (.ref z :: st) M x = Rs L xs (d) 348 12 [a0, some (.int y), some (.ref z)] st M x := Rs_next c348_11 rfl
theorem s348_11r {L : Nat} {xs : Nat → Int32} {d x : Nat} {M : qxM} {st : List Value} {a0 a2 : Option Value} {z : Nat} {y : Nat} : Rs L xs (d) 348 11 [a0, some (.ref y), a2] (.ref z :: st) M x = Rs L xs (d) 348 12 [a0, some (.ref y), some (.ref z)] st M x := Rs_next c348_11 rfl
theorem s348_11n {L : Nat} {xs : Nat → Int32} {d x : Nat} {M : qxM} {st : List Value} {a0 a2 : Option Value} {z : Nat} : Rs L xs (d) 348 11 [a0, none, a2] (.ref z :: st) M x = Rs L xs (d) 348 12 [a0, none, some (.ref z)] st M x := Rs_next c348_11 rfl
theorem c348_12 : qx_code 348 12 = some (12, .iconst 1, 13, 0, 0, 0) := by decide +kernel
theorem s348_12 {L : Nat} {xs : Nat → Int32} {d x : Nat} {M : qxM} {st : List Value} {ls : qxL} : Rs L xs (d) 348 12 ls st M x = Rs L xs (d) 348 13 ls (.int (nI 1) :: st) M x := Rs_next c348_12 rfl
theorem c348_13 : qx_code 348 13 = some (13, .ireturn, 14, 0, 0, 0) := by decide +kernel
theorem s348_13 {L : Nat} {xs : Nat → Int32} {d x : Nat} {M : qxM} {ls : qxL} {z : Int32} : Rs L xs (d) 348 13 ls [.int z] M x = some (.inl (some (.int z)), M, x) := Rs_ret c348_13 rfl
theorem c348_14 : qx_code 348 14 = some (14, .iconst 0, 15, 0, 0, 0) := by decide +kernel
theorem s348_14 {L : Nat} {xs : Nat → Int32} {d x : Nat} {M : qxM} {st : List Value} {ls : qxL} : Rs L xs (d) 348 14 ls st M x = Rs L xs (d) 348 15 ls (.int (nI 0) :: st) M x := Rs_next c348_14 rfl
theorem c348_15 : qx_code 348 15 = some (15, .ireturn, 16, 0, 0, 0) := by decide +kernel
theorem s348_15 {L : Nat} {xs : Nat → Int32} {d x : Nat} {M : qxM} {ls : qxL} {z : Int32} : Rs L xs (d) 348 15 ls [.int z] M x = some (.inl (some (.int z)), M, x) := Rs_ret c348_15 rfl
theorem c349_0 : qx_code 349 0 = some (0, .aload_n 2, 1, 0, 0, 0) := by decide +kernel
theorem s349_0 {L : Nat} {xs : Nat → Int32} {d x : Nat} {M : qxM} {st : List Value} {a0 a1 a3 : Option Value} {z : Nat} : Rs L xs (d) 349 0 [a0, a1, some (.ref z), a3] st M x = Rs L xs (d) 349 1 [a0, a1, some (.ref z), a3] (.ref z :: st) M x := Rs_next c349_0 rfl
theorem c349_1 : qx_code 349 1 = some (1, .iconst 0, 2, 0, 0, 0) := by decide +kernel
theorem s349_1 {L : Nat} {xs : Nat → Int32} {d x : Nat} {M : qxM} {st : List Value} {ls : qxL} : Rs L xs (d) 349 1 ls st M x = Rs L xs (d) 349 2 ls (.int (nI 0) :: st) M x := Rs_next c349_1 rfl
theorem c349_2 : qx_code 349 2 = some (2, .aload_n 0, 3, 0, 0, 0) := by decide +kernel
theorem s349_2 {L : Nat} {xs : Nat → Int32} {d x : Nat} {M : qxM} {st : List Value} {a1 a2 a3 : Option Value} {z : Nat} : Rs L xs (d) 349 2 [some (.ref z), a1, a2, a3] st M x = Rs L xs (d) 349 3 [some (.ref z), a1, a2, a3] (.ref z :: st) M x := Rs_next c349_2 rfl
theorem c349_3 : qx_code 349 3 = some (3, .iload_n 1, 4, 0, 0, 0) := by decide +kernel
theorem s349_3 {L : Nat} {xs : Nat → Int32} {d x : Nat} {M : qxM} {st : List Value} {a0 a2 a3 : Option Value} {z : Int32} : Rs L xs (d) 349 3 [a0, some (.int z), a2, a3] st M x = Rs L xs (d) 349 4 [a0, some (.int z), a2, a3] (.int z :: st) M x := Rs_next c349_3 rfl
theorem c349_4 : qx_code 349 4 = some (4, .invokevirtual 62, 7, 112, 2, 937) := by decide +kernel
theorem s349_4 {L : Nat} {xs : Nat → Int32} {d x : Nat} {M : qxM} {st : List Value} {ls : qxL} {t : Nat} {z0 : Int32} (hk : qx_kd t = 17) (hs : st.length ≤ 4) : Rs L xs (d + 1) 349 4 ls (.int z0 :: .ref t :: st) M x = (Rs L xs d 112 0 [some (.ref t), some (.int z0)] [] M 0).bind (qx_kn L xs (d + 1) 349 4 7 112 ls st x) := by
  have h1 : qx_act L xs (qx_rt 349) (4, .invokevirtual 62, 7, 112, 2, 937) ls (.int z0 :: .ref t :: st) M = if 2 ≤ (.int z0 :: .ref t :: st).length ∧ st.length ≤ 4 then some (.inr (.inr (.inr (112, [.ref t, .int z0], st)))) else none := rfl
  rw [if_pos ⟨by simp [List.length_cons]; try omega, hs⟩] at h1
  have h2 := qx_kd_obj (k := 7) (by decide) hk
  exact Rs_call c349_4 h1 (by rw [show qx_args 112 [.ref t, .int z0] = decide (qx_sh t = some (.inl 7)) from rfl]; exact decide_eq_true h2)
theorem c349_7 : qx_code 349 7 = some (7, .i2l, 8, 0, 0, 0) := by decide +kernel
theorem s349_7 {L : Nat} {xs : Nat → Int32} {d x : Nat} {M : qxM} {st : List Value} {ls : qxL} {z : Int32} : Rs L xs (d) 349 7 ls (.int z :: st) M x = Rs L xs (d) 349 8 ls (.long z.toInt64 :: st) M x := Rs_next c349_7 rfl
theorem c349_8 : qx_code 349 8 = some (8, .lastore, 9, 0, 0, 0) := by decide +kernel
theorem s349_8 {L : Nat} {xs : Nat → Int32} {d x : Nat} {M : qxM} {st : List Value} {ls : qxL} {t : Nat} {j : Int32} {z : Int64} (hk : qx_kd t = 4) (hj : qx_ib j (qx_ln t) = true) : Rs L xs (d) 349 8 ls (.long z :: .int j :: .ref t :: st) M x = Rs L xs (d) 349 9 ls st ((M.1, vp_updL M.2.1 j.toNatClampNeg z, M.2.2)) x := by
  have h1 := qx_kd_row (k := 4) (by decide) hk
  exact Rs_unless (qx_ib_not hj) c349_8 (by unfold qx_act; dsimp only; rw [h1]; rfl)
theorem c349_9 : qx_code 349 9 = some (9, .goto 9, 12, 18, 0, 0) := by decide +kernel
theorem s349_9 {L : Nat} {xs : Nat → Int32} {d x : Nat} {M : qxM} {st : List Value} {ls : qxL} : Rs L xs (d) 349 9 ls st M x = Rs L xs (d) 349 18 ls st M x := Rs_next c349_9 rfl
theorem c349_12 : qx_code 349 12 = some (12, .astore_n 3, 13, 0, 0, 0) := by decide +kernel
theorem s349_12i {L : Nat} {xs : Nat → Int32} {d x : Nat} {M : qxM} {st : List Value} {a0 a1 a3 : Option Value} {z : Nat} {y : Int32} : Rs L xs (d) 349 12 [a0, a1, some (.int y), a3] (.ref z :: st) M x = Rs L xs (d) 349 13 [a0, a1, some (.int y), some (.ref z)] st M x := Rs_next c349_12 rfl
theorem s349_12r {L : Nat} {xs : Nat → Int32} {d x : Nat} {M : qxM} {st : List Value} {a0 a1 a3 : Option Value} {z : Nat} {y : Nat} : Rs L xs (d) 349 12 [a0, a1, some (.ref y), a3] (.ref z :: st) M x = Rs L xs (d) 349 13 [a0, a1, some (.ref y), some (.ref z)] st M x := Rs_next c349_12 rfl
theorem s349_12n {L : Nat} {xs : Nat → Int32} {d x : Nat} {M : qxM} {st : List Value} {a0 a1 a3 : Option Value} {z : Nat} : Rs L xs (d) 349 12 [a0, a1, none, a3] (.ref z :: st) M x = Rs L xs (d) 349 13 [a0, a1, none, some (.ref z)] st M x := Rs_next c349_12 rfl
theorem c349_13 : qx_code 349 13 = some (13, .iconst 1, 14, 0, 0, 0) := by decide +kernel
theorem s349_13 {L : Nat} {xs : Nat → Int32} {d x : Nat} {M : qxM} {st : List Value} {ls : qxL} : Rs L xs (d) 349 13 ls st M x = Rs L xs (d) 349 14 ls (.int (nI 1) :: st) M x := Rs_next c349_13 rfl
theorem c349_14 : qx_code 349 14 = some (14, .ireturn, 15, 0, 0, 0) := by decide +kernel
theorem s349_14 {L : Nat} {xs : Nat → Int32} {d x : Nat} {M : qxM} {ls : qxL} {z : Int32} : Rs L xs (d) 349 14 ls [.int z] M x = some (.inl (some (.int z)), M, x) := Rs_ret c349_14 rfl
theorem c349_15 : qx_code 349 15 = some (15, .astore_n 3, 16, 0, 0, 0) := by decide +kernel
theorem s349_15i {L : Nat} {xs : Nat → Int32} {d x : Nat} {M : qxM} {st : List Value} {a0 a1 a3 : Option Value} {z : Nat} {y : Int32} : Rs L xs (d) 349 15 [a0, a1, some (.int y), a3] (.ref z :: st) M x = Rs L xs (d) 349 16 [a0, a1, some (.int y), some (.ref z)] st M x := Rs_next c349_15 rfl
theorem s349_15r {L : Nat} {xs : Nat → Int32} {d x : Nat} {M : qxM} {st : List Value} {a0 a1 a3 : Option Value} {z : Nat} {y : Nat} : Rs L xs (d) 349 15 [a0, a1, some (.ref y), a3] (.ref z :: st) M x = Rs L xs (d) 349 16 [a0, a1, some (.ref y), some (.ref z)] st M x := Rs_next c349_15 rfl
theorem s349_15n {L : Nat} {xs : Nat → Int32} {d x : Nat} {M : qxM} {st : List Value} {a0 a1 a3 : Option Value} {z : Nat} : Rs L xs (d) 349 15 [a0, a1, none, a3] (.ref z :: st) M x = Rs L xs (d) 349 16 [a0, a1, none, some (.ref z)] st M x := Rs_next c349_15 rfl
theorem c349_16 : qx_code 349 16 = some (16, .iconst 2, 17, 0, 0, 0) := by decide +kernel
theorem s349_16 {L : Nat} {xs : Nat → Int32} {d x : Nat} {M : qxM} {st : List Value} {ls : qxL} : Rs L xs (d) 349 16 ls st M x = Rs L xs (d) 349 17 ls (.int (nI 2) :: st) M x := Rs_next c349_16 rfl
theorem c349_17 : qx_code 349 17 = some (17, .ireturn, 18, 0, 0, 0) := by decide +kernel
theorem s349_17 {L : Nat} {xs : Nat → Int32} {d x : Nat} {M : qxM} {ls : qxL} {z : Int32} : Rs L xs (d) 349 17 ls [.int z] M x = some (.inl (some (.int z)), M, x) := Rs_ret c349_17 rfl
theorem c349_18 : qx_code 349 18 = some (18, .iconst 0, 19, 0, 0, 0) := by decide +kernel
theorem s349_18 {L : Nat} {xs : Nat → Int32} {d x : Nat} {M : qxM} {st : List Value} {ls : qxL} : Rs L xs (d) 349 18 ls st M x = Rs L xs (d) 349 19 ls (.int (nI 0) :: st) M x := Rs_next c349_18 rfl
theorem c349_19 : qx_code 349 19 = some (19, .ireturn, 20, 0, 0, 0) := by decide +kernel
theorem s349_19 {L : Nat} {xs : Nat → Int32} {d x : Nat} {M : qxM} {ls : qxL} {z : Int32} : Rs L xs (d) 349 19 ls [.int z] M x = some (.inl (some (.int z)), M, x) := Rs_ret c349_19 rfl
theorem c350_0 : qx_code 350 0 = some (0, .aload_n 3, 1, 0, 0, 0) := by decide +kernel
theorem s350_0 {L : Nat} {xs : Nat → Int32} {d x : Nat} {M : qxM} {st : List Value} {a0 a1 a2 a4 : Option Value} {z : Nat} : Rs L xs (d) 350 0 [a0, a1, a2, some (.ref z), a4] st M x = Rs L xs (d) 350 1 [a0, a1, a2, some (.ref z), a4] (.ref z :: st) M x := Rs_next c350_0 rfl
theorem c350_1 : qx_code 350 1 = some (1, .iconst 0, 2, 0, 0, 0) := by decide +kernel
theorem s350_1 {L : Nat} {xs : Nat → Int32} {d x : Nat} {M : qxM} {st : List Value} {ls : qxL} : Rs L xs (d) 350 1 ls st M x = Rs L xs (d) 350 2 ls (.int (nI 0) :: st) M x := Rs_next c350_1 rfl
theorem c350_2 : qx_code 350 2 = some (2, .aload_n 0, 3, 0, 0, 0) := by decide +kernel
theorem s350_2 {L : Nat} {xs : Nat → Int32} {d x : Nat} {M : qxM} {st : List Value} {a1 a2 a3 a4 : Option Value} {z : Nat} : Rs L xs (d) 350 2 [some (.ref z), a1, a2, a3, a4] st M x = Rs L xs (d) 350 3 [some (.ref z), a1, a2, a3, a4] (.ref z :: st) M x := Rs_next c350_2 rfl
theorem c350_3 : qx_code 350 3 = some (3, .iload_n 1, 4, 0, 0, 0) := by decide +kernel
theorem s350_3 {L : Nat} {xs : Nat → Int32} {d x : Nat} {M : qxM} {st : List Value} {a0 a2 a3 a4 : Option Value} {z : Int32} : Rs L xs (d) 350 3 [a0, some (.int z), a2, a3, a4] st M x = Rs L xs (d) 350 4 [a0, some (.int z), a2, a3, a4] (.int z :: st) M x := Rs_next c350_3 rfl
theorem c350_4 : qx_code 350 4 = some (4, .iload_n 2, 5, 0, 0, 0) := by decide +kernel
theorem s350_4 {L : Nat} {xs : Nat → Int32} {d x : Nat} {M : qxM} {st : List Value} {a0 a1 a3 a4 : Option Value} {z : Int32} : Rs L xs (d) 350 4 [a0, a1, some (.int z), a3, a4] st M x = Rs L xs (d) 350 5 [a0, a1, some (.int z), a3, a4] (.int z :: st) M x := Rs_next c350_4 rfl
theorem c350_5 : qx_code 350 5 = some (5, .invokevirtual 65, 8, 113, 3, 952) := by decide +kernel
theorem s350_5 {L : Nat} {xs : Nat → Int32} {d x : Nat} {M : qxM} {st : List Value} {ls : qxL} {t : Nat} {z0 : Int32} {z1 : Int32} (hk : qx_kd t = 17) (hs : st.length ≤ 4) : Rs L xs (d + 1) 350 5 ls (.int z1 :: .int z0 :: .ref t :: st) M x = (Rs L xs d 113 0 [some (.ref t), some (.int z0), some (.int z1)] [] M 0).bind (qx_kn L xs (d + 1) 350 5 8 113 ls st x) := by
  have h1 : qx_act L xs (qx_rt 350) (5, .invokevirtual 65, 8, 113, 3, 952) ls (.int z1 :: .int z0 :: .ref t :: st) M = if 3 ≤ (.int z1 :: .int z0 :: .ref t :: st).length ∧ st.length ≤ 4 then some (.inr (.inr (.inr (113, [.ref t, .int z0, .int z1], st)))) else none := rfl
  rw [if_pos ⟨by simp [List.length_cons]; try omega, hs⟩] at h1
  have h2 := qx_kd_obj (k := 7) (by decide) hk
  exact Rs_call c350_5 h1 (by rw [show qx_args 113 [.ref t, .int z0, .int z1] = decide (qx_sh t = some (.inl 7)) from rfl]; exact decide_eq_true h2)
theorem c350_8 : qx_code 350 8 = some (8, .i2l, 9, 0, 0, 0) := by decide +kernel
theorem s350_8 {L : Nat} {xs : Nat → Int32} {d x : Nat} {M : qxM} {st : List Value} {ls : qxL} {z : Int32} : Rs L xs (d) 350 8 ls (.int z :: st) M x = Rs L xs (d) 350 9 ls (.long z.toInt64 :: st) M x := Rs_next c350_8 rfl
theorem c350_9 : qx_code 350 9 = some (9, .lastore, 10, 0, 0, 0) := by decide +kernel
theorem s350_9 {L : Nat} {xs : Nat → Int32} {d x : Nat} {M : qxM} {st : List Value} {ls : qxL} {t : Nat} {j : Int32} {z : Int64} (hk : qx_kd t = 4) (hj : qx_ib j (qx_ln t) = true) : Rs L xs (d) 350 9 ls (.long z :: .int j :: .ref t :: st) M x = Rs L xs (d) 350 10 ls st ((M.1, vp_updL M.2.1 j.toNatClampNeg z, M.2.2)) x := by
  have h1 := qx_kd_row (k := 4) (by decide) hk
  exact Rs_unless (qx_ib_not hj) c350_9 (by unfold qx_act; dsimp only; rw [h1]; rfl)
theorem c350_10 : qx_code 350 10 = some (10, .goto 11, 13, 21, 0, 0) := by decide +kernel
theorem s350_10 {L : Nat} {xs : Nat → Int32} {d x : Nat} {M : qxM} {st : List Value} {ls : qxL} : Rs L xs (d) 350 10 ls st M x = Rs L xs (d) 350 21 ls st M x := Rs_next c350_10 rfl
theorem c350_13 : qx_code 350 13 = some (13, .astore 4, 15, 0, 0, 0) := by decide +kernel
theorem s350_13i {L : Nat} {xs : Nat → Int32} {d x : Nat} {M : qxM} {st : List Value} {a0 a1 a2 a4 : Option Value} {z : Nat} {y : Int32} : Rs L xs (d) 350 13 [a0, a1, a2, some (.int y), a4] (.ref z :: st) M x = Rs L xs (d) 350 15 [a0, a1, a2, some (.int y), some (.ref z)] st M x := Rs_next c350_13 rfl
theorem s350_13r {L : Nat} {xs : Nat → Int32} {d x : Nat} {M : qxM} {st : List Value} {a0 a1 a2 a4 : Option Value} {z : Nat} {y : Nat} : Rs L xs (d) 350 13 [a0, a1, a2, some (.ref y), a4] (.ref z :: st) M x = Rs L xs (d) 350 15 [a0, a1, a2, some (.ref y), some (.ref z)] st M x := Rs_next c350_13 rfl
theorem s350_13n {L : Nat} {xs : Nat → Int32} {d x : Nat} {M : qxM} {st : List Value} {a0 a1 a2 a4 : Option Value} {z : Nat} : Rs L xs (d) 350 13 [a0, a1, a2, none, a4] (.ref z :: st) M x = Rs L xs (d) 350 15 [a0, a1, a2, none, some (.ref z)] st M x := Rs_next c350_13 rfl
theorem c350_15 : qx_code 350 15 = some (15, .iconst 1, 16, 0, 0, 0) := by decide +kernel
theorem s350_15 {L : Nat} {xs : Nat → Int32} {d x : Nat} {M : qxM} {st : List Value} {ls : qxL} : Rs L xs (d) 350 15 ls st M x = Rs L xs (d) 350 16 ls (.int (nI 1) :: st) M x := Rs_next c350_15 rfl
theorem c350_16 : qx_code 350 16 = some (16, .ireturn, 17, 0, 0, 0) := by decide +kernel
theorem s350_16 {L : Nat} {xs : Nat → Int32} {d x : Nat} {M : qxM} {ls : qxL} {z : Int32} : Rs L xs (d) 350 16 ls [.int z] M x = some (.inl (some (.int z)), M, x) := Rs_ret c350_16 rfl
theorem c350_17 : qx_code 350 17 = some (17, .astore 4, 19, 0, 0, 0) := by decide +kernel
theorem s350_17i {L : Nat} {xs : Nat → Int32} {d x : Nat} {M : qxM} {st : List Value} {a0 a1 a2 a4 : Option Value} {z : Nat} {y : Int32} : Rs L xs (d) 350 17 [a0, a1, a2, some (.int y), a4] (.ref z :: st) M x = Rs L xs (d) 350 19 [a0, a1, a2, some (.int y), some (.ref z)] st M x := Rs_next c350_17 rfl
theorem s350_17r {L : Nat} {xs : Nat → Int32} {d x : Nat} {M : qxM} {st : List Value} {a0 a1 a2 a4 : Option Value} {z : Nat} {y : Nat} : Rs L xs (d) 350 17 [a0, a1, a2, some (.ref y), a4] (.ref z :: st) M x = Rs L xs (d) 350 19 [a0, a1, a2, some (.ref y), some (.ref z)] st M x := Rs_next c350_17 rfl
theorem s350_17n {L : Nat} {xs : Nat → Int32} {d x : Nat} {M : qxM} {st : List Value} {a0 a1 a2 a4 : Option Value} {z : Nat} : Rs L xs (d) 350 17 [a0, a1, a2, none, a4] (.ref z :: st) M x = Rs L xs (d) 350 19 [a0, a1, a2, none, some (.ref z)] st M x := Rs_next c350_17 rfl
theorem c350_19 : qx_code 350 19 = some (19, .iconst 2, 20, 0, 0, 0) := by decide +kernel
theorem s350_19 {L : Nat} {xs : Nat → Int32} {d x : Nat} {M : qxM} {st : List Value} {ls : qxL} : Rs L xs (d) 350 19 ls st M x = Rs L xs (d) 350 20 ls (.int (nI 2) :: st) M x := Rs_next c350_19 rfl
theorem c350_20 : qx_code 350 20 = some (20, .ireturn, 21, 0, 0, 0) := by decide +kernel
theorem s350_20 {L : Nat} {xs : Nat → Int32} {d x : Nat} {M : qxM} {ls : qxL} {z : Int32} : Rs L xs (d) 350 20 ls [.int z] M x = some (.inl (some (.int z)), M, x) := Rs_ret c350_20 rfl
theorem c350_21 : qx_code 350 21 = some (21, .iconst 0, 22, 0, 0, 0) := by decide +kernel
theorem s350_21 {L : Nat} {xs : Nat → Int32} {d x : Nat} {M : qxM} {st : List Value} {ls : qxL} : Rs L xs (d) 350 21 ls st M x = Rs L xs (d) 350 22 ls (.int (nI 0) :: st) M x := Rs_next c350_21 rfl
theorem c350_22 : qx_code 350 22 = some (22, .ireturn, 23, 0, 0, 0) := by decide +kernel
theorem s350_22 {L : Nat} {xs : Nat → Int32} {d x : Nat} {M : qxM} {ls : qxL} {z : Int32} : Rs L xs (d) 350 22 ls [.int z] M x = some (.inl (some (.int z)), M, x) := Rs_ret c350_22 rfl
theorem c351_0 : qx_code 351 0 = some (0, .aload_n 1, 1, 0, 0, 0) := by decide +kernel
theorem s351_0 {L : Nat} {xs : Nat → Int32} {d x : Nat} {M : qxM} {st : List Value} {a0 a2 : Option Value} {z : Nat} : Rs L xs (d) 351 0 [a0, some (.ref z), a2] st M x = Rs L xs (d) 351 1 [a0, some (.ref z), a2] (.ref z :: st) M x := Rs_next c351_0 rfl
theorem c351_1 : qx_code 351 1 = some (1, .iconst 0, 2, 0, 0, 0) := by decide +kernel
theorem s351_1 {L : Nat} {xs : Nat → Int32} {d x : Nat} {M : qxM} {st : List Value} {ls : qxL} : Rs L xs (d) 351 1 ls st M x = Rs L xs (d) 351 2 ls (.int (nI 0) :: st) M x := Rs_next c351_1 rfl
theorem c351_2 : qx_code 351 2 = some (2, .aload_n 0, 3, 0, 0, 0) := by decide +kernel
theorem s351_2 {L : Nat} {xs : Nat → Int32} {d x : Nat} {M : qxM} {st : List Value} {a1 a2 : Option Value} {z : Nat} : Rs L xs (d) 351 2 [some (.ref z), a1, a2] st M x = Rs L xs (d) 351 3 [some (.ref z), a1, a2] (.ref z :: st) M x := Rs_next c351_2 rfl
theorem c351_3 : qx_code 351 3 = some (3, .invokevirtual 68, 6, 114, 1, 965) := by decide +kernel
theorem s351_3 {L : Nat} {xs : Nat → Int32} {d x : Nat} {M : qxM} {st : List Value} {ls : qxL} {t : Nat} (hk : qx_kd t = 17) (hs : st.length ≤ 4) : Rs L xs (d + 1) 351 3 ls (.ref t :: st) M x = (Rs L xs d 114 0 [some (.ref t)] [] M 0).bind (qx_kn L xs (d + 1) 351 3 6 114 ls st x) := by
  have h1 : qx_act L xs (qx_rt 351) (3, .invokevirtual 68, 6, 114, 1, 965) ls (.ref t :: st) M = if 1 ≤ (.ref t :: st).length ∧ st.length ≤ 4 then some (.inr (.inr (.inr (114, [.ref t], st)))) else none := rfl
  rw [if_pos ⟨by simp [List.length_cons]; try omega, hs⟩] at h1
  have h2 := qx_kd_obj (k := 7) (by decide) hk
  exact Rs_call c351_3 h1 (by rw [show qx_args 114 [.ref t] = decide (qx_sh t = some (.inl 7)) from rfl]; exact decide_eq_true h2)
theorem c351_6 : qx_code 351 6 = some (6, .i2l, 7, 0, 0, 0) := by decide +kernel
theorem s351_6 {L : Nat} {xs : Nat → Int32} {d x : Nat} {M : qxM} {st : List Value} {ls : qxL} {z : Int32} : Rs L xs (d) 351 6 ls (.int z :: st) M x = Rs L xs (d) 351 7 ls (.long z.toInt64 :: st) M x := Rs_next c351_6 rfl
theorem c351_7 : qx_code 351 7 = some (7, .lastore, 8, 0, 0, 0) := by decide +kernel
theorem s351_7 {L : Nat} {xs : Nat → Int32} {d x : Nat} {M : qxM} {st : List Value} {ls : qxL} {t : Nat} {j : Int32} {z : Int64} (hk : qx_kd t = 4) (hj : qx_ib j (qx_ln t) = true) : Rs L xs (d) 351 7 ls (.long z :: .int j :: .ref t :: st) M x = Rs L xs (d) 351 8 ls st ((M.1, vp_updL M.2.1 j.toNatClampNeg z, M.2.2)) x := by
  have h1 := qx_kd_row (k := 4) (by decide) hk
  exact Rs_unless (qx_ib_not hj) c351_7 (by unfold qx_act; dsimp only; rw [h1]; rfl)
theorem c351_8 : qx_code 351 8 = some (8, .goto 6, 11, 14, 0, 0) := by decide +kernel
theorem s351_8 {L : Nat} {xs : Nat → Int32} {d x : Nat} {M : qxM} {st : List Value} {ls : qxL} : Rs L xs (d) 351 8 ls st M x = Rs L xs (d) 351 14 ls st M x := Rs_next c351_8 rfl
theorem c351_11 : qx_code 351 11 = some (11, .astore_n 2, 12, 0, 0, 0) := by decide +kernel
theorem s351_11i {L : Nat} {xs : Nat → Int32} {d x : Nat} {M : qxM} {st : List Value} {a0 a2 : Option Value} {z : Nat} {y : Int32} : Rs L xs (d) 351 11 [a0, some (.int y), a2] (.ref z :: st) M x = Rs L xs (d) 351 12 [a0, some (.int y), some (.ref z)] st M x := Rs_next c351_11 rfl
theorem s351_11r {L : Nat} {xs : Nat → Int32} {d x : Nat} {M : qxM} {st : List Value} {a0 a2 : Option Value} {z : Nat} {y : Nat} : Rs L xs (d) 351 11 [a0, some (.ref y), a2] (.ref z :: st) M x = Rs L xs (d) 351 12 [a0, some (.ref y), some (.ref z)] st M x := Rs_next c351_11 rfl
theorem s351_11n {L : Nat} {xs : Nat → Int32} {d x : Nat} {M : qxM} {st : List Value} {a0 a2 : Option Value} {z : Nat} : Rs L xs (d) 351 11 [a0, none, a2] (.ref z :: st) M x = Rs L xs (d) 351 12 [a0, none, some (.ref z)] st M x := Rs_next c351_11 rfl
theorem c351_12 : qx_code 351 12 = some (12, .iconst 1, 13, 0, 0, 0) := by decide +kernel
theorem s351_12 {L : Nat} {xs : Nat → Int32} {d x : Nat} {M : qxM} {st : List Value} {ls : qxL} : Rs L xs (d) 351 12 ls st M x = Rs L xs (d) 351 13 ls (.int (nI 1) :: st) M x := Rs_next c351_12 rfl
theorem c351_13 : qx_code 351 13 = some (13, .ireturn, 14, 0, 0, 0) := by decide +kernel
theorem s351_13 {L : Nat} {xs : Nat → Int32} {d x : Nat} {M : qxM} {ls : qxL} {z : Int32} : Rs L xs (d) 351 13 ls [.int z] M x = some (.inl (some (.int z)), M, x) := Rs_ret c351_13 rfl
theorem c351_14 : qx_code 351 14 = some (14, .iconst 0, 15, 0, 0, 0) := by decide +kernel
theorem s351_14 {L : Nat} {xs : Nat → Int32} {d x : Nat} {M : qxM} {st : List Value} {ls : qxL} : Rs L xs (d) 351 14 ls st M x = Rs L xs (d) 351 15 ls (.int (nI 0) :: st) M x := Rs_next c351_14 rfl
theorem c351_15 : qx_code 351 15 = some (15, .ireturn, 16, 0, 0, 0) := by decide +kernel
theorem s351_15 {L : Nat} {xs : Nat → Int32} {d x : Nat} {M : qxM} {ls : qxL} {z : Int32} : Rs L xs (d) 351 15 ls [.int z] M x = some (.inl (some (.int z)), M, x) := Rs_ret c351_15 rfl
theorem c352_0 : qx_code 352 0 = some (0, .aload_n 1, 1, 0, 0, 0) := by decide +kernel
theorem s352_0 {L : Nat} {xs : Nat → Int32} {d x : Nat} {M : qxM} {st : List Value} {a0 a2 : Option Value} {z : Nat} : Rs L xs (d) 352 0 [a0, some (.ref z), a2] st M x = Rs L xs (d) 352 1 [a0, some (.ref z), a2] (.ref z :: st) M x := Rs_next c352_0 rfl
theorem c352_1 : qx_code 352 1 = some (1, .iconst 0, 2, 0, 0, 0) := by decide +kernel
theorem s352_1 {L : Nat} {xs : Nat → Int32} {d x : Nat} {M : qxM} {st : List Value} {ls : qxL} : Rs L xs (d) 352 1 ls st M x = Rs L xs (d) 352 2 ls (.int (nI 0) :: st) M x := Rs_next c352_1 rfl
theorem c352_2 : qx_code 352 2 = some (2, .aload_n 0, 3, 0, 0, 0) := by decide +kernel
theorem s352_2 {L : Nat} {xs : Nat → Int32} {d x : Nat} {M : qxM} {st : List Value} {a1 a2 : Option Value} {z : Nat} : Rs L xs (d) 352 2 [some (.ref z), a1, a2] st M x = Rs L xs (d) 352 3 [some (.ref z), a1, a2] (.ref z :: st) M x := Rs_next c352_2 rfl
theorem c352_3 : qx_code 352 3 = some (3, .invokevirtual 71, 6, 116, 1, 972) := by decide +kernel
theorem s352_3 {L : Nat} {xs : Nat → Int32} {d x : Nat} {M : qxM} {st : List Value} {ls : qxL} {t : Nat} (hk : qx_kd t = 17) (hs : st.length ≤ 4) : Rs L xs (d + 1) 352 3 ls (.ref t :: st) M x = (Rs L xs d 116 0 [some (.ref t)] [] M 0).bind (qx_kn L xs (d + 1) 352 3 6 116 ls st x) := by
  have h1 : qx_act L xs (qx_rt 352) (3, .invokevirtual 71, 6, 116, 1, 972) ls (.ref t :: st) M = if 1 ≤ (.ref t :: st).length ∧ st.length ≤ 4 then some (.inr (.inr (.inr (116, [.ref t], st)))) else none := rfl
  rw [if_pos ⟨by simp [List.length_cons]; try omega, hs⟩] at h1
  have h2 := qx_kd_obj (k := 7) (by decide) hk
  exact Rs_call c352_3 h1 (by rw [show qx_args 116 [.ref t] = decide (qx_sh t = some (.inl 7)) from rfl]; exact decide_eq_true h2)
theorem c352_6 : qx_code 352 6 = some (6, .i2l, 7, 0, 0, 0) := by decide +kernel
theorem s352_6 {L : Nat} {xs : Nat → Int32} {d x : Nat} {M : qxM} {st : List Value} {ls : qxL} {z : Int32} : Rs L xs (d) 352 6 ls (.int z :: st) M x = Rs L xs (d) 352 7 ls (.long z.toInt64 :: st) M x := Rs_next c352_6 rfl
theorem c352_7 : qx_code 352 7 = some (7, .lastore, 8, 0, 0, 0) := by decide +kernel
theorem s352_7 {L : Nat} {xs : Nat → Int32} {d x : Nat} {M : qxM} {st : List Value} {ls : qxL} {t : Nat} {j : Int32} {z : Int64} (hk : qx_kd t = 4) (hj : qx_ib j (qx_ln t) = true) : Rs L xs (d) 352 7 ls (.long z :: .int j :: .ref t :: st) M x = Rs L xs (d) 352 8 ls st ((M.1, vp_updL M.2.1 j.toNatClampNeg z, M.2.2)) x := by
  have h1 := qx_kd_row (k := 4) (by decide) hk
  exact Rs_unless (qx_ib_not hj) c352_7 (by unfold qx_act; dsimp only; rw [h1]; rfl)
theorem c352_8 : qx_code 352 8 = some (8, .goto 6, 11, 14, 0, 0) := by decide +kernel
theorem s352_8 {L : Nat} {xs : Nat → Int32} {d x : Nat} {M : qxM} {st : List Value} {ls : qxL} : Rs L xs (d) 352 8 ls st M x = Rs L xs (d) 352 14 ls st M x := Rs_next c352_8 rfl
theorem c352_11 : qx_code 352 11 = some (11, .astore_n 2, 12, 0, 0, 0) := by decide +kernel
theorem s352_11i {L : Nat} {xs : Nat → Int32} {d x : Nat} {M : qxM} {st : List Value} {a0 a2 : Option Value} {z : Nat} {y : Int32} : Rs L xs (d) 352 11 [a0, some (.int y), a2] (.ref z :: st) M x = Rs L xs (d) 352 12 [a0, some (.int y), some (.ref z)] st M x := Rs_next c352_11 rfl
theorem s352_11r {L : Nat} {xs : Nat → Int32} {d x : Nat} {M : qxM} {st : List Value} {a0 a2 : Option Value} {z : Nat} {y : Nat} : Rs L xs (d) 352 11 [a0, some (.ref y), a2] (.ref z :: st) M x = Rs L xs (d) 352 12 [a0, some (.ref y), some (.ref z)] st M x := Rs_next c352_11 rfl
theorem s352_11n {L : Nat} {xs : Nat → Int32} {d x : Nat} {M : qxM} {st : List Value} {a0 a2 : Option Value} {z : Nat} : Rs L xs (d) 352 11 [a0, none, a2] (.ref z :: st) M x = Rs L xs (d) 352 12 [a0, none, some (.ref z)] st M x := Rs_next c352_11 rfl
theorem c352_12 : qx_code 352 12 = some (12, .iconst 1, 13, 0, 0, 0) := by decide +kernel
theorem s352_12 {L : Nat} {xs : Nat → Int32} {d x : Nat} {M : qxM} {st : List Value} {ls : qxL} : Rs L xs (d) 352 12 ls st M x = Rs L xs (d) 352 13 ls (.int (nI 1) :: st) M x := Rs_next c352_12 rfl
theorem c352_13 : qx_code 352 13 = some (13, .ireturn, 14, 0, 0, 0) := by decide +kernel
theorem s352_13 {L : Nat} {xs : Nat → Int32} {d x : Nat} {M : qxM} {ls : qxL} {z : Int32} : Rs L xs (d) 352 13 ls [.int z] M x = some (.inl (some (.int z)), M, x) := Rs_ret c352_13 rfl
theorem c352_14 : qx_code 352 14 = some (14, .iconst 0, 15, 0, 0, 0) := by decide +kernel
theorem s352_14 {L : Nat} {xs : Nat → Int32} {d x : Nat} {M : qxM} {st : List Value} {ls : qxL} : Rs L xs (d) 352 14 ls st M x = Rs L xs (d) 352 15 ls (.int (nI 0) :: st) M x := Rs_next c352_14 rfl
theorem c352_15 : qx_code 352 15 = some (15, .ireturn, 16, 0, 0, 0) := by decide +kernel
theorem s352_15 {L : Nat} {xs : Nat → Int32} {d x : Nat} {M : qxM} {ls : qxL} {z : Int32} : Rs L xs (d) 352 15 ls [.int z] M x = some (.inl (some (.int z)), M, x) := Rs_ret c352_15 rfl
theorem c353_0 : qx_code 353 0 = some (0, .aload_n 1, 1, 0, 0, 0) := by decide +kernel
theorem s353_0 {L : Nat} {xs : Nat → Int32} {d x : Nat} {M : qxM} {st : List Value} {a0 a2 : Option Value} {z : Nat} : Rs L xs (d) 353 0 [a0, some (.ref z), a2] st M x = Rs L xs (d) 353 1 [a0, some (.ref z), a2] (.ref z :: st) M x := Rs_next c353_0 rfl
theorem c353_1 : qx_code 353 1 = some (1, .iconst 0, 2, 0, 0, 0) := by decide +kernel
theorem s353_1 {L : Nat} {xs : Nat → Int32} {d x : Nat} {M : qxM} {st : List Value} {ls : qxL} : Rs L xs (d) 353 1 ls st M x = Rs L xs (d) 353 2 ls (.int (nI 0) :: st) M x := Rs_next c353_1 rfl
theorem c353_2 : qx_code 353 2 = some (2, .aload_n 0, 3, 0, 0, 0) := by decide +kernel
theorem s353_2 {L : Nat} {xs : Nat → Int32} {d x : Nat} {M : qxM} {st : List Value} {a1 a2 : Option Value} {z : Nat} : Rs L xs (d) 353 2 [some (.ref z), a1, a2] st M x = Rs L xs (d) 353 3 [some (.ref z), a1, a2] (.ref z :: st) M x := Rs_next c353_2 rfl
theorem c353_3 : qx_code 353 3 = some (3, .invokevirtual 74, 6, 117, 1, 1018) := by decide +kernel
theorem s353_3 {L : Nat} {xs : Nat → Int32} {d x : Nat} {M : qxM} {st : List Value} {ls : qxL} {t : Nat} (hk : qx_kd t = 17) (hs : st.length ≤ 4) : Rs L xs (d + 1) 353 3 ls (.ref t :: st) M x = (Rs L xs d 117 0 [some (.ref t)] [] M 0).bind (qx_kn L xs (d + 1) 353 3 6 117 ls st x) := by
  have h1 : qx_act L xs (qx_rt 353) (3, .invokevirtual 74, 6, 117, 1, 1018) ls (.ref t :: st) M = if 1 ≤ (.ref t :: st).length ∧ st.length ≤ 4 then some (.inr (.inr (.inr (117, [.ref t], st)))) else none := rfl
  rw [if_pos ⟨by simp [List.length_cons]; try omega, hs⟩] at h1
  have h2 := qx_kd_obj (k := 7) (by decide) hk
  exact Rs_call c353_3 h1 (by rw [show qx_args 117 [.ref t] = decide (qx_sh t = some (.inl 7)) from rfl]; exact decide_eq_true h2)
theorem c353_6 : qx_code 353 6 = some (6, .ifCond .eq 7, 9, 13, 0, 0) := by decide +kernel
theorem s353_6 {L : Nat} {xs : Nat → Int32} {d x : Nat} {M : qxM} {st : List Value} {ls : qxL} {z : Int32} : Rs L xs (d) 353 6 ls (.int z :: st) M x = if z = 0 then Rs L xs (d) 353 13 ls st M x else Rs L xs (d) 353 9 ls st M x := Rs_ite c353_6 rfl
theorem c353_9 : qx_code 353 9 = some (9, .lconst 1, 10, 0, 0, 0) := by decide +kernel
theorem s353_9 {L : Nat} {xs : Nat → Int32} {d x : Nat} {M : qxM} {st : List Value} {ls : qxL} : Rs L xs (d) 353 9 ls st M x = Rs L xs (d) 353 10 ls (.long (Int64.ofNat 1) :: st) M x := Rs_next c353_9 rfl
theorem c353_10 : qx_code 353 10 = some (10, .goto 4, 13, 14, 0, 0) := by decide +kernel
theorem s353_10 {L : Nat} {xs : Nat → Int32} {d x : Nat} {M : qxM} {st : List Value} {ls : qxL} : Rs L xs (d) 353 10 ls st M x = Rs L xs (d) 353 14 ls st M x := Rs_next c353_10 rfl
theorem c353_13 : qx_code 353 13 = some (13, .lconst 0, 14, 0, 0, 0) := by decide +kernel
theorem s353_13 {L : Nat} {xs : Nat → Int32} {d x : Nat} {M : qxM} {st : List Value} {ls : qxL} : Rs L xs (d) 353 13 ls st M x = Rs L xs (d) 353 14 ls (.long (Int64.ofNat 0) :: st) M x := Rs_next c353_13 rfl
theorem c353_14 : qx_code 353 14 = some (14, .lastore, 15, 0, 0, 0) := by decide +kernel
theorem s353_14 {L : Nat} {xs : Nat → Int32} {d x : Nat} {M : qxM} {st : List Value} {ls : qxL} {t : Nat} {j : Int32} {z : Int64} (hk : qx_kd t = 4) (hj : qx_ib j (qx_ln t) = true) : Rs L xs (d) 353 14 ls (.long z :: .int j :: .ref t :: st) M x = Rs L xs (d) 353 15 ls st ((M.1, vp_updL M.2.1 j.toNatClampNeg z, M.2.2)) x := by
  have h1 := qx_kd_row (k := 4) (by decide) hk
  exact Rs_unless (qx_ib_not hj) c353_14 (by unfold qx_act; dsimp only; rw [h1]; rfl)
theorem c353_15 : qx_code 353 15 = some (15, .goto 6, 18, 21, 0, 0) := by decide +kernel
theorem s353_15 {L : Nat} {xs : Nat → Int32} {d x : Nat} {M : qxM} {st : List Value} {ls : qxL} : Rs L xs (d) 353 15 ls st M x = Rs L xs (d) 353 21 ls st M x := Rs_next c353_15 rfl
theorem c353_18 : qx_code 353 18 = some (18, .astore_n 2, 19, 0, 0, 0) := by decide +kernel
theorem s353_18i {L : Nat} {xs : Nat → Int32} {d x : Nat} {M : qxM} {st : List Value} {a0 a2 : Option Value} {z : Nat} {y : Int32} : Rs L xs (d) 353 18 [a0, some (.int y), a2] (.ref z :: st) M x = Rs L xs (d) 353 19 [a0, some (.int y), some (.ref z)] st M x := Rs_next c353_18 rfl
theorem s353_18r {L : Nat} {xs : Nat → Int32} {d x : Nat} {M : qxM} {st : List Value} {a0 a2 : Option Value} {z : Nat} {y : Nat} : Rs L xs (d) 353 18 [a0, some (.ref y), a2] (.ref z :: st) M x = Rs L xs (d) 353 19 [a0, some (.ref y), some (.ref z)] st M x := Rs_next c353_18 rfl
theorem s353_18n {L : Nat} {xs : Nat → Int32} {d x : Nat} {M : qxM} {st : List Value} {a0 a2 : Option Value} {z : Nat} : Rs L xs (d) 353 18 [a0, none, a2] (.ref z :: st) M x = Rs L xs (d) 353 19 [a0, none, some (.ref z)] st M x := Rs_next c353_18 rfl
theorem c353_19 : qx_code 353 19 = some (19, .iconst 1, 20, 0, 0, 0) := by decide +kernel
theorem s353_19 {L : Nat} {xs : Nat → Int32} {d x : Nat} {M : qxM} {st : List Value} {ls : qxL} : Rs L xs (d) 353 19 ls st M x = Rs L xs (d) 353 20 ls (.int (nI 1) :: st) M x := Rs_next c353_19 rfl
theorem c353_20 : qx_code 353 20 = some (20, .ireturn, 21, 0, 0, 0) := by decide +kernel
theorem s353_20 {L : Nat} {xs : Nat → Int32} {d x : Nat} {M : qxM} {ls : qxL} {z : Int32} : Rs L xs (d) 353 20 ls [.int z] M x = some (.inl (some (.int z)), M, x) := Rs_ret c353_20 rfl
theorem c353_21 : qx_code 353 21 = some (21, .iconst 0, 22, 0, 0, 0) := by decide +kernel
theorem s353_21 {L : Nat} {xs : Nat → Int32} {d x : Nat} {M : qxM} {st : List Value} {ls : qxL} : Rs L xs (d) 353 21 ls st M x = Rs L xs (d) 353 22 ls (.int (nI 0) :: st) M x := Rs_next c353_21 rfl
theorem c353_22 : qx_code 353 22 = some (22, .ireturn, 23, 0, 0, 0) := by decide +kernel
theorem s353_22 {L : Nat} {xs : Nat → Int32} {d x : Nat} {M : qxM} {ls : qxL} {z : Int32} : Rs L xs (d) 353 22 ls [.int z] M x = some (.inl (some (.int z)), M, x) := Rs_ret c353_22 rfl
theorem c354_0 : qx_code 354 0 = some (0, .aload_n 1, 1, 0, 0, 0) := by decide +kernel
theorem s354_0 {L : Nat} {xs : Nat → Int32} {d x : Nat} {M : qxM} {st : List Value} {a0 a2 : Option Value} {z : Nat} : Rs L xs (d) 354 0 [a0, some (.ref z), a2] st M x = Rs L xs (d) 354 1 [a0, some (.ref z), a2] (.ref z :: st) M x := Rs_next c354_0 rfl
theorem c354_1 : qx_code 354 1 = some (1, .iconst 0, 2, 0, 0, 0) := by decide +kernel
theorem s354_1 {L : Nat} {xs : Nat → Int32} {d x : Nat} {M : qxM} {st : List Value} {ls : qxL} : Rs L xs (d) 354 1 ls st M x = Rs L xs (d) 354 2 ls (.int (nI 0) :: st) M x := Rs_next c354_1 rfl
theorem c354_2 : qx_code 354 2 = some (2, .aload_n 0, 3, 0, 0, 0) := by decide +kernel
theorem s354_2 {L : Nat} {xs : Nat → Int32} {d x : Nat} {M : qxM} {st : List Value} {a1 a2 : Option Value} {z : Nat} : Rs L xs (d) 354 2 [some (.ref z), a1, a2] st M x = Rs L xs (d) 354 3 [some (.ref z), a1, a2] (.ref z :: st) M x := Rs_next c354_2 rfl
theorem c354_3 : qx_code 354 3 = some (3, .invokevirtual 78, 6, 118, 1, 1025) := by decide +kernel
theorem s354_3 {L : Nat} {xs : Nat → Int32} {d x : Nat} {M : qxM} {st : List Value} {ls : qxL} {t : Nat} (hk : qx_kd t = 17) (hs : st.length ≤ 4) : Rs L xs (d + 1) 354 3 ls (.ref t :: st) M x = (Rs L xs d 118 0 [some (.ref t)] [] M 0).bind (qx_kn L xs (d + 1) 354 3 6 118 ls st x) := by
  have h1 : qx_act L xs (qx_rt 354) (3, .invokevirtual 78, 6, 118, 1, 1025) ls (.ref t :: st) M = if 1 ≤ (.ref t :: st).length ∧ st.length ≤ 4 then some (.inr (.inr (.inr (118, [.ref t], st)))) else none := rfl
  rw [if_pos ⟨by simp [List.length_cons]; try omega, hs⟩] at h1
  have h2 := qx_kd_obj (k := 7) (by decide) hk
  exact Rs_call c354_3 h1 (by rw [show qx_args 118 [.ref t] = decide (qx_sh t = some (.inl 7)) from rfl]; exact decide_eq_true h2)
theorem c354_6 : qx_code 354 6 = some (6, .i2l, 7, 0, 0, 0) := by decide +kernel
theorem s354_6 {L : Nat} {xs : Nat → Int32} {d x : Nat} {M : qxM} {st : List Value} {ls : qxL} {z : Int32} : Rs L xs (d) 354 6 ls (.int z :: st) M x = Rs L xs (d) 354 7 ls (.long z.toInt64 :: st) M x := Rs_next c354_6 rfl
theorem c354_7 : qx_code 354 7 = some (7, .lastore, 8, 0, 0, 0) := by decide +kernel
theorem s354_7 {L : Nat} {xs : Nat → Int32} {d x : Nat} {M : qxM} {st : List Value} {ls : qxL} {t : Nat} {j : Int32} {z : Int64} (hk : qx_kd t = 4) (hj : qx_ib j (qx_ln t) = true) : Rs L xs (d) 354 7 ls (.long z :: .int j :: .ref t :: st) M x = Rs L xs (d) 354 8 ls st ((M.1, vp_updL M.2.1 j.toNatClampNeg z, M.2.2)) x := by
  have h1 := qx_kd_row (k := 4) (by decide) hk
  exact Rs_unless (qx_ib_not hj) c354_7 (by unfold qx_act; dsimp only; rw [h1]; rfl)
theorem c354_8 : qx_code 354 8 = some (8, .goto 6, 11, 14, 0, 0) := by decide +kernel
theorem s354_8 {L : Nat} {xs : Nat → Int32} {d x : Nat} {M : qxM} {st : List Value} {ls : qxL} : Rs L xs (d) 354 8 ls st M x = Rs L xs (d) 354 14 ls st M x := Rs_next c354_8 rfl
theorem c354_11 : qx_code 354 11 = some (11, .astore_n 2, 12, 0, 0, 0) := by decide +kernel
theorem s354_11i {L : Nat} {xs : Nat → Int32} {d x : Nat} {M : qxM} {st : List Value} {a0 a2 : Option Value} {z : Nat} {y : Int32} : Rs L xs (d) 354 11 [a0, some (.int y), a2] (.ref z :: st) M x = Rs L xs (d) 354 12 [a0, some (.int y), some (.ref z)] st M x := Rs_next c354_11 rfl
theorem s354_11r {L : Nat} {xs : Nat → Int32} {d x : Nat} {M : qxM} {st : List Value} {a0 a2 : Option Value} {z : Nat} {y : Nat} : Rs L xs (d) 354 11 [a0, some (.ref y), a2] (.ref z :: st) M x = Rs L xs (d) 354 12 [a0, some (.ref y), some (.ref z)] st M x := Rs_next c354_11 rfl
theorem s354_11n {L : Nat} {xs : Nat → Int32} {d x : Nat} {M : qxM} {st : List Value} {a0 a2 : Option Value} {z : Nat} : Rs L xs (d) 354 11 [a0, none, a2] (.ref z :: st) M x = Rs L xs (d) 354 12 [a0, none, some (.ref z)] st M x := Rs_next c354_11 rfl
theorem c354_12 : qx_code 354 12 = some (12, .iconst 1, 13, 0, 0, 0) := by decide +kernel
theorem s354_12 {L : Nat} {xs : Nat → Int32} {d x : Nat} {M : qxM} {st : List Value} {ls : qxL} : Rs L xs (d) 354 12 ls st M x = Rs L xs (d) 354 13 ls (.int (nI 1) :: st) M x := Rs_next c354_12 rfl
theorem c354_13 : qx_code 354 13 = some (13, .ireturn, 14, 0, 0, 0) := by decide +kernel
theorem s354_13 {L : Nat} {xs : Nat → Int32} {d x : Nat} {M : qxM} {ls : qxL} {z : Int32} : Rs L xs (d) 354 13 ls [.int z] M x = some (.inl (some (.int z)), M, x) := Rs_ret c354_13 rfl
theorem c354_14 : qx_code 354 14 = some (14, .iconst 0, 15, 0, 0, 0) := by decide +kernel
theorem s354_14 {L : Nat} {xs : Nat → Int32} {d x : Nat} {M : qxM} {st : List Value} {ls : qxL} : Rs L xs (d) 354 14 ls st M x = Rs L xs (d) 354 15 ls (.int (nI 0) :: st) M x := Rs_next c354_14 rfl
theorem c354_15 : qx_code 354 15 = some (15, .ireturn, 16, 0, 0, 0) := by decide +kernel
theorem s354_15 {L : Nat} {xs : Nat → Int32} {d x : Nat} {M : qxM} {ls : qxL} {z : Int32} : Rs L xs (d) 354 15 ls [.int z] M x = some (.inl (some (.int z)), M, x) := Rs_ret c354_15 rfl
theorem c355_0 : qx_code 355 0 = some (0, .aload_n 1, 1, 0, 0, 0) := by decide +kernel
theorem s355_0 {L : Nat} {xs : Nat → Int32} {d x : Nat} {M : qxM} {st : List Value} {a0 a2 : Option Value} {z : Nat} : Rs L xs (d) 355 0 [a0, some (.ref z), a2] st M x = Rs L xs (d) 355 1 [a0, some (.ref z), a2] (.ref z :: st) M x := Rs_next c355_0 rfl
theorem c355_1 : qx_code 355 1 = some (1, .iconst 0, 2, 0, 0, 0) := by decide +kernel
theorem s355_1 {L : Nat} {xs : Nat → Int32} {d x : Nat} {M : qxM} {st : List Value} {ls : qxL} : Rs L xs (d) 355 1 ls st M x = Rs L xs (d) 355 2 ls (.int (nI 0) :: st) M x := Rs_next c355_1 rfl
theorem c355_2 : qx_code 355 2 = some (2, .aload_n 0, 3, 0, 0, 0) := by decide +kernel
theorem s355_2 {L : Nat} {xs : Nat → Int32} {d x : Nat} {M : qxM} {st : List Value} {a1 a2 : Option Value} {z : Nat} : Rs L xs (d) 355 2 [some (.ref z), a1, a2] st M x = Rs L xs (d) 355 3 [some (.ref z), a1, a2] (.ref z :: st) M x := Rs_next c355_2 rfl
theorem c355_3 : qx_code 355 3 = some (3, .invokevirtual 81, 6, 119, 1, 1038) := by decide +kernel
theorem s355_3 {L : Nat} {xs : Nat → Int32} {d x : Nat} {M : qxM} {st : List Value} {ls : qxL} {t : Nat} (hk : qx_kd t = 17) (hs : st.length ≤ 4) : Rs L xs (d + 1) 355 3 ls (.ref t :: st) M x = (Rs L xs d 119 0 [some (.ref t)] [] M 0).bind (qx_kn L xs (d + 1) 355 3 6 119 ls st x) := by
  have h1 : qx_act L xs (qx_rt 355) (3, .invokevirtual 81, 6, 119, 1, 1038) ls (.ref t :: st) M = if 1 ≤ (.ref t :: st).length ∧ st.length ≤ 4 then some (.inr (.inr (.inr (119, [.ref t], st)))) else none := rfl
  rw [if_pos ⟨by simp [List.length_cons]; try omega, hs⟩] at h1
  have h2 := qx_kd_obj (k := 7) (by decide) hk
  exact Rs_call c355_3 h1 (by rw [show qx_args 119 [.ref t] = decide (qx_sh t = some (.inl 7)) from rfl]; exact decide_eq_true h2)
theorem c355_6 : qx_code 355 6 = some (6, .i2l, 7, 0, 0, 0) := by decide +kernel
theorem s355_6 {L : Nat} {xs : Nat → Int32} {d x : Nat} {M : qxM} {st : List Value} {ls : qxL} {z : Int32} : Rs L xs (d) 355 6 ls (.int z :: st) M x = Rs L xs (d) 355 7 ls (.long z.toInt64 :: st) M x := Rs_next c355_6 rfl
theorem c355_7 : qx_code 355 7 = some (7, .lastore, 8, 0, 0, 0) := by decide +kernel
theorem s355_7 {L : Nat} {xs : Nat → Int32} {d x : Nat} {M : qxM} {st : List Value} {ls : qxL} {t : Nat} {j : Int32} {z : Int64} (hk : qx_kd t = 4) (hj : qx_ib j (qx_ln t) = true) : Rs L xs (d) 355 7 ls (.long z :: .int j :: .ref t :: st) M x = Rs L xs (d) 355 8 ls st ((M.1, vp_updL M.2.1 j.toNatClampNeg z, M.2.2)) x := by
  have h1 := qx_kd_row (k := 4) (by decide) hk
  exact Rs_unless (qx_ib_not hj) c355_7 (by unfold qx_act; dsimp only; rw [h1]; rfl)
theorem c355_8 : qx_code 355 8 = some (8, .goto 6, 11, 14, 0, 0) := by decide +kernel
theorem s355_8 {L : Nat} {xs : Nat → Int32} {d x : Nat} {M : qxM} {st : List Value} {ls : qxL} : Rs L xs (d) 355 8 ls st M x = Rs L xs (d) 355 14 ls st M x := Rs_next c355_8 rfl
theorem c355_11 : qx_code 355 11 = some (11, .astore_n 2, 12, 0, 0, 0) := by decide +kernel
theorem s355_11i {L : Nat} {xs : Nat → Int32} {d x : Nat} {M : qxM} {st : List Value} {a0 a2 : Option Value} {z : Nat} {y : Int32} : Rs L xs (d) 355 11 [a0, some (.int y), a2] (.ref z :: st) M x = Rs L xs (d) 355 12 [a0, some (.int y), some (.ref z)] st M x := Rs_next c355_11 rfl
theorem s355_11r {L : Nat} {xs : Nat → Int32} {d x : Nat} {M : qxM} {st : List Value} {a0 a2 : Option Value} {z : Nat} {y : Nat} : Rs L xs (d) 355 11 [a0, some (.ref y), a2] (.ref z :: st) M x = Rs L xs (d) 355 12 [a0, some (.ref y), some (.ref z)] st M x := Rs_next c355_11 rfl
theorem s355_11n {L : Nat} {xs : Nat → Int32} {d x : Nat} {M : qxM} {st : List Value} {a0 a2 : Option Value} {z : Nat} : Rs L xs (d) 355 11 [a0, none, a2] (.ref z :: st) M x = Rs L xs (d) 355 12 [a0, none, some (.ref z)] st M x := Rs_next c355_11 rfl
theorem c355_12 : qx_code 355 12 = some (12, .iconst 1, 13, 0, 0, 0) := by decide +kernel
theorem s355_12 {L : Nat} {xs : Nat → Int32} {d x : Nat} {M : qxM} {st : List Value} {ls : qxL} : Rs L xs (d) 355 12 ls st M x = Rs L xs (d) 355 13 ls (.int (nI 1) :: st) M x := Rs_next c355_12 rfl
theorem c355_13 : qx_code 355 13 = some (13, .ireturn, 14, 0, 0, 0) := by decide +kernel
theorem s355_13 {L : Nat} {xs : Nat → Int32} {d x : Nat} {M : qxM} {ls : qxL} {z : Int32} : Rs L xs (d) 355 13 ls [.int z] M x = some (.inl (some (.int z)), M, x) := Rs_ret c355_13 rfl
theorem c355_14 : qx_code 355 14 = some (14, .iconst 0, 15, 0, 0, 0) := by decide +kernel
theorem s355_14 {L : Nat} {xs : Nat → Int32} {d x : Nat} {M : qxM} {st : List Value} {ls : qxL} : Rs L xs (d) 355 14 ls st M x = Rs L xs (d) 355 15 ls (.int (nI 0) :: st) M x := Rs_next c355_14 rfl
theorem c355_15 : qx_code 355 15 = some (15, .ireturn, 16, 0, 0, 0) := by decide +kernel
theorem s355_15 {L : Nat} {xs : Nat → Int32} {d x : Nat} {M : qxM} {ls : qxL} {z : Int32} : Rs L xs (d) 355 15 ls [.int z] M x = some (.inl (some (.int z)), M, x) := Rs_ret c355_15 rfl
theorem c356_0 : qx_code 356 0 = some (0, .aload_n 1, 1, 0, 0, 0) := by decide +kernel
theorem s356_0 {L : Nat} {xs : Nat → Int32} {d x : Nat} {M : qxM} {st : List Value} {a0 a2 : Option Value} {z : Nat} : Rs L xs (d) 356 0 [a0, some (.ref z), a2] st M x = Rs L xs (d) 356 1 [a0, some (.ref z), a2] (.ref z :: st) M x := Rs_next c356_0 rfl
theorem c356_1 : qx_code 356 1 = some (1, .iconst 0, 2, 0, 0, 0) := by decide +kernel
theorem s356_1 {L : Nat} {xs : Nat → Int32} {d x : Nat} {M : qxM} {st : List Value} {ls : qxL} : Rs L xs (d) 356 1 ls st M x = Rs L xs (d) 356 2 ls (.int (nI 0) :: st) M x := Rs_next c356_1 rfl
theorem c356_2 : qx_code 356 2 = some (2, .aload_n 0, 3, 0, 0, 0) := by decide +kernel
theorem s356_2 {L : Nat} {xs : Nat → Int32} {d x : Nat} {M : qxM} {st : List Value} {a1 a2 : Option Value} {z : Nat} : Rs L xs (d) 356 2 [some (.ref z), a1, a2] st M x = Rs L xs (d) 356 3 [some (.ref z), a1, a2] (.ref z :: st) M x := Rs_next c356_2 rfl
theorem c356_3 : qx_code 356 3 = some (3, .invokevirtual 84, 6, 120, 1, 1057) := by decide +kernel
theorem s356_3 {L : Nat} {xs : Nat → Int32} {d x : Nat} {M : qxM} {st : List Value} {ls : qxL} {t : Nat} (hk : qx_kd t = 17) (hs : st.length ≤ 4) : Rs L xs (d + 1) 356 3 ls (.ref t :: st) M x = (Rs L xs d 120 0 [some (.ref t), none] [] M 0).bind (qx_kn L xs (d + 1) 356 3 6 120 ls st x) := by
  have h1 : qx_act L xs (qx_rt 356) (3, .invokevirtual 84, 6, 120, 1, 1057) ls (.ref t :: st) M = if 1 ≤ (.ref t :: st).length ∧ st.length ≤ 4 then some (.inr (.inr (.inr (120, [.ref t], st)))) else none := rfl
  rw [if_pos ⟨by simp [List.length_cons]; try omega, hs⟩] at h1
  have h2 := qx_kd_obj (k := 7) (by decide) hk
  exact Rs_call c356_3 h1 (by rw [show qx_args 120 [.ref t] = decide (qx_sh t = some (.inl 7)) from rfl]; exact decide_eq_true h2)
theorem c356_6 : qx_code 356 6 = some (6, .i2l, 7, 0, 0, 0) := by decide +kernel
theorem s356_6 {L : Nat} {xs : Nat → Int32} {d x : Nat} {M : qxM} {st : List Value} {ls : qxL} {z : Int32} : Rs L xs (d) 356 6 ls (.int z :: st) M x = Rs L xs (d) 356 7 ls (.long z.toInt64 :: st) M x := Rs_next c356_6 rfl
theorem c356_7 : qx_code 356 7 = some (7, .lastore, 8, 0, 0, 0) := by decide +kernel
theorem s356_7 {L : Nat} {xs : Nat → Int32} {d x : Nat} {M : qxM} {st : List Value} {ls : qxL} {t : Nat} {j : Int32} {z : Int64} (hk : qx_kd t = 4) (hj : qx_ib j (qx_ln t) = true) : Rs L xs (d) 356 7 ls (.long z :: .int j :: .ref t :: st) M x = Rs L xs (d) 356 8 ls st ((M.1, vp_updL M.2.1 j.toNatClampNeg z, M.2.2)) x := by
  have h1 := qx_kd_row (k := 4) (by decide) hk
  exact Rs_unless (qx_ib_not hj) c356_7 (by unfold qx_act; dsimp only; rw [h1]; rfl)
theorem c356_8 : qx_code 356 8 = some (8, .goto 6, 11, 14, 0, 0) := by decide +kernel
theorem s356_8 {L : Nat} {xs : Nat → Int32} {d x : Nat} {M : qxM} {st : List Value} {ls : qxL} : Rs L xs (d) 356 8 ls st M x = Rs L xs (d) 356 14 ls st M x := Rs_next c356_8 rfl
theorem c356_11 : qx_code 356 11 = some (11, .astore_n 2, 12, 0, 0, 0) := by decide +kernel
theorem s356_11i {L : Nat} {xs : Nat → Int32} {d x : Nat} {M : qxM} {st : List Value} {a0 a2 : Option Value} {z : Nat} {y : Int32} : Rs L xs (d) 356 11 [a0, some (.int y), a2] (.ref z :: st) M x = Rs L xs (d) 356 12 [a0, some (.int y), some (.ref z)] st M x := Rs_next c356_11 rfl
theorem s356_11r {L : Nat} {xs : Nat → Int32} {d x : Nat} {M : qxM} {st : List Value} {a0 a2 : Option Value} {z : Nat} {y : Nat} : Rs L xs (d) 356 11 [a0, some (.ref y), a2] (.ref z :: st) M x = Rs L xs (d) 356 12 [a0, some (.ref y), some (.ref z)] st M x := Rs_next c356_11 rfl
theorem s356_11n {L : Nat} {xs : Nat → Int32} {d x : Nat} {M : qxM} {st : List Value} {a0 a2 : Option Value} {z : Nat} : Rs L xs (d) 356 11 [a0, none, a2] (.ref z :: st) M x = Rs L xs (d) 356 12 [a0, none, some (.ref z)] st M x := Rs_next c356_11 rfl
theorem c356_12 : qx_code 356 12 = some (12, .iconst 1, 13, 0, 0, 0) := by decide +kernel
theorem s356_12 {L : Nat} {xs : Nat → Int32} {d x : Nat} {M : qxM} {st : List Value} {ls : qxL} : Rs L xs (d) 356 12 ls st M x = Rs L xs (d) 356 13 ls (.int (nI 1) :: st) M x := Rs_next c356_12 rfl
theorem c356_13 : qx_code 356 13 = some (13, .ireturn, 14, 0, 0, 0) := by decide +kernel
theorem s356_13 {L : Nat} {xs : Nat → Int32} {d x : Nat} {M : qxM} {ls : qxL} {z : Int32} : Rs L xs (d) 356 13 ls [.int z] M x = some (.inl (some (.int z)), M, x) := Rs_ret c356_13 rfl
theorem c356_14 : qx_code 356 14 = some (14, .iconst 0, 15, 0, 0, 0) := by decide +kernel
theorem s356_14 {L : Nat} {xs : Nat → Int32} {d x : Nat} {M : qxM} {st : List Value} {ls : qxL} : Rs L xs (d) 356 14 ls st M x = Rs L xs (d) 356 15 ls (.int (nI 0) :: st) M x := Rs_next c356_14 rfl
theorem c356_15 : qx_code 356 15 = some (15, .ireturn, 16, 0, 0, 0) := by decide +kernel
theorem s356_15 {L : Nat} {xs : Nat → Int32} {d x : Nat} {M : qxM} {ls : qxL} {z : Int32} : Rs L xs (d) 356 15 ls [.int z] M x = some (.inl (some (.int z)), M, x) := Rs_ret c356_15 rfl
theorem c357_0 : qx_code 357 0 = some (0, .aload_n 1, 1, 0, 0, 0) := by decide +kernel
theorem s357_0 {L : Nat} {xs : Nat → Int32} {d x : Nat} {M : qxM} {st : List Value} {a0 a2 : Option Value} {z : Nat} : Rs L xs (d) 357 0 [a0, some (.ref z), a2] st M x = Rs L xs (d) 357 1 [a0, some (.ref z), a2] (.ref z :: st) M x := Rs_next c357_0 rfl
theorem c357_1 : qx_code 357 1 = some (1, .iconst 0, 2, 0, 0, 0) := by decide +kernel
theorem s357_1 {L : Nat} {xs : Nat → Int32} {d x : Nat} {M : qxM} {st : List Value} {ls : qxL} : Rs L xs (d) 357 1 ls st M x = Rs L xs (d) 357 2 ls (.int (nI 0) :: st) M x := Rs_next c357_1 rfl
theorem c357_2 : qx_code 357 2 = some (2, .aload_n 0, 3, 0, 0, 0) := by decide +kernel
theorem s357_2 {L : Nat} {xs : Nat → Int32} {d x : Nat} {M : qxM} {st : List Value} {a1 a2 : Option Value} {z : Nat} : Rs L xs (d) 357 2 [some (.ref z), a1, a2] st M x = Rs L xs (d) 357 3 [some (.ref z), a1, a2] (.ref z :: st) M x := Rs_next c357_2 rfl
theorem c357_3 : qx_code 357 3 = some (3, .invokevirtual 87, 6, 121, 1, 1068) := by decide +kernel
theorem s357_3 {L : Nat} {xs : Nat → Int32} {d x : Nat} {M : qxM} {st : List Value} {ls : qxL} {t : Nat} (hk : qx_kd t = 17) (hs : st.length ≤ 4) : Rs L xs (d + 1) 357 3 ls (.ref t :: st) M x = (Rs L xs d 121 0 [some (.ref t), none, none] [] M 0).bind (qx_kn L xs (d + 1) 357 3 6 121 ls st x) := by
  have h1 : qx_act L xs (qx_rt 357) (3, .invokevirtual 87, 6, 121, 1, 1068) ls (.ref t :: st) M = if 1 ≤ (.ref t :: st).length ∧ st.length ≤ 4 then some (.inr (.inr (.inr (121, [.ref t], st)))) else none := rfl
  rw [if_pos ⟨by simp [List.length_cons]; try omega, hs⟩] at h1
  have h2 := qx_kd_obj (k := 7) (by decide) hk
  exact Rs_call c357_3 h1 (by rw [show qx_args 121 [.ref t] = decide (qx_sh t = some (.inl 7)) from rfl]; exact decide_eq_true h2)
theorem c357_6 : qx_code 357 6 = some (6, .i2l, 7, 0, 0, 0) := by decide +kernel
theorem s357_6 {L : Nat} {xs : Nat → Int32} {d x : Nat} {M : qxM} {st : List Value} {ls : qxL} {z : Int32} : Rs L xs (d) 357 6 ls (.int z :: st) M x = Rs L xs (d) 357 7 ls (.long z.toInt64 :: st) M x := Rs_next c357_6 rfl
theorem c357_7 : qx_code 357 7 = some (7, .lastore, 8, 0, 0, 0) := by decide +kernel
theorem s357_7 {L : Nat} {xs : Nat → Int32} {d x : Nat} {M : qxM} {st : List Value} {ls : qxL} {t : Nat} {j : Int32} {z : Int64} (hk : qx_kd t = 4) (hj : qx_ib j (qx_ln t) = true) : Rs L xs (d) 357 7 ls (.long z :: .int j :: .ref t :: st) M x = Rs L xs (d) 357 8 ls st ((M.1, vp_updL M.2.1 j.toNatClampNeg z, M.2.2)) x := by
  have h1 := qx_kd_row (k := 4) (by decide) hk
  exact Rs_unless (qx_ib_not hj) c357_7 (by unfold qx_act; dsimp only; rw [h1]; rfl)
theorem c357_8 : qx_code 357 8 = some (8, .goto 6, 11, 14, 0, 0) := by decide +kernel
theorem s357_8 {L : Nat} {xs : Nat → Int32} {d x : Nat} {M : qxM} {st : List Value} {ls : qxL} : Rs L xs (d) 357 8 ls st M x = Rs L xs (d) 357 14 ls st M x := Rs_next c357_8 rfl
theorem c357_11 : qx_code 357 11 = some (11, .astore_n 2, 12, 0, 0, 0) := by decide +kernel
theorem s357_11i {L : Nat} {xs : Nat → Int32} {d x : Nat} {M : qxM} {st : List Value} {a0 a2 : Option Value} {z : Nat} {y : Int32} : Rs L xs (d) 357 11 [a0, some (.int y), a2] (.ref z :: st) M x = Rs L xs (d) 357 12 [a0, some (.int y), some (.ref z)] st M x := Rs_next c357_11 rfl
theorem s357_11r {L : Nat} {xs : Nat → Int32} {d x : Nat} {M : qxM} {st : List Value} {a0 a2 : Option Value} {z : Nat} {y : Nat} : Rs L xs (d) 357 11 [a0, some (.ref y), a2] (.ref z :: st) M x = Rs L xs (d) 357 12 [a0, some (.ref y), some (.ref z)] st M x := Rs_next c357_11 rfl
theorem s357_11n {L : Nat} {xs : Nat → Int32} {d x : Nat} {M : qxM} {st : List Value} {a0 a2 : Option Value} {z : Nat} : Rs L xs (d) 357 11 [a0, none, a2] (.ref z :: st) M x = Rs L xs (d) 357 12 [a0, none, some (.ref z)] st M x := Rs_next c357_11 rfl
theorem c357_12 : qx_code 357 12 = some (12, .iconst 1, 13, 0, 0, 0) := by decide +kernel
theorem s357_12 {L : Nat} {xs : Nat → Int32} {d x : Nat} {M : qxM} {st : List Value} {ls : qxL} : Rs L xs (d) 357 12 ls st M x = Rs L xs (d) 357 13 ls (.int (nI 1) :: st) M x := Rs_next c357_12 rfl
theorem c357_13 : qx_code 357 13 = some (13, .ireturn, 14, 0, 0, 0) := by decide +kernel
theorem s357_13 {L : Nat} {xs : Nat → Int32} {d x : Nat} {M : qxM} {ls : qxL} {z : Int32} : Rs L xs (d) 357 13 ls [.int z] M x = some (.inl (some (.int z)), M, x) := Rs_ret c357_13 rfl
theorem c357_14 : qx_code 357 14 = some (14, .iconst 0, 15, 0, 0, 0) := by decide +kernel
theorem s357_14 {L : Nat} {xs : Nat → Int32} {d x : Nat} {M : qxM} {st : List Value} {ls : qxL} : Rs L xs (d) 357 14 ls st M x = Rs L xs (d) 357 15 ls (.int (nI 0) :: st) M x := Rs_next c357_14 rfl
theorem c357_15 : qx_code 357 15 = some (15, .ireturn, 16, 0, 0, 0) := by decide +kernel
theorem s357_15 {L : Nat} {xs : Nat → Int32} {d x : Nat} {M : qxM} {ls : qxL} {z : Int32} : Rs L xs (d) 357 15 ls [.int z] M x = some (.inl (some (.int z)), M, x) := Rs_ret c357_15 rfl
theorem c358_0 : qx_code 358 0 = some (0, .aload_n 1, 1, 0, 0, 0) := by decide +kernel
theorem s358_0 {L : Nat} {xs : Nat → Int32} {d x : Nat} {M : qxM} {st : List Value} {a0 a2 : Option Value} {z : Nat} : Rs L xs (d) 358 0 [a0, some (.ref z), a2] st M x = Rs L xs (d) 358 1 [a0, some (.ref z), a2] (.ref z :: st) M x := Rs_next c358_0 rfl
theorem c358_1 : qx_code 358 1 = some (1, .iconst 0, 2, 0, 0, 0) := by decide +kernel
theorem s358_1 {L : Nat} {xs : Nat → Int32} {d x : Nat} {M : qxM} {st : List Value} {ls : qxL} : Rs L xs (d) 358 1 ls st M x = Rs L xs (d) 358 2 ls (.int (nI 0) :: st) M x := Rs_next c358_1 rfl
theorem c358_2 : qx_code 358 2 = some (2, .aload_n 0, 3, 0, 0, 0) := by decide +kernel
theorem s358_2 {L : Nat} {xs : Nat → Int32} {d x : Nat} {M : qxM} {st : List Value} {a1 a2 : Option Value} {z : Nat} : Rs L xs (d) 358 2 [some (.ref z), a1, a2] st M x = Rs L xs (d) 358 3 [some (.ref z), a1, a2] (.ref z :: st) M x := Rs_next c358_2 rfl
theorem c358_3 : qx_code 358 3 = some (3, .invokevirtual 90, 6, 122, 1, 1076) := by decide +kernel
theorem s358_3 {L : Nat} {xs : Nat → Int32} {d x : Nat} {M : qxM} {st : List Value} {ls : qxL} {t : Nat} (hk : qx_kd t = 17) (hs : st.length ≤ 4) : Rs L xs (d + 1) 358 3 ls (.ref t :: st) M x = (Rs L xs d 122 0 [some (.ref t), none] [] M 0).bind (qx_kn L xs (d + 1) 358 3 6 122 ls st x) := by
  have h1 : qx_act L xs (qx_rt 358) (3, .invokevirtual 90, 6, 122, 1, 1076) ls (.ref t :: st) M = if 1 ≤ (.ref t :: st).length ∧ st.length ≤ 4 then some (.inr (.inr (.inr (122, [.ref t], st)))) else none := rfl
  rw [if_pos ⟨by simp [List.length_cons]; try omega, hs⟩] at h1
  have h2 := qx_kd_obj (k := 7) (by decide) hk
  exact Rs_call c358_3 h1 (by rw [show qx_args 122 [.ref t] = decide (qx_sh t = some (.inl 7)) from rfl]; exact decide_eq_true h2)
theorem c358_6 : qx_code 358 6 = some (6, .i2l, 7, 0, 0, 0) := by decide +kernel
theorem s358_6 {L : Nat} {xs : Nat → Int32} {d x : Nat} {M : qxM} {st : List Value} {ls : qxL} {z : Int32} : Rs L xs (d) 358 6 ls (.int z :: st) M x = Rs L xs (d) 358 7 ls (.long z.toInt64 :: st) M x := Rs_next c358_6 rfl
theorem c358_7 : qx_code 358 7 = some (7, .lastore, 8, 0, 0, 0) := by decide +kernel
theorem s358_7 {L : Nat} {xs : Nat → Int32} {d x : Nat} {M : qxM} {st : List Value} {ls : qxL} {t : Nat} {j : Int32} {z : Int64} (hk : qx_kd t = 4) (hj : qx_ib j (qx_ln t) = true) : Rs L xs (d) 358 7 ls (.long z :: .int j :: .ref t :: st) M x = Rs L xs (d) 358 8 ls st ((M.1, vp_updL M.2.1 j.toNatClampNeg z, M.2.2)) x := by
  have h1 := qx_kd_row (k := 4) (by decide) hk
  exact Rs_unless (qx_ib_not hj) c358_7 (by unfold qx_act; dsimp only; rw [h1]; rfl)
theorem c358_8 : qx_code 358 8 = some (8, .goto 6, 11, 14, 0, 0) := by decide +kernel
theorem s358_8 {L : Nat} {xs : Nat → Int32} {d x : Nat} {M : qxM} {st : List Value} {ls : qxL} : Rs L xs (d) 358 8 ls st M x = Rs L xs (d) 358 14 ls st M x := Rs_next c358_8 rfl
theorem c358_11 : qx_code 358 11 = some (11, .astore_n 2, 12, 0, 0, 0) := by decide +kernel
theorem s358_11i {L : Nat} {xs : Nat → Int32} {d x : Nat} {M : qxM} {st : List Value} {a0 a2 : Option Value} {z : Nat} {y : Int32} : Rs L xs (d) 358 11 [a0, some (.int y), a2] (.ref z :: st) M x = Rs L xs (d) 358 12 [a0, some (.int y), some (.ref z)] st M x := Rs_next c358_11 rfl
theorem s358_11r {L : Nat} {xs : Nat → Int32} {d x : Nat} {M : qxM} {st : List Value} {a0 a2 : Option Value} {z : Nat} {y : Nat} : Rs L xs (d) 358 11 [a0, some (.ref y), a2] (.ref z :: st) M x = Rs L xs (d) 358 12 [a0, some (.ref y), some (.ref z)] st M x := Rs_next c358_11 rfl
theorem s358_11n {L : Nat} {xs : Nat → Int32} {d x : Nat} {M : qxM} {st : List Value} {a0 a2 : Option Value} {z : Nat} : Rs L xs (d) 358 11 [a0, none, a2] (.ref z :: st) M x = Rs L xs (d) 358 12 [a0, none, some (.ref z)] st M x := Rs_next c358_11 rfl
theorem c358_12 : qx_code 358 12 = some (12, .iconst 1, 13, 0, 0, 0) := by decide +kernel
theorem s358_12 {L : Nat} {xs : Nat → Int32} {d x : Nat} {M : qxM} {st : List Value} {ls : qxL} : Rs L xs (d) 358 12 ls st M x = Rs L xs (d) 358 13 ls (.int (nI 1) :: st) M x := Rs_next c358_12 rfl
theorem c358_13 : qx_code 358 13 = some (13, .ireturn, 14, 0, 0, 0) := by decide +kernel
theorem s358_13 {L : Nat} {xs : Nat → Int32} {d x : Nat} {M : qxM} {ls : qxL} {z : Int32} : Rs L xs (d) 358 13 ls [.int z] M x = some (.inl (some (.int z)), M, x) := Rs_ret c358_13 rfl
theorem c358_14 : qx_code 358 14 = some (14, .iconst 0, 15, 0, 0, 0) := by decide +kernel
theorem s358_14 {L : Nat} {xs : Nat → Int32} {d x : Nat} {M : qxM} {st : List Value} {ls : qxL} : Rs L xs (d) 358 14 ls st M x = Rs L xs (d) 358 15 ls (.int (nI 0) :: st) M x := Rs_next c358_14 rfl
theorem c358_15 : qx_code 358 15 = some (15, .ireturn, 16, 0, 0, 0) := by decide +kernel
theorem s358_15 {L : Nat} {xs : Nat → Int32} {d x : Nat} {M : qxM} {ls : qxL} {z : Int32} : Rs L xs (d) 358 15 ls [.int z] M x = some (.inl (some (.int z)), M, x) := Rs_ret c358_15 rfl
theorem c359_0 : qx_code 359 0 = some (0, .aload_n 2, 1, 0, 0, 0) := by decide +kernel
theorem s359_0 {L : Nat} {xs : Nat → Int32} {d x : Nat} {M : qxM} {st : List Value} {a0 a1 a3 : Option Value} {z : Nat} : Rs L xs (d) 359 0 [a0, a1, some (.ref z), a3] st M x = Rs L xs (d) 359 1 [a0, a1, some (.ref z), a3] (.ref z :: st) M x := Rs_next c359_0 rfl
theorem c359_1 : qx_code 359 1 = some (1, .iconst 0, 2, 0, 0, 0) := by decide +kernel
theorem s359_1 {L : Nat} {xs : Nat → Int32} {d x : Nat} {M : qxM} {st : List Value} {ls : qxL} : Rs L xs (d) 359 1 ls st M x = Rs L xs (d) 359 2 ls (.int (nI 0) :: st) M x := Rs_next c359_1 rfl
theorem c359_2 : qx_code 359 2 = some (2, .aload_n 0, 3, 0, 0, 0) := by decide +kernel
theorem s359_2 {L : Nat} {xs : Nat → Int32} {d x : Nat} {M : qxM} {st : List Value} {a1 a2 a3 : Option Value} {z : Nat} : Rs L xs (d) 359 2 [some (.ref z), a1, a2, a3] st M x = Rs L xs (d) 359 3 [some (.ref z), a1, a2, a3] (.ref z :: st) M x := Rs_next c359_2 rfl
theorem c359_3 : qx_code 359 3 = some (3, .iload_n 1, 4, 0, 0, 0) := by decide +kernel
theorem s359_3 {L : Nat} {xs : Nat → Int32} {d x : Nat} {M : qxM} {st : List Value} {a0 a2 a3 : Option Value} {z : Int32} : Rs L xs (d) 359 3 [a0, some (.int z), a2, a3] st M x = Rs L xs (d) 359 4 [a0, some (.int z), a2, a3] (.int z :: st) M x := Rs_next c359_3 rfl
theorem c359_4 : qx_code 359 4 = some (4, .invokevirtual 93, 7, 123, 2, 1091) := by decide +kernel
theorem s359_4 {L : Nat} {xs : Nat → Int32} {d x : Nat} {M : qxM} {st : List Value} {ls : qxL} {t : Nat} {z0 : Int32} (hk : qx_kd t = 17) (hs : st.length ≤ 4) : Rs L xs (d + 1) 359 4 ls (.int z0 :: .ref t :: st) M x = (Rs L xs d 123 0 [some (.ref t), some (.int z0), none, none, none, none] [] M 0).bind (qx_kn L xs (d + 1) 359 4 7 123 ls st x) := by
  have h1 : qx_act L xs (qx_rt 359) (4, .invokevirtual 93, 7, 123, 2, 1091) ls (.int z0 :: .ref t :: st) M = if 2 ≤ (.int z0 :: .ref t :: st).length ∧ st.length ≤ 4 then some (.inr (.inr (.inr (123, [.ref t, .int z0], st)))) else none := rfl
  rw [if_pos ⟨by simp [List.length_cons]; try omega, hs⟩] at h1
  have h2 := qx_kd_obj (k := 7) (by decide) hk
  exact Rs_call c359_4 h1 (by rw [show qx_args 123 [.ref t, .int z0] = decide (qx_sh t = some (.inl 7)) from rfl]; exact decide_eq_true h2)
theorem c359_7 : qx_code 359 7 = some (7, .i2l, 8, 0, 0, 0) := by decide +kernel
theorem s359_7 {L : Nat} {xs : Nat → Int32} {d x : Nat} {M : qxM} {st : List Value} {ls : qxL} {z : Int32} : Rs L xs (d) 359 7 ls (.int z :: st) M x = Rs L xs (d) 359 8 ls (.long z.toInt64 :: st) M x := Rs_next c359_7 rfl
theorem c359_8 : qx_code 359 8 = some (8, .lastore, 9, 0, 0, 0) := by decide +kernel
theorem s359_8 {L : Nat} {xs : Nat → Int32} {d x : Nat} {M : qxM} {st : List Value} {ls : qxL} {t : Nat} {j : Int32} {z : Int64} (hk : qx_kd t = 4) (hj : qx_ib j (qx_ln t) = true) : Rs L xs (d) 359 8 ls (.long z :: .int j :: .ref t :: st) M x = Rs L xs (d) 359 9 ls st ((M.1, vp_updL M.2.1 j.toNatClampNeg z, M.2.2)) x := by
  have h1 := qx_kd_row (k := 4) (by decide) hk
  exact Rs_unless (qx_ib_not hj) c359_8 (by unfold qx_act; dsimp only; rw [h1]; rfl)
theorem c359_9 : qx_code 359 9 = some (9, .goto 6, 12, 15, 0, 0) := by decide +kernel
theorem s359_9 {L : Nat} {xs : Nat → Int32} {d x : Nat} {M : qxM} {st : List Value} {ls : qxL} : Rs L xs (d) 359 9 ls st M x = Rs L xs (d) 359 15 ls st M x := Rs_next c359_9 rfl
theorem c359_12 : qx_code 359 12 = some (12, .astore_n 3, 13, 0, 0, 0) := by decide +kernel
theorem s359_12i {L : Nat} {xs : Nat → Int32} {d x : Nat} {M : qxM} {st : List Value} {a0 a1 a3 : Option Value} {z : Nat} {y : Int32} : Rs L xs (d) 359 12 [a0, a1, some (.int y), a3] (.ref z :: st) M x = Rs L xs (d) 359 13 [a0, a1, some (.int y), some (.ref z)] st M x := Rs_next c359_12 rfl
theorem s359_12r {L : Nat} {xs : Nat → Int32} {d x : Nat} {M : qxM} {st : List Value} {a0 a1 a3 : Option Value} {z : Nat} {y : Nat} : Rs L xs (d) 359 12 [a0, a1, some (.ref y), a3] (.ref z :: st) M x = Rs L xs (d) 359 13 [a0, a1, some (.ref y), some (.ref z)] st M x := Rs_next c359_12 rfl
theorem s359_12n {L : Nat} {xs : Nat → Int32} {d x : Nat} {M : qxM} {st : List Value} {a0 a1 a3 : Option Value} {z : Nat} : Rs L xs (d) 359 12 [a0, a1, none, a3] (.ref z :: st) M x = Rs L xs (d) 359 13 [a0, a1, none, some (.ref z)] st M x := Rs_next c359_12 rfl
theorem c359_13 : qx_code 359 13 = some (13, .iconst 1, 14, 0, 0, 0) := by decide +kernel
theorem s359_13 {L : Nat} {xs : Nat → Int32} {d x : Nat} {M : qxM} {st : List Value} {ls : qxL} : Rs L xs (d) 359 13 ls st M x = Rs L xs (d) 359 14 ls (.int (nI 1) :: st) M x := Rs_next c359_13 rfl
theorem c359_14 : qx_code 359 14 = some (14, .ireturn, 15, 0, 0, 0) := by decide +kernel
theorem s359_14 {L : Nat} {xs : Nat → Int32} {d x : Nat} {M : qxM} {ls : qxL} {z : Int32} : Rs L xs (d) 359 14 ls [.int z] M x = some (.inl (some (.int z)), M, x) := Rs_ret c359_14 rfl
theorem c359_15 : qx_code 359 15 = some (15, .iconst 0, 16, 0, 0, 0) := by decide +kernel
theorem s359_15 {L : Nat} {xs : Nat → Int32} {d x : Nat} {M : qxM} {st : List Value} {ls : qxL} : Rs L xs (d) 359 15 ls st M x = Rs L xs (d) 359 16 ls (.int (nI 0) :: st) M x := Rs_next c359_15 rfl
theorem c359_16 : qx_code 359 16 = some (16, .ireturn, 17, 0, 0, 0) := by decide +kernel
theorem s359_16 {L : Nat} {xs : Nat → Int32} {d x : Nat} {M : qxM} {ls : qxL} {z : Int32} : Rs L xs (d) 359 16 ls [.int z] M x = some (.inl (some (.int z)), M, x) := Rs_ret c359_16 rfl
theorem c360_0 : qx_code 360 0 = some (0, .aload_n 1, 1, 0, 0, 0) := by decide +kernel
theorem s360_0 {L : Nat} {xs : Nat → Int32} {d x : Nat} {M : qxM} {st : List Value} {a0 a2 : Option Value} {z : Nat} : Rs L xs (d) 360 0 [a0, some (.ref z), a2] st M x = Rs L xs (d) 360 1 [a0, some (.ref z), a2] (.ref z :: st) M x := Rs_next c360_0 rfl
theorem c360_1 : qx_code 360 1 = some (1, .iconst 0, 2, 0, 0, 0) := by decide +kernel
theorem s360_1 {L : Nat} {xs : Nat → Int32} {d x : Nat} {M : qxM} {st : List Value} {ls : qxL} : Rs L xs (d) 360 1 ls st M x = Rs L xs (d) 360 2 ls (.int (nI 0) :: st) M x := Rs_next c360_1 rfl
theorem c360_2 : qx_code 360 2 = some (2, .aload_n 0, 3, 0, 0, 0) := by decide +kernel
theorem s360_2 {L : Nat} {xs : Nat → Int32} {d x : Nat} {M : qxM} {st : List Value} {a1 a2 : Option Value} {z : Nat} : Rs L xs (d) 360 2 [some (.ref z), a1, a2] st M x = Rs L xs (d) 360 3 [some (.ref z), a1, a2] (.ref z :: st) M x := Rs_next c360_2 rfl
theorem c360_3 : qx_code 360 3 = some (3, .invokevirtual 96, 6, 124, 1, 1099) := by decide +kernel
theorem s360_3 {L : Nat} {xs : Nat → Int32} {d x : Nat} {M : qxM} {st : List Value} {ls : qxL} {t : Nat} (hk : qx_kd t = 17) (hs : st.length ≤ 4) : Rs L xs (d + 1) 360 3 ls (.ref t :: st) M x = (Rs L xs d 124 0 [some (.ref t), none, none, none] [] M 0).bind (qx_kn L xs (d + 1) 360 3 6 124 ls st x) := by
  have h1 : qx_act L xs (qx_rt 360) (3, .invokevirtual 96, 6, 124, 1, 1099) ls (.ref t :: st) M = if 1 ≤ (.ref t :: st).length ∧ st.length ≤ 4 then some (.inr (.inr (.inr (124, [.ref t], st)))) else none := rfl
  rw [if_pos ⟨by simp [List.length_cons]; try omega, hs⟩] at h1
  have h2 := qx_kd_obj (k := 7) (by decide) hk
  exact Rs_call c360_3 h1 (by rw [show qx_args 124 [.ref t] = decide (qx_sh t = some (.inl 7)) from rfl]; exact decide_eq_true h2)
theorem c360_6 : qx_code 360 6 = some (6, .i2l, 7, 0, 0, 0) := by decide +kernel
theorem s360_6 {L : Nat} {xs : Nat → Int32} {d x : Nat} {M : qxM} {st : List Value} {ls : qxL} {z : Int32} : Rs L xs (d) 360 6 ls (.int z :: st) M x = Rs L xs (d) 360 7 ls (.long z.toInt64 :: st) M x := Rs_next c360_6 rfl
theorem c360_7 : qx_code 360 7 = some (7, .lastore, 8, 0, 0, 0) := by decide +kernel
theorem s360_7 {L : Nat} {xs : Nat → Int32} {d x : Nat} {M : qxM} {st : List Value} {ls : qxL} {t : Nat} {j : Int32} {z : Int64} (hk : qx_kd t = 4) (hj : qx_ib j (qx_ln t) = true) : Rs L xs (d) 360 7 ls (.long z :: .int j :: .ref t :: st) M x = Rs L xs (d) 360 8 ls st ((M.1, vp_updL M.2.1 j.toNatClampNeg z, M.2.2)) x := by
  have h1 := qx_kd_row (k := 4) (by decide) hk
  exact Rs_unless (qx_ib_not hj) c360_7 (by unfold qx_act; dsimp only; rw [h1]; rfl)
theorem c360_8 : qx_code 360 8 = some (8, .goto 6, 11, 14, 0, 0) := by decide +kernel
theorem s360_8 {L : Nat} {xs : Nat → Int32} {d x : Nat} {M : qxM} {st : List Value} {ls : qxL} : Rs L xs (d) 360 8 ls st M x = Rs L xs (d) 360 14 ls st M x := Rs_next c360_8 rfl
theorem c360_11 : qx_code 360 11 = some (11, .astore_n 2, 12, 0, 0, 0) := by decide +kernel
theorem s360_11i {L : Nat} {xs : Nat → Int32} {d x : Nat} {M : qxM} {st : List Value} {a0 a2 : Option Value} {z : Nat} {y : Int32} : Rs L xs (d) 360 11 [a0, some (.int y), a2] (.ref z :: st) M x = Rs L xs (d) 360 12 [a0, some (.int y), some (.ref z)] st M x := Rs_next c360_11 rfl
theorem s360_11r {L : Nat} {xs : Nat → Int32} {d x : Nat} {M : qxM} {st : List Value} {a0 a2 : Option Value} {z : Nat} {y : Nat} : Rs L xs (d) 360 11 [a0, some (.ref y), a2] (.ref z :: st) M x = Rs L xs (d) 360 12 [a0, some (.ref y), some (.ref z)] st M x := Rs_next c360_11 rfl
theorem s360_11n {L : Nat} {xs : Nat → Int32} {d x : Nat} {M : qxM} {st : List Value} {a0 a2 : Option Value} {z : Nat} : Rs L xs (d) 360 11 [a0, none, a2] (.ref z :: st) M x = Rs L xs (d) 360 12 [a0, none, some (.ref z)] st M x := Rs_next c360_11 rfl
theorem c360_12 : qx_code 360 12 = some (12, .iconst 1, 13, 0, 0, 0) := by decide +kernel
theorem s360_12 {L : Nat} {xs : Nat → Int32} {d x : Nat} {M : qxM} {st : List Value} {ls : qxL} : Rs L xs (d) 360 12 ls st M x = Rs L xs (d) 360 13 ls (.int (nI 1) :: st) M x := Rs_next c360_12 rfl
theorem c360_13 : qx_code 360 13 = some (13, .ireturn, 14, 0, 0, 0) := by decide +kernel
theorem s360_13 {L : Nat} {xs : Nat → Int32} {d x : Nat} {M : qxM} {ls : qxL} {z : Int32} : Rs L xs (d) 360 13 ls [.int z] M x = some (.inl (some (.int z)), M, x) := Rs_ret c360_13 rfl
theorem c360_14 : qx_code 360 14 = some (14, .iconst 0, 15, 0, 0, 0) := by decide +kernel
theorem s360_14 {L : Nat} {xs : Nat → Int32} {d x : Nat} {M : qxM} {st : List Value} {ls : qxL} : Rs L xs (d) 360 14 ls st M x = Rs L xs (d) 360 15 ls (.int (nI 0) :: st) M x := Rs_next c360_14 rfl
theorem c360_15 : qx_code 360 15 = some (15, .ireturn, 16, 0, 0, 0) := by decide +kernel
theorem s360_15 {L : Nat} {xs : Nat → Int32} {d x : Nat} {M : qxM} {ls : qxL} {z : Int32} : Rs L xs (d) 360 15 ls [.int z] M x = some (.inl (some (.int z)), M, x) := Rs_ret c360_15 rfl
theorem c361_0 : qx_code 361 0 = some (0, .aload_n 2, 1, 0, 0, 0) := by decide +kernel
theorem s361_0 {L : Nat} {xs : Nat → Int32} {d x : Nat} {M : qxM} {st : List Value} {a0 a1 a3 : Option Value} {z : Nat} : Rs L xs (d) 361 0 [a0, a1, some (.ref z), a3] st M x = Rs L xs (d) 361 1 [a0, a1, some (.ref z), a3] (.ref z :: st) M x := Rs_next c361_0 rfl
theorem c361_1 : qx_code 361 1 = some (1, .iconst 0, 2, 0, 0, 0) := by decide +kernel
theorem s361_1 {L : Nat} {xs : Nat → Int32} {d x : Nat} {M : qxM} {st : List Value} {ls : qxL} : Rs L xs (d) 361 1 ls st M x = Rs L xs (d) 361 2 ls (.int (nI 0) :: st) M x := Rs_next c361_1 rfl
theorem c361_2 : qx_code 361 2 = some (2, .aload_n 0, 3, 0, 0, 0) := by decide +kernel
theorem s361_2 {L : Nat} {xs : Nat → Int32} {d x : Nat} {M : qxM} {st : List Value} {a1 a2 a3 : Option Value} {z : Nat} : Rs L xs (d) 361 2 [some (.ref z), a1, a2, a3] st M x = Rs L xs (d) 361 3 [some (.ref z), a1, a2, a3] (.ref z :: st) M x := Rs_next c361_2 rfl
theorem c361_3 : qx_code 361 3 = some (3, .iload_n 1, 4, 0, 0, 0) := by decide +kernel
theorem s361_3 {L : Nat} {xs : Nat → Int32} {d x : Nat} {M : qxM} {st : List Value} {a0 a2 a3 : Option Value} {z : Int32} : Rs L xs (d) 361 3 [a0, some (.int z), a2, a3] st M x = Rs L xs (d) 361 4 [a0, some (.int z), a2, a3] (.int z :: st) M x := Rs_next c361_3 rfl
theorem c361_4 : qx_code 361 4 = some (4, .invokevirtual 99, 7, 125, 2, 1106) := by decide +kernel
theorem s361_4 {L : Nat} {xs : Nat → Int32} {d x : Nat} {M : qxM} {st : List Value} {ls : qxL} {t : Nat} {z0 : Int32} (hk : qx_kd t = 17) (hs : st.length ≤ 4) : Rs L xs (d + 1) 361 4 ls (.int z0 :: .ref t :: st) M x = (Rs L xs d 125 0 [some (.ref t), some (.int z0)] [] M 0).bind (qx_kn L xs (d + 1) 361 4 7 125 ls st x) := by
  have h1 : qx_act L xs (qx_rt 361) (4, .invokevirtual 99, 7, 125, 2, 1106) ls (.int z0 :: .ref t :: st) M = if 2 ≤ (.int z0 :: .ref t :: st).length ∧ st.length ≤ 4 then some (.inr (.inr (.inr (125, [.ref t, .int z0], st)))) else none := rfl
  rw [if_pos ⟨by simp [List.length_cons]; try omega, hs⟩] at h1
  have h2 := qx_kd_obj (k := 7) (by decide) hk
  exact Rs_call c361_4 h1 (by rw [show qx_args 125 [.ref t, .int z0] = decide (qx_sh t = some (.inl 7)) from rfl]; exact decide_eq_true h2)
theorem c361_7 : qx_code 361 7 = some (7, .i2l, 8, 0, 0, 0) := by decide +kernel
theorem s361_7 {L : Nat} {xs : Nat → Int32} {d x : Nat} {M : qxM} {st : List Value} {ls : qxL} {z : Int32} : Rs L xs (d) 361 7 ls (.int z :: st) M x = Rs L xs (d) 361 8 ls (.long z.toInt64 :: st) M x := Rs_next c361_7 rfl
theorem c361_8 : qx_code 361 8 = some (8, .lastore, 9, 0, 0, 0) := by decide +kernel
theorem s361_8 {L : Nat} {xs : Nat → Int32} {d x : Nat} {M : qxM} {st : List Value} {ls : qxL} {t : Nat} {j : Int32} {z : Int64} (hk : qx_kd t = 4) (hj : qx_ib j (qx_ln t) = true) : Rs L xs (d) 361 8 ls (.long z :: .int j :: .ref t :: st) M x = Rs L xs (d) 361 9 ls st ((M.1, vp_updL M.2.1 j.toNatClampNeg z, M.2.2)) x := by
  have h1 := qx_kd_row (k := 4) (by decide) hk
  exact Rs_unless (qx_ib_not hj) c361_8 (by unfold qx_act; dsimp only; rw [h1]; rfl)
theorem c361_9 : qx_code 361 9 = some (9, .goto 9, 12, 18, 0, 0) := by decide +kernel
theorem s361_9 {L : Nat} {xs : Nat → Int32} {d x : Nat} {M : qxM} {st : List Value} {ls : qxL} : Rs L xs (d) 361 9 ls st M x = Rs L xs (d) 361 18 ls st M x := Rs_next c361_9 rfl
theorem c361_12 : qx_code 361 12 = some (12, .astore_n 3, 13, 0, 0, 0) := by decide +kernel
theorem s361_12i {L : Nat} {xs : Nat → Int32} {d x : Nat} {M : qxM} {st : List Value} {a0 a1 a3 : Option Value} {z : Nat} {y : Int32} : Rs L xs (d) 361 12 [a0, a1, some (.int y), a3] (.ref z :: st) M x = Rs L xs (d) 361 13 [a0, a1, some (.int y), some (.ref z)] st M x := Rs_next c361_12 rfl
theorem s361_12r {L : Nat} {xs : Nat → Int32} {d x : Nat} {M : qxM} {st : List Value} {a0 a1 a3 : Option Value} {z : Nat} {y : Nat} : Rs L xs (d) 361 12 [a0, a1, some (.ref y), a3] (.ref z :: st) M x = Rs L xs (d) 361 13 [a0, a1, some (.ref y), some (.ref z)] st M x := Rs_next c361_12 rfl
theorem s361_12n {L : Nat} {xs : Nat → Int32} {d x : Nat} {M : qxM} {st : List Value} {a0 a1 a3 : Option Value} {z : Nat} : Rs L xs (d) 361 12 [a0, a1, none, a3] (.ref z :: st) M x = Rs L xs (d) 361 13 [a0, a1, none, some (.ref z)] st M x := Rs_next c361_12 rfl
theorem c361_13 : qx_code 361 13 = some (13, .iconst 1, 14, 0, 0, 0) := by decide +kernel
theorem s361_13 {L : Nat} {xs : Nat → Int32} {d x : Nat} {M : qxM} {st : List Value} {ls : qxL} : Rs L xs (d) 361 13 ls st M x = Rs L xs (d) 361 14 ls (.int (nI 1) :: st) M x := Rs_next c361_13 rfl
theorem c361_14 : qx_code 361 14 = some (14, .ireturn, 15, 0, 0, 0) := by decide +kernel
theorem s361_14 {L : Nat} {xs : Nat → Int32} {d x : Nat} {M : qxM} {ls : qxL} {z : Int32} : Rs L xs (d) 361 14 ls [.int z] M x = some (.inl (some (.int z)), M, x) := Rs_ret c361_14 rfl
theorem c361_15 : qx_code 361 15 = some (15, .astore_n 3, 16, 0, 0, 0) := by decide +kernel
theorem s361_15i {L : Nat} {xs : Nat → Int32} {d x : Nat} {M : qxM} {st : List Value} {a0 a1 a3 : Option Value} {z : Nat} {y : Int32} : Rs L xs (d) 361 15 [a0, a1, some (.int y), a3] (.ref z :: st) M x = Rs L xs (d) 361 16 [a0, a1, some (.int y), some (.ref z)] st M x := Rs_next c361_15 rfl
theorem s361_15r {L : Nat} {xs : Nat → Int32} {d x : Nat} {M : qxM} {st : List Value} {a0 a1 a3 : Option Value} {z : Nat} {y : Nat} : Rs L xs (d) 361 15 [a0, a1, some (.ref y), a3] (.ref z :: st) M x = Rs L xs (d) 361 16 [a0, a1, some (.ref y), some (.ref z)] st M x := Rs_next c361_15 rfl
theorem s361_15n {L : Nat} {xs : Nat → Int32} {d x : Nat} {M : qxM} {st : List Value} {a0 a1 a3 : Option Value} {z : Nat} : Rs L xs (d) 361 15 [a0, a1, none, a3] (.ref z :: st) M x = Rs L xs (d) 361 16 [a0, a1, none, some (.ref z)] st M x := Rs_next c361_15 rfl
theorem c361_16 : qx_code 361 16 = some (16, .iconst 2, 17, 0, 0, 0) := by decide +kernel
theorem s361_16 {L : Nat} {xs : Nat → Int32} {d x : Nat} {M : qxM} {st : List Value} {ls : qxL} : Rs L xs (d) 361 16 ls st M x = Rs L xs (d) 361 17 ls (.int (nI 2) :: st) M x := Rs_next c361_16 rfl
theorem c361_17 : qx_code 361 17 = some (17, .ireturn, 18, 0, 0, 0) := by decide +kernel
theorem s361_17 {L : Nat} {xs : Nat → Int32} {d x : Nat} {M : qxM} {ls : qxL} {z : Int32} : Rs L xs (d) 361 17 ls [.int z] M x = some (.inl (some (.int z)), M, x) := Rs_ret c361_17 rfl
theorem c361_18 : qx_code 361 18 = some (18, .iconst 0, 19, 0, 0, 0) := by decide +kernel
theorem s361_18 {L : Nat} {xs : Nat → Int32} {d x : Nat} {M : qxM} {st : List Value} {ls : qxL} : Rs L xs (d) 361 18 ls st M x = Rs L xs (d) 361 19 ls (.int (nI 0) :: st) M x := Rs_next c361_18 rfl
theorem c361_19 : qx_code 361 19 = some (19, .ireturn, 20, 0, 0, 0) := by decide +kernel
theorem s361_19 {L : Nat} {xs : Nat → Int32} {d x : Nat} {M : qxM} {ls : qxL} {z : Int32} : Rs L xs (d) 361 19 ls [.int z] M x = some (.inl (some (.int z)), M, x) := Rs_ret c361_19 rfl
theorem c362_0 : qx_code 362 0 = some (0, .aload_n 2, 1, 0, 0, 0) := by decide +kernel
theorem s362_0 {L : Nat} {xs : Nat → Int32} {d x : Nat} {M : qxM} {st : List Value} {a0 a1 a3 : Option Value} {z : Nat} : Rs L xs (d) 362 0 [a0, a1, some (.ref z), a3] st M x = Rs L xs (d) 362 1 [a0, a1, some (.ref z), a3] (.ref z :: st) M x := Rs_next c362_0 rfl
theorem c362_1 : qx_code 362 1 = some (1, .iconst 0, 2, 0, 0, 0) := by decide +kernel
theorem s362_1 {L : Nat} {xs : Nat → Int32} {d x : Nat} {M : qxM} {st : List Value} {ls : qxL} : Rs L xs (d) 362 1 ls st M x = Rs L xs (d) 362 2 ls (.int (nI 0) :: st) M x := Rs_next c362_1 rfl
theorem c362_2 : qx_code 362 2 = some (2, .aload_n 0, 3, 0, 0, 0) := by decide +kernel
theorem s362_2 {L : Nat} {xs : Nat → Int32} {d x : Nat} {M : qxM} {st : List Value} {a1 a2 a3 : Option Value} {z : Nat} : Rs L xs (d) 362 2 [some (.ref z), a1, a2, a3] st M x = Rs L xs (d) 362 3 [some (.ref z), a1, a2, a3] (.ref z :: st) M x := Rs_next c362_2 rfl
theorem c362_3 : qx_code 362 3 = some (3, .iload_n 1, 4, 0, 0, 0) := by decide +kernel
theorem s362_3 {L : Nat} {xs : Nat → Int32} {d x : Nat} {M : qxM} {st : List Value} {a0 a2 a3 : Option Value} {z : Int32} : Rs L xs (d) 362 3 [a0, some (.int z), a2, a3] st M x = Rs L xs (d) 362 4 [a0, some (.int z), a2, a3] (.int z :: st) M x := Rs_next c362_3 rfl
theorem c362_4 : qx_code 362 4 = some (4, .invokevirtual 102, 7, 126, 2, 1123) := by decide +kernel
theorem s362_4 {L : Nat} {xs : Nat → Int32} {d x : Nat} {M : qxM} {st : List Value} {ls : qxL} {t : Nat} {z0 : Int32} (hk : qx_kd t = 17) (hs : st.length ≤ 4) : Rs L xs (d + 1) 362 4 ls (.int z0 :: .ref t :: st) M x = (Rs L xs d 126 0 [some (.ref t), some (.int z0), none] [] M 0).bind (qx_kn L xs (d + 1) 362 4 7 126 ls st x) := by
  have h1 : qx_act L xs (qx_rt 362) (4, .invokevirtual 102, 7, 126, 2, 1123) ls (.int z0 :: .ref t :: st) M = if 2 ≤ (.int z0 :: .ref t :: st).length ∧ st.length ≤ 4 then some (.inr (.inr (.inr (126, [.ref t, .int z0], st)))) else none := rfl
  rw [if_pos ⟨by simp [List.length_cons]; try omega, hs⟩] at h1
  have h2 := qx_kd_obj (k := 7) (by decide) hk
  exact Rs_call c362_4 h1 (by rw [show qx_args 126 [.ref t, .int z0] = decide (qx_sh t = some (.inl 7)) from rfl]; exact decide_eq_true h2)
theorem c362_7 : qx_code 362 7 = some (7, .ifCond .eq 7, 10, 14, 0, 0) := by decide +kernel
theorem s362_7 {L : Nat} {xs : Nat → Int32} {d x : Nat} {M : qxM} {st : List Value} {ls : qxL} {z : Int32} : Rs L xs (d) 362 7 ls (.int z :: st) M x = if z = 0 then Rs L xs (d) 362 14 ls st M x else Rs L xs (d) 362 10 ls st M x := Rs_ite c362_7 rfl
theorem c362_10 : qx_code 362 10 = some (10, .lconst 1, 11, 0, 0, 0) := by decide +kernel
theorem s362_10 {L : Nat} {xs : Nat → Int32} {d x : Nat} {M : qxM} {st : List Value} {ls : qxL} : Rs L xs (d) 362 10 ls st M x = Rs L xs (d) 362 11 ls (.long (Int64.ofNat 1) :: st) M x := Rs_next c362_10 rfl
theorem c362_11 : qx_code 362 11 = some (11, .goto 4, 14, 15, 0, 0) := by decide +kernel
theorem s362_11 {L : Nat} {xs : Nat → Int32} {d x : Nat} {M : qxM} {st : List Value} {ls : qxL} : Rs L xs (d) 362 11 ls st M x = Rs L xs (d) 362 15 ls st M x := Rs_next c362_11 rfl
theorem c362_14 : qx_code 362 14 = some (14, .lconst 0, 15, 0, 0, 0) := by decide +kernel
theorem s362_14 {L : Nat} {xs : Nat → Int32} {d x : Nat} {M : qxM} {st : List Value} {ls : qxL} : Rs L xs (d) 362 14 ls st M x = Rs L xs (d) 362 15 ls (.long (Int64.ofNat 0) :: st) M x := Rs_next c362_14 rfl
theorem c362_15 : qx_code 362 15 = some (15, .lastore, 16, 0, 0, 0) := by decide +kernel
theorem s362_15 {L : Nat} {xs : Nat → Int32} {d x : Nat} {M : qxM} {st : List Value} {ls : qxL} {t : Nat} {j : Int32} {z : Int64} (hk : qx_kd t = 4) (hj : qx_ib j (qx_ln t) = true) : Rs L xs (d) 362 15 ls (.long z :: .int j :: .ref t :: st) M x = Rs L xs (d) 362 16 ls st ((M.1, vp_updL M.2.1 j.toNatClampNeg z, M.2.2)) x := by
  have h1 := qx_kd_row (k := 4) (by decide) hk
  exact Rs_unless (qx_ib_not hj) c362_15 (by unfold qx_act; dsimp only; rw [h1]; rfl)
theorem c362_16 : qx_code 362 16 = some (16, .goto 9, 19, 25, 0, 0) := by decide +kernel
theorem s362_16 {L : Nat} {xs : Nat → Int32} {d x : Nat} {M : qxM} {st : List Value} {ls : qxL} : Rs L xs (d) 362 16 ls st M x = Rs L xs (d) 362 25 ls st M x := Rs_next c362_16 rfl
theorem c362_19 : qx_code 362 19 = some (19, .astore_n 3, 20, 0, 0, 0) := by decide +kernel
theorem s362_19i {L : Nat} {xs : Nat → Int32} {d x : Nat} {M : qxM} {st : List Value} {a0 a1 a3 : Option Value} {z : Nat} {y : Int32} : Rs L xs (d) 362 19 [a0, a1, some (.int y), a3] (.ref z :: st) M x = Rs L xs (d) 362 20 [a0, a1, some (.int y), some (.ref z)] st M x := Rs_next c362_19 rfl
theorem s362_19r {L : Nat} {xs : Nat → Int32} {d x : Nat} {M : qxM} {st : List Value} {a0 a1 a3 : Option Value} {z : Nat} {y : Nat} : Rs L xs (d) 362 19 [a0, a1, some (.ref y), a3] (.ref z :: st) M x = Rs L xs (d) 362 20 [a0, a1, some (.ref y), some (.ref z)] st M x := Rs_next c362_19 rfl
theorem s362_19n {L : Nat} {xs : Nat → Int32} {d x : Nat} {M : qxM} {st : List Value} {a0 a1 a3 : Option Value} {z : Nat} : Rs L xs (d) 362 19 [a0, a1, none, a3] (.ref z :: st) M x = Rs L xs (d) 362 20 [a0, a1, none, some (.ref z)] st M x := Rs_next c362_19 rfl
theorem c362_20 : qx_code 362 20 = some (20, .iconst 1, 21, 0, 0, 0) := by decide +kernel
theorem s362_20 {L : Nat} {xs : Nat → Int32} {d x : Nat} {M : qxM} {st : List Value} {ls : qxL} : Rs L xs (d) 362 20 ls st M x = Rs L xs (d) 362 21 ls (.int (nI 1) :: st) M x := Rs_next c362_20 rfl
theorem c362_21 : qx_code 362 21 = some (21, .ireturn, 22, 0, 0, 0) := by decide +kernel
theorem s362_21 {L : Nat} {xs : Nat → Int32} {d x : Nat} {M : qxM} {ls : qxL} {z : Int32} : Rs L xs (d) 362 21 ls [.int z] M x = some (.inl (some (.int z)), M, x) := Rs_ret c362_21 rfl
theorem c362_22 : qx_code 362 22 = some (22, .astore_n 3, 23, 0, 0, 0) := by decide +kernel
theorem s362_22i {L : Nat} {xs : Nat → Int32} {d x : Nat} {M : qxM} {st : List Value} {a0 a1 a3 : Option Value} {z : Nat} {y : Int32} : Rs L xs (d) 362 22 [a0, a1, some (.int y), a3] (.ref z :: st) M x = Rs L xs (d) 362 23 [a0, a1, some (.int y), some (.ref z)] st M x := Rs_next c362_22 rfl
theorem s362_22r {L : Nat} {xs : Nat → Int32} {d x : Nat} {M : qxM} {st : List Value} {a0 a1 a3 : Option Value} {z : Nat} {y : Nat} : Rs L xs (d) 362 22 [a0, a1, some (.ref y), a3] (.ref z :: st) M x = Rs L xs (d) 362 23 [a0, a1, some (.ref y), some (.ref z)] st M x := Rs_next c362_22 rfl
theorem s362_22n {L : Nat} {xs : Nat → Int32} {d x : Nat} {M : qxM} {st : List Value} {a0 a1 a3 : Option Value} {z : Nat} : Rs L xs (d) 362 22 [a0, a1, none, a3] (.ref z :: st) M x = Rs L xs (d) 362 23 [a0, a1, none, some (.ref z)] st M x := Rs_next c362_22 rfl
theorem c362_23 : qx_code 362 23 = some (23, .iconst 2, 24, 0, 0, 0) := by decide +kernel
theorem s362_23 {L : Nat} {xs : Nat → Int32} {d x : Nat} {M : qxM} {st : List Value} {ls : qxL} : Rs L xs (d) 362 23 ls st M x = Rs L xs (d) 362 24 ls (.int (nI 2) :: st) M x := Rs_next c362_23 rfl
theorem c362_24 : qx_code 362 24 = some (24, .ireturn, 25, 0, 0, 0) := by decide +kernel
theorem s362_24 {L : Nat} {xs : Nat → Int32} {d x : Nat} {M : qxM} {ls : qxL} {z : Int32} : Rs L xs (d) 362 24 ls [.int z] M x = some (.inl (some (.int z)), M, x) := Rs_ret c362_24 rfl
theorem c362_25 : qx_code 362 25 = some (25, .iconst 0, 26, 0, 0, 0) := by decide +kernel
theorem s362_25 {L : Nat} {xs : Nat → Int32} {d x : Nat} {M : qxM} {st : List Value} {ls : qxL} : Rs L xs (d) 362 25 ls st M x = Rs L xs (d) 362 26 ls (.int (nI 0) :: st) M x := Rs_next c362_25 rfl
theorem c362_26 : qx_code 362 26 = some (26, .ireturn, 27, 0, 0, 0) := by decide +kernel
theorem s362_26 {L : Nat} {xs : Nat → Int32} {d x : Nat} {M : qxM} {ls : qxL} {z : Int32} : Rs L xs (d) 362 26 ls [.int z] M x = some (.inl (some (.int z)), M, x) := Rs_ret c362_26 rfl
theorem c363_0 : qx_code 363 0 = some (0, .aload_n 1, 1, 0, 0, 0) := by decide +kernel
theorem s363_0 {L : Nat} {xs : Nat → Int32} {d x : Nat} {M : qxM} {st : List Value} {a0 a2 : Option Value} {z : Nat} : Rs L xs (d) 363 0 [a0, some (.ref z), a2] st M x = Rs L xs (d) 363 1 [a0, some (.ref z), a2] (.ref z :: st) M x := Rs_next c363_0 rfl
theorem c363_1 : qx_code 363 1 = some (1, .iconst 0, 2, 0, 0, 0) := by decide +kernel
theorem s363_1 {L : Nat} {xs : Nat → Int32} {d x : Nat} {M : qxM} {st : List Value} {ls : qxL} : Rs L xs (d) 363 1 ls st M x = Rs L xs (d) 363 2 ls (.int (nI 0) :: st) M x := Rs_next c363_1 rfl
theorem c363_2 : qx_code 363 2 = some (2, .aload_n 0, 3, 0, 0, 0) := by decide +kernel
theorem s363_2 {L : Nat} {xs : Nat → Int32} {d x : Nat} {M : qxM} {st : List Value} {a1 a2 : Option Value} {z : Nat} : Rs L xs (d) 363 2 [some (.ref z), a1, a2] st M x = Rs L xs (d) 363 3 [some (.ref z), a1, a2] (.ref z :: st) M x := Rs_next c363_2 rfl
theorem c363_3 : qx_code 363 3 = some (3, .invokevirtual 106, 6, 127, 1, 1135) := by decide +kernel
theorem s363_3 {L : Nat} {xs : Nat → Int32} {d x : Nat} {M : qxM} {st : List Value} {ls : qxL} {t : Nat} (hk : qx_kd t = 17) (hs : st.length ≤ 4) : Rs L xs (d + 1) 363 3 ls (.ref t :: st) M x = (Rs L xs d 127 0 [some (.ref t), none, none, none, none, none, none, none] [] M 0).bind (qx_kn L xs (d + 1) 363 3 6 127 ls st x) := by
  have h1 : qx_act L xs (qx_rt 363) (3, .invokevirtual 106, 6, 127, 1, 1135) ls (.ref t :: st) M = if 1 ≤ (.ref t :: st).length ∧ st.length ≤ 4 then some (.inr (.inr (.inr (127, [.ref t], st)))) else none := rfl
  rw [if_pos ⟨by simp [List.length_cons]; try omega, hs⟩] at h1
  have h2 := qx_kd_obj (k := 7) (by decide) hk
  exact Rs_call c363_3 h1 (by rw [show qx_args 127 [.ref t] = decide (qx_sh t = some (.inl 7)) from rfl]; exact decide_eq_true h2)
theorem c363_6 : qx_code 363 6 = some (6, .i2l, 7, 0, 0, 0) := by decide +kernel
theorem s363_6 {L : Nat} {xs : Nat → Int32} {d x : Nat} {M : qxM} {st : List Value} {ls : qxL} {z : Int32} : Rs L xs (d) 363 6 ls (.int z :: st) M x = Rs L xs (d) 363 7 ls (.long z.toInt64 :: st) M x := Rs_next c363_6 rfl
theorem c363_7 : qx_code 363 7 = some (7, .lastore, 8, 0, 0, 0) := by decide +kernel
theorem s363_7 {L : Nat} {xs : Nat → Int32} {d x : Nat} {M : qxM} {st : List Value} {ls : qxL} {t : Nat} {j : Int32} {z : Int64} (hk : qx_kd t = 4) (hj : qx_ib j (qx_ln t) = true) : Rs L xs (d) 363 7 ls (.long z :: .int j :: .ref t :: st) M x = Rs L xs (d) 363 8 ls st ((M.1, vp_updL M.2.1 j.toNatClampNeg z, M.2.2)) x := by
  have h1 := qx_kd_row (k := 4) (by decide) hk
  exact Rs_unless (qx_ib_not hj) c363_7 (by unfold qx_act; dsimp only; rw [h1]; rfl)
theorem c363_8 : qx_code 363 8 = some (8, .goto 6, 11, 14, 0, 0) := by decide +kernel
theorem s363_8 {L : Nat} {xs : Nat → Int32} {d x : Nat} {M : qxM} {st : List Value} {ls : qxL} : Rs L xs (d) 363 8 ls st M x = Rs L xs (d) 363 14 ls st M x := Rs_next c363_8 rfl
theorem c363_11 : qx_code 363 11 = some (11, .astore_n 2, 12, 0, 0, 0) := by decide +kernel
theorem s363_11i {L : Nat} {xs : Nat → Int32} {d x : Nat} {M : qxM} {st : List Value} {a0 a2 : Option Value} {z : Nat} {y : Int32} : Rs L xs (d) 363 11 [a0, some (.int y), a2] (.ref z :: st) M x = Rs L xs (d) 363 12 [a0, some (.int y), some (.ref z)] st M x := Rs_next c363_11 rfl
theorem s363_11r {L : Nat} {xs : Nat → Int32} {d x : Nat} {M : qxM} {st : List Value} {a0 a2 : Option Value} {z : Nat} {y : Nat} : Rs L xs (d) 363 11 [a0, some (.ref y), a2] (.ref z :: st) M x = Rs L xs (d) 363 12 [a0, some (.ref y), some (.ref z)] st M x := Rs_next c363_11 rfl
theorem s363_11n {L : Nat} {xs : Nat → Int32} {d x : Nat} {M : qxM} {st : List Value} {a0 a2 : Option Value} {z : Nat} : Rs L xs (d) 363 11 [a0, none, a2] (.ref z :: st) M x = Rs L xs (d) 363 12 [a0, none, some (.ref z)] st M x := Rs_next c363_11 rfl
theorem c363_12 : qx_code 363 12 = some (12, .iconst 1, 13, 0, 0, 0) := by decide +kernel
theorem s363_12 {L : Nat} {xs : Nat → Int32} {d x : Nat} {M : qxM} {st : List Value} {ls : qxL} : Rs L xs (d) 363 12 ls st M x = Rs L xs (d) 363 13 ls (.int (nI 1) :: st) M x := Rs_next c363_12 rfl
theorem c363_13 : qx_code 363 13 = some (13, .ireturn, 14, 0, 0, 0) := by decide +kernel
theorem s363_13 {L : Nat} {xs : Nat → Int32} {d x : Nat} {M : qxM} {ls : qxL} {z : Int32} : Rs L xs (d) 363 13 ls [.int z] M x = some (.inl (some (.int z)), M, x) := Rs_ret c363_13 rfl
theorem c363_14 : qx_code 363 14 = some (14, .iconst 0, 15, 0, 0, 0) := by decide +kernel
theorem s363_14 {L : Nat} {xs : Nat → Int32} {d x : Nat} {M : qxM} {st : List Value} {ls : qxL} : Rs L xs (d) 363 14 ls st M x = Rs L xs (d) 363 15 ls (.int (nI 0) :: st) M x := Rs_next c363_14 rfl
theorem c363_15 : qx_code 363 15 = some (15, .ireturn, 16, 0, 0, 0) := by decide +kernel
theorem s363_15 {L : Nat} {xs : Nat → Int32} {d x : Nat} {M : qxM} {ls : qxL} {z : Int32} : Rs L xs (d) 363 15 ls [.int z] M x = some (.inl (some (.int z)), M, x) := Rs_ret c363_15 rfl
theorem c364_0 : qx_code 364 0 = some (0, .aload_n 3, 1, 0, 0, 0) := by decide +kernel
theorem s364_0 {L : Nat} {xs : Nat → Int32} {d x : Nat} {M : qxM} {st : List Value} {a0 a1 a2 a4 : Option Value} {z : Nat} : Rs L xs (d) 364 0 [a0, a1, a2, some (.ref z), a4] st M x = Rs L xs (d) 364 1 [a0, a1, a2, some (.ref z), a4] (.ref z :: st) M x := Rs_next c364_0 rfl
theorem c364_1 : qx_code 364 1 = some (1, .iconst 0, 2, 0, 0, 0) := by decide +kernel
theorem s364_1 {L : Nat} {xs : Nat → Int32} {d x : Nat} {M : qxM} {st : List Value} {ls : qxL} : Rs L xs (d) 364 1 ls st M x = Rs L xs (d) 364 2 ls (.int (nI 0) :: st) M x := Rs_next c364_1 rfl
theorem c364_2 : qx_code 364 2 = some (2, .aload_n 0, 3, 0, 0, 0) := by decide +kernel
theorem s364_2 {L : Nat} {xs : Nat → Int32} {d x : Nat} {M : qxM} {st : List Value} {a1 a2 a3 a4 : Option Value} {z : Nat} : Rs L xs (d) 364 2 [some (.ref z), a1, a2, a3, a4] st M x = Rs L xs (d) 364 3 [some (.ref z), a1, a2, a3, a4] (.ref z :: st) M x := Rs_next c364_2 rfl
theorem c364_3 : qx_code 364 3 = some (3, .iload_n 1, 4, 0, 0, 0) := by decide +kernel
theorem s364_3 {L : Nat} {xs : Nat → Int32} {d x : Nat} {M : qxM} {st : List Value} {a0 a2 a3 a4 : Option Value} {z : Int32} : Rs L xs (d) 364 3 [a0, some (.int z), a2, a3, a4] st M x = Rs L xs (d) 364 4 [a0, some (.int z), a2, a3, a4] (.int z :: st) M x := Rs_next c364_3 rfl
theorem c364_4 : qx_code 364 4 = some (4, .iload_n 2, 5, 0, 0, 0) := by decide +kernel
theorem s364_4 {L : Nat} {xs : Nat → Int32} {d x : Nat} {M : qxM} {st : List Value} {a0 a1 a3 a4 : Option Value} {z : Int32} : Rs L xs (d) 364 4 [a0, a1, some (.int z), a3, a4] st M x = Rs L xs (d) 364 5 [a0, a1, some (.int z), a3, a4] (.int z :: st) M x := Rs_next c364_4 rfl
theorem c364_5 : qx_code 364 5 = some (5, .invokevirtual 109, 8, 128, 3, 1142) := by decide +kernel
theorem s364_5 {L : Nat} {xs : Nat → Int32} {d x : Nat} {M : qxM} {st : List Value} {ls : qxL} {t : Nat} {z0 : Int32} {z1 : Int32} (hk : qx_kd t = 17) (hs : st.length ≤ 4) : Rs L xs (d + 1) 364 5 ls (.int z1 :: .int z0 :: .ref t :: st) M x = (Rs L xs d 128 0 [some (.ref t), some (.int z0), some (.int z1)] [] M 0).bind (qx_kn L xs (d + 1) 364 5 8 128 ls st x) := by
  have h1 : qx_act L xs (qx_rt 364) (5, .invokevirtual 109, 8, 128, 3, 1142) ls (.int z1 :: .int z0 :: .ref t :: st) M = if 3 ≤ (.int z1 :: .int z0 :: .ref t :: st).length ∧ st.length ≤ 4 then some (.inr (.inr (.inr (128, [.ref t, .int z0, .int z1], st)))) else none := rfl
  rw [if_pos ⟨by simp [List.length_cons]; try omega, hs⟩] at h1
  have h2 := qx_kd_obj (k := 7) (by decide) hk
  exact Rs_call c364_5 h1 (by rw [show qx_args 128 [.ref t, .int z0, .int z1] = decide (qx_sh t = some (.inl 7)) from rfl]; exact decide_eq_true h2)
theorem c364_8 : qx_code 364 8 = some (8, .ifCond .eq 7, 11, 15, 0, 0) := by decide +kernel
theorem s364_8 {L : Nat} {xs : Nat → Int32} {d x : Nat} {M : qxM} {st : List Value} {ls : qxL} {z : Int32} : Rs L xs (d) 364 8 ls (.int z :: st) M x = if z = 0 then Rs L xs (d) 364 15 ls st M x else Rs L xs (d) 364 11 ls st M x := Rs_ite c364_8 rfl
theorem c364_11 : qx_code 364 11 = some (11, .lconst 1, 12, 0, 0, 0) := by decide +kernel
theorem s364_11 {L : Nat} {xs : Nat → Int32} {d x : Nat} {M : qxM} {st : List Value} {ls : qxL} : Rs L xs (d) 364 11 ls st M x = Rs L xs (d) 364 12 ls (.long (Int64.ofNat 1) :: st) M x := Rs_next c364_11 rfl
theorem c364_12 : qx_code 364 12 = some (12, .goto 4, 15, 16, 0, 0) := by decide +kernel
theorem s364_12 {L : Nat} {xs : Nat → Int32} {d x : Nat} {M : qxM} {st : List Value} {ls : qxL} : Rs L xs (d) 364 12 ls st M x = Rs L xs (d) 364 16 ls st M x := Rs_next c364_12 rfl
theorem c364_15 : qx_code 364 15 = some (15, .lconst 0, 16, 0, 0, 0) := by decide +kernel
theorem s364_15 {L : Nat} {xs : Nat → Int32} {d x : Nat} {M : qxM} {st : List Value} {ls : qxL} : Rs L xs (d) 364 15 ls st M x = Rs L xs (d) 364 16 ls (.long (Int64.ofNat 0) :: st) M x := Rs_next c364_15 rfl
theorem c364_16 : qx_code 364 16 = some (16, .lastore, 17, 0, 0, 0) := by decide +kernel
theorem s364_16 {L : Nat} {xs : Nat → Int32} {d x : Nat} {M : qxM} {st : List Value} {ls : qxL} {t : Nat} {j : Int32} {z : Int64} (hk : qx_kd t = 4) (hj : qx_ib j (qx_ln t) = true) : Rs L xs (d) 364 16 ls (.long z :: .int j :: .ref t :: st) M x = Rs L xs (d) 364 17 ls st ((M.1, vp_updL M.2.1 j.toNatClampNeg z, M.2.2)) x := by
  have h1 := qx_kd_row (k := 4) (by decide) hk
  exact Rs_unless (qx_ib_not hj) c364_16 (by unfold qx_act; dsimp only; rw [h1]; rfl)
theorem c364_17 : qx_code 364 17 = some (17, .goto 11, 20, 28, 0, 0) := by decide +kernel
theorem s364_17 {L : Nat} {xs : Nat → Int32} {d x : Nat} {M : qxM} {st : List Value} {ls : qxL} : Rs L xs (d) 364 17 ls st M x = Rs L xs (d) 364 28 ls st M x := Rs_next c364_17 rfl
theorem c364_20 : qx_code 364 20 = some (20, .astore 4, 22, 0, 0, 0) := by decide +kernel
theorem s364_20i {L : Nat} {xs : Nat → Int32} {d x : Nat} {M : qxM} {st : List Value} {a0 a1 a2 a4 : Option Value} {z : Nat} {y : Int32} : Rs L xs (d) 364 20 [a0, a1, a2, some (.int y), a4] (.ref z :: st) M x = Rs L xs (d) 364 22 [a0, a1, a2, some (.int y), some (.ref z)] st M x := Rs_next c364_20 rfl
theorem s364_20r {L : Nat} {xs : Nat → Int32} {d x : Nat} {M : qxM} {st : List Value} {a0 a1 a2 a4 : Option Value} {z : Nat} {y : Nat} : Rs L xs (d) 364 20 [a0, a1, a2, some (.ref y), a4] (.ref z :: st) M x = Rs L xs (d) 364 22 [a0, a1, a2, some (.ref y), some (.ref z)] st M x := Rs_next c364_20 rfl
theorem s364_20n {L : Nat} {xs : Nat → Int32} {d x : Nat} {M : qxM} {st : List Value} {a0 a1 a2 a4 : Option Value} {z : Nat} : Rs L xs (d) 364 20 [a0, a1, a2, none, a4] (.ref z :: st) M x = Rs L xs (d) 364 22 [a0, a1, a2, none, some (.ref z)] st M x := Rs_next c364_20 rfl
theorem c364_22 : qx_code 364 22 = some (22, .iconst 1, 23, 0, 0, 0) := by decide +kernel
theorem s364_22 {L : Nat} {xs : Nat → Int32} {d x : Nat} {M : qxM} {st : List Value} {ls : qxL} : Rs L xs (d) 364 22 ls st M x = Rs L xs (d) 364 23 ls (.int (nI 1) :: st) M x := Rs_next c364_22 rfl
theorem c364_23 : qx_code 364 23 = some (23, .ireturn, 24, 0, 0, 0) := by decide +kernel
theorem s364_23 {L : Nat} {xs : Nat → Int32} {d x : Nat} {M : qxM} {ls : qxL} {z : Int32} : Rs L xs (d) 364 23 ls [.int z] M x = some (.inl (some (.int z)), M, x) := Rs_ret c364_23 rfl
theorem c364_24 : qx_code 364 24 = some (24, .astore 4, 26, 0, 0, 0) := by decide +kernel
theorem s364_24i {L : Nat} {xs : Nat → Int32} {d x : Nat} {M : qxM} {st : List Value} {a0 a1 a2 a4 : Option Value} {z : Nat} {y : Int32} : Rs L xs (d) 364 24 [a0, a1, a2, some (.int y), a4] (.ref z :: st) M x = Rs L xs (d) 364 26 [a0, a1, a2, some (.int y), some (.ref z)] st M x := Rs_next c364_24 rfl
theorem s364_24r {L : Nat} {xs : Nat → Int32} {d x : Nat} {M : qxM} {st : List Value} {a0 a1 a2 a4 : Option Value} {z : Nat} {y : Nat} : Rs L xs (d) 364 24 [a0, a1, a2, some (.ref y), a4] (.ref z :: st) M x = Rs L xs (d) 364 26 [a0, a1, a2, some (.ref y), some (.ref z)] st M x := Rs_next c364_24 rfl
theorem s364_24n {L : Nat} {xs : Nat → Int32} {d x : Nat} {M : qxM} {st : List Value} {a0 a1 a2 a4 : Option Value} {z : Nat} : Rs L xs (d) 364 24 [a0, a1, a2, none, a4] (.ref z :: st) M x = Rs L xs (d) 364 26 [a0, a1, a2, none, some (.ref z)] st M x := Rs_next c364_24 rfl
theorem c364_26 : qx_code 364 26 = some (26, .iconst 2, 27, 0, 0, 0) := by decide +kernel
theorem s364_26 {L : Nat} {xs : Nat → Int32} {d x : Nat} {M : qxM} {st : List Value} {ls : qxL} : Rs L xs (d) 364 26 ls st M x = Rs L xs (d) 364 27 ls (.int (nI 2) :: st) M x := Rs_next c364_26 rfl
theorem c364_27 : qx_code 364 27 = some (27, .ireturn, 28, 0, 0, 0) := by decide +kernel
theorem s364_27 {L : Nat} {xs : Nat → Int32} {d x : Nat} {M : qxM} {ls : qxL} {z : Int32} : Rs L xs (d) 364 27 ls [.int z] M x = some (.inl (some (.int z)), M, x) := Rs_ret c364_27 rfl
theorem c364_28 : qx_code 364 28 = some (28, .iconst 0, 29, 0, 0, 0) := by decide +kernel
theorem s364_28 {L : Nat} {xs : Nat → Int32} {d x : Nat} {M : qxM} {st : List Value} {ls : qxL} : Rs L xs (d) 364 28 ls st M x = Rs L xs (d) 364 29 ls (.int (nI 0) :: st) M x := Rs_next c364_28 rfl
theorem c364_29 : qx_code 364 29 = some (29, .ireturn, 30, 0, 0, 0) := by decide +kernel
theorem s364_29 {L : Nat} {xs : Nat → Int32} {d x : Nat} {M : qxM} {ls : qxL} {z : Int32} : Rs L xs (d) 364 29 ls [.int z] M x = some (.inl (some (.int z)), M, x) := Rs_ret c364_29 rfl
theorem c365_0 : qx_code 365 0 = some (0, .aload_n 3, 1, 0, 0, 0) := by decide +kernel
theorem s365_0 {L : Nat} {xs : Nat → Int32} {d x : Nat} {M : qxM} {st : List Value} {a0 a1 a2 a4 : Option Value} {z : Nat} : Rs L xs (d) 365 0 [a0, a1, a2, some (.ref z), a4] st M x = Rs L xs (d) 365 1 [a0, a1, a2, some (.ref z), a4] (.ref z :: st) M x := Rs_next c365_0 rfl
theorem c365_1 : qx_code 365 1 = some (1, .iconst 0, 2, 0, 0, 0) := by decide +kernel
theorem s365_1 {L : Nat} {xs : Nat → Int32} {d x : Nat} {M : qxM} {st : List Value} {ls : qxL} : Rs L xs (d) 365 1 ls st M x = Rs L xs (d) 365 2 ls (.int (nI 0) :: st) M x := Rs_next c365_1 rfl
theorem c365_2 : qx_code 365 2 = some (2, .aload_n 0, 3, 0, 0, 0) := by decide +kernel
theorem s365_2 {L : Nat} {xs : Nat → Int32} {d x : Nat} {M : qxM} {st : List Value} {a1 a2 a3 a4 : Option Value} {z : Nat} : Rs L xs (d) 365 2 [some (.ref z), a1, a2, a3, a4] st M x = Rs L xs (d) 365 3 [some (.ref z), a1, a2, a3, a4] (.ref z :: st) M x := Rs_next c365_2 rfl
theorem c365_3 : qx_code 365 3 = some (3, .iload_n 1, 4, 0, 0, 0) := by decide +kernel
theorem s365_3 {L : Nat} {xs : Nat → Int32} {d x : Nat} {M : qxM} {st : List Value} {a0 a2 a3 a4 : Option Value} {z : Int32} : Rs L xs (d) 365 3 [a0, some (.int z), a2, a3, a4] st M x = Rs L xs (d) 365 4 [a0, some (.int z), a2, a3, a4] (.int z :: st) M x := Rs_next c365_3 rfl
theorem c365_4 : qx_code 365 4 = some (4, .iload_n 2, 5, 0, 0, 0) := by decide +kernel
theorem s365_4 {L : Nat} {xs : Nat → Int32} {d x : Nat} {M : qxM} {st : List Value} {a0 a1 a3 a4 : Option Value} {z : Int32} : Rs L xs (d) 365 4 [a0, a1, some (.int z), a3, a4] st M x = Rs L xs (d) 365 5 [a0, a1, some (.int z), a3, a4] (.int z :: st) M x := Rs_next c365_4 rfl
theorem c365_5 : qx_code 365 5 = some (5, .invokevirtual 112, 8, 129, 3, 1153) := by decide +kernel
theorem s365_5 {L : Nat} {xs : Nat → Int32} {d x : Nat} {M : qxM} {st : List Value} {ls : qxL} {t : Nat} {z0 : Int32} {z1 : Int32} (hk : qx_kd t = 17) (hs : st.length ≤ 4) : Rs L xs (d + 1) 365 5 ls (.int z1 :: .int z0 :: .ref t :: st) M x = (Rs L xs d 129 0 [some (.ref t), some (.int z0), some (.int z1)] [] M 0).bind (qx_kn L xs (d + 1) 365 5 8 129 ls st x) := by
  have h1 : qx_act L xs (qx_rt 365) (5, .invokevirtual 112, 8, 129, 3, 1153) ls (.int z1 :: .int z0 :: .ref t :: st) M = if 3 ≤ (.int z1 :: .int z0 :: .ref t :: st).length ∧ st.length ≤ 4 then some (.inr (.inr (.inr (129, [.ref t, .int z0, .int z1], st)))) else none := rfl
  rw [if_pos ⟨by simp [List.length_cons]; try omega, hs⟩] at h1
  have h2 := qx_kd_obj (k := 7) (by decide) hk
  exact Rs_call c365_5 h1 (by rw [show qx_args 129 [.ref t, .int z0, .int z1] = decide (qx_sh t = some (.inl 7)) from rfl]; exact decide_eq_true h2)
theorem c365_8 : qx_code 365 8 = some (8, .ifCond .eq 7, 11, 15, 0, 0) := by decide +kernel
theorem s365_8 {L : Nat} {xs : Nat → Int32} {d x : Nat} {M : qxM} {st : List Value} {ls : qxL} {z : Int32} : Rs L xs (d) 365 8 ls (.int z :: st) M x = if z = 0 then Rs L xs (d) 365 15 ls st M x else Rs L xs (d) 365 11 ls st M x := Rs_ite c365_8 rfl
theorem c365_11 : qx_code 365 11 = some (11, .lconst 1, 12, 0, 0, 0) := by decide +kernel
theorem s365_11 {L : Nat} {xs : Nat → Int32} {d x : Nat} {M : qxM} {st : List Value} {ls : qxL} : Rs L xs (d) 365 11 ls st M x = Rs L xs (d) 365 12 ls (.long (Int64.ofNat 1) :: st) M x := Rs_next c365_11 rfl
theorem c365_12 : qx_code 365 12 = some (12, .goto 4, 15, 16, 0, 0) := by decide +kernel
theorem s365_12 {L : Nat} {xs : Nat → Int32} {d x : Nat} {M : qxM} {st : List Value} {ls : qxL} : Rs L xs (d) 365 12 ls st M x = Rs L xs (d) 365 16 ls st M x := Rs_next c365_12 rfl
theorem c365_15 : qx_code 365 15 = some (15, .lconst 0, 16, 0, 0, 0) := by decide +kernel
theorem s365_15 {L : Nat} {xs : Nat → Int32} {d x : Nat} {M : qxM} {st : List Value} {ls : qxL} : Rs L xs (d) 365 15 ls st M x = Rs L xs (d) 365 16 ls (.long (Int64.ofNat 0) :: st) M x := Rs_next c365_15 rfl
theorem c365_16 : qx_code 365 16 = some (16, .lastore, 17, 0, 0, 0) := by decide +kernel
theorem s365_16 {L : Nat} {xs : Nat → Int32} {d x : Nat} {M : qxM} {st : List Value} {ls : qxL} {t : Nat} {j : Int32} {z : Int64} (hk : qx_kd t = 4) (hj : qx_ib j (qx_ln t) = true) : Rs L xs (d) 365 16 ls (.long z :: .int j :: .ref t :: st) M x = Rs L xs (d) 365 17 ls st ((M.1, vp_updL M.2.1 j.toNatClampNeg z, M.2.2)) x := by
  have h1 := qx_kd_row (k := 4) (by decide) hk
  exact Rs_unless (qx_ib_not hj) c365_16 (by unfold qx_act; dsimp only; rw [h1]; rfl)
theorem c365_17 : qx_code 365 17 = some (17, .goto 11, 20, 28, 0, 0) := by decide +kernel
theorem s365_17 {L : Nat} {xs : Nat → Int32} {d x : Nat} {M : qxM} {st : List Value} {ls : qxL} : Rs L xs (d) 365 17 ls st M x = Rs L xs (d) 365 28 ls st M x := Rs_next c365_17 rfl
theorem c365_20 : qx_code 365 20 = some (20, .astore 4, 22, 0, 0, 0) := by decide +kernel
theorem s365_20i {L : Nat} {xs : Nat → Int32} {d x : Nat} {M : qxM} {st : List Value} {a0 a1 a2 a4 : Option Value} {z : Nat} {y : Int32} : Rs L xs (d) 365 20 [a0, a1, a2, some (.int y), a4] (.ref z :: st) M x = Rs L xs (d) 365 22 [a0, a1, a2, some (.int y), some (.ref z)] st M x := Rs_next c365_20 rfl
theorem s365_20r {L : Nat} {xs : Nat → Int32} {d x : Nat} {M : qxM} {st : List Value} {a0 a1 a2 a4 : Option Value} {z : Nat} {y : Nat} : Rs L xs (d) 365 20 [a0, a1, a2, some (.ref y), a4] (.ref z :: st) M x = Rs L xs (d) 365 22 [a0, a1, a2, some (.ref y), some (.ref z)] st M x := Rs_next c365_20 rfl
theorem s365_20n {L : Nat} {xs : Nat → Int32} {d x : Nat} {M : qxM} {st : List Value} {a0 a1 a2 a4 : Option Value} {z : Nat} : Rs L xs (d) 365 20 [a0, a1, a2, none, a4] (.ref z :: st) M x = Rs L xs (d) 365 22 [a0, a1, a2, none, some (.ref z)] st M x := Rs_next c365_20 rfl
theorem c365_22 : qx_code 365 22 = some (22, .iconst 1, 23, 0, 0, 0) := by decide +kernel
theorem s365_22 {L : Nat} {xs : Nat → Int32} {d x : Nat} {M : qxM} {st : List Value} {ls : qxL} : Rs L xs (d) 365 22 ls st M x = Rs L xs (d) 365 23 ls (.int (nI 1) :: st) M x := Rs_next c365_22 rfl
theorem c365_23 : qx_code 365 23 = some (23, .ireturn, 24, 0, 0, 0) := by decide +kernel
theorem s365_23 {L : Nat} {xs : Nat → Int32} {d x : Nat} {M : qxM} {ls : qxL} {z : Int32} : Rs L xs (d) 365 23 ls [.int z] M x = some (.inl (some (.int z)), M, x) := Rs_ret c365_23 rfl
theorem c365_24 : qx_code 365 24 = some (24, .astore 4, 26, 0, 0, 0) := by decide +kernel
theorem s365_24i {L : Nat} {xs : Nat → Int32} {d x : Nat} {M : qxM} {st : List Value} {a0 a1 a2 a4 : Option Value} {z : Nat} {y : Int32} : Rs L xs (d) 365 24 [a0, a1, a2, some (.int y), a4] (.ref z :: st) M x = Rs L xs (d) 365 26 [a0, a1, a2, some (.int y), some (.ref z)] st M x := Rs_next c365_24 rfl
theorem s365_24r {L : Nat} {xs : Nat → Int32} {d x : Nat} {M : qxM} {st : List Value} {a0 a1 a2 a4 : Option Value} {z : Nat} {y : Nat} : Rs L xs (d) 365 24 [a0, a1, a2, some (.ref y), a4] (.ref z :: st) M x = Rs L xs (d) 365 26 [a0, a1, a2, some (.ref y), some (.ref z)] st M x := Rs_next c365_24 rfl
theorem s365_24n {L : Nat} {xs : Nat → Int32} {d x : Nat} {M : qxM} {st : List Value} {a0 a1 a2 a4 : Option Value} {z : Nat} : Rs L xs (d) 365 24 [a0, a1, a2, none, a4] (.ref z :: st) M x = Rs L xs (d) 365 26 [a0, a1, a2, none, some (.ref z)] st M x := Rs_next c365_24 rfl
theorem c365_26 : qx_code 365 26 = some (26, .iconst 2, 27, 0, 0, 0) := by decide +kernel
theorem s365_26 {L : Nat} {xs : Nat → Int32} {d x : Nat} {M : qxM} {st : List Value} {ls : qxL} : Rs L xs (d) 365 26 ls st M x = Rs L xs (d) 365 27 ls (.int (nI 2) :: st) M x := Rs_next c365_26 rfl
theorem c365_27 : qx_code 365 27 = some (27, .ireturn, 28, 0, 0, 0) := by decide +kernel
theorem s365_27 {L : Nat} {xs : Nat → Int32} {d x : Nat} {M : qxM} {ls : qxL} {z : Int32} : Rs L xs (d) 365 27 ls [.int z] M x = some (.inl (some (.int z)), M, x) := Rs_ret c365_27 rfl
theorem c365_28 : qx_code 365 28 = some (28, .iconst 0, 29, 0, 0, 0) := by decide +kernel
theorem s365_28 {L : Nat} {xs : Nat → Int32} {d x : Nat} {M : qxM} {st : List Value} {ls : qxL} : Rs L xs (d) 365 28 ls st M x = Rs L xs (d) 365 29 ls (.int (nI 0) :: st) M x := Rs_next c365_28 rfl
theorem c365_29 : qx_code 365 29 = some (29, .ireturn, 30, 0, 0, 0) := by decide +kernel
theorem s365_29 {L : Nat} {xs : Nat → Int32} {d x : Nat} {M : qxM} {ls : qxL} {z : Int32} : Rs L xs (d) 365 29 ls [.int z] M x = some (.inl (some (.int z)), M, x) := Rs_ret c365_29 rfl
theorem c366_0 : qx_code 366 0 = some (0, .aload_n 1, 1, 0, 0, 0) := by decide +kernel
theorem s366_0 {L : Nat} {xs : Nat → Int32} {d x : Nat} {M : qxM} {st : List Value} {a0 a2 : Option Value} {z : Nat} : Rs L xs (d) 366 0 [a0, some (.ref z), a2] st M x = Rs L xs (d) 366 1 [a0, some (.ref z), a2] (.ref z :: st) M x := Rs_next c366_0 rfl
theorem c366_1 : qx_code 366 1 = some (1, .iconst 0, 2, 0, 0, 0) := by decide +kernel
theorem s366_1 {L : Nat} {xs : Nat → Int32} {d x : Nat} {M : qxM} {st : List Value} {ls : qxL} : Rs L xs (d) 366 1 ls st M x = Rs L xs (d) 366 2 ls (.int (nI 0) :: st) M x := Rs_next c366_1 rfl
theorem c366_2 : qx_code 366 2 = some (2, .aload_n 0, 3, 0, 0, 0) := by decide +kernel
theorem s366_2 {L : Nat} {xs : Nat → Int32} {d x : Nat} {M : qxM} {st : List Value} {a1 a2 : Option Value} {z : Nat} : Rs L xs (d) 366 2 [some (.ref z), a1, a2] st M x = Rs L xs (d) 366 3 [some (.ref z), a1, a2] (.ref z :: st) M x := Rs_next c366_2 rfl
theorem c366_3 : qx_code 366 3 = some (3, .invokevirtual 115, 6, 130, 1, 1169) := by decide +kernel
theorem s366_3 {L : Nat} {xs : Nat → Int32} {d x : Nat} {M : qxM} {st : List Value} {ls : qxL} {t : Nat} (hk : qx_kd t = 17) (hs : st.length ≤ 4) : Rs L xs (d + 1) 366 3 ls (.ref t :: st) M x = (Rs L xs d 130 0 [some (.ref t)] [] M 0).bind (qx_kn L xs (d + 1) 366 3 6 130 ls st x) := by
  have h1 : qx_act L xs (qx_rt 366) (3, .invokevirtual 115, 6, 130, 1, 1169) ls (.ref t :: st) M = if 1 ≤ (.ref t :: st).length ∧ st.length ≤ 4 then some (.inr (.inr (.inr (130, [.ref t], st)))) else none := rfl
  rw [if_pos ⟨by simp [List.length_cons]; try omega, hs⟩] at h1
  have h2 := qx_kd_obj (k := 7) (by decide) hk
  exact Rs_call c366_3 h1 (by rw [show qx_args 130 [.ref t] = decide (qx_sh t = some (.inl 7)) from rfl]; exact decide_eq_true h2)
theorem c366_6 : qx_code 366 6 = some (6, .lastore, 7, 0, 0, 0) := by decide +kernel
theorem s366_6 {L : Nat} {xs : Nat → Int32} {d x : Nat} {M : qxM} {st : List Value} {ls : qxL} {t : Nat} {j : Int32} {z : Int64} (hk : qx_kd t = 4) (hj : qx_ib j (qx_ln t) = true) : Rs L xs (d) 366 6 ls (.long z :: .int j :: .ref t :: st) M x = Rs L xs (d) 366 7 ls st ((M.1, vp_updL M.2.1 j.toNatClampNeg z, M.2.2)) x := by
  have h1 := qx_kd_row (k := 4) (by decide) hk
  exact Rs_unless (qx_ib_not hj) c366_6 (by unfold qx_act; dsimp only; rw [h1]; rfl)
theorem c366_7 : qx_code 366 7 = some (7, .goto 6, 10, 13, 0, 0) := by decide +kernel
theorem s366_7 {L : Nat} {xs : Nat → Int32} {d x : Nat} {M : qxM} {st : List Value} {ls : qxL} : Rs L xs (d) 366 7 ls st M x = Rs L xs (d) 366 13 ls st M x := Rs_next c366_7 rfl
theorem c366_10 : qx_code 366 10 = some (10, .astore_n 2, 11, 0, 0, 0) := by decide +kernel
theorem s366_10i {L : Nat} {xs : Nat → Int32} {d x : Nat} {M : qxM} {st : List Value} {a0 a2 : Option Value} {z : Nat} {y : Int32} : Rs L xs (d) 366 10 [a0, some (.int y), a2] (.ref z :: st) M x = Rs L xs (d) 366 11 [a0, some (.int y), some (.ref z)] st M x := Rs_next c366_10 rfl
theorem s366_10r {L : Nat} {xs : Nat → Int32} {d x : Nat} {M : qxM} {st : List Value} {a0 a2 : Option Value} {z : Nat} {y : Nat} : Rs L xs (d) 366 10 [a0, some (.ref y), a2] (.ref z :: st) M x = Rs L xs (d) 366 11 [a0, some (.ref y), some (.ref z)] st M x := Rs_next c366_10 rfl
theorem s366_10n {L : Nat} {xs : Nat → Int32} {d x : Nat} {M : qxM} {st : List Value} {a0 a2 : Option Value} {z : Nat} : Rs L xs (d) 366 10 [a0, none, a2] (.ref z :: st) M x = Rs L xs (d) 366 11 [a0, none, some (.ref z)] st M x := Rs_next c366_10 rfl
theorem c366_11 : qx_code 366 11 = some (11, .iconst 1, 12, 0, 0, 0) := by decide +kernel
theorem s366_11 {L : Nat} {xs : Nat → Int32} {d x : Nat} {M : qxM} {st : List Value} {ls : qxL} : Rs L xs (d) 366 11 ls st M x = Rs L xs (d) 366 12 ls (.int (nI 1) :: st) M x := Rs_next c366_11 rfl
theorem c366_12 : qx_code 366 12 = some (12, .ireturn, 13, 0, 0, 0) := by decide +kernel
theorem s366_12 {L : Nat} {xs : Nat → Int32} {d x : Nat} {M : qxM} {ls : qxL} {z : Int32} : Rs L xs (d) 366 12 ls [.int z] M x = some (.inl (some (.int z)), M, x) := Rs_ret c366_12 rfl
theorem c366_13 : qx_code 366 13 = some (13, .iconst 0, 14, 0, 0, 0) := by decide +kernel
theorem s366_13 {L : Nat} {xs : Nat → Int32} {d x : Nat} {M : qxM} {st : List Value} {ls : qxL} : Rs L xs (d) 366 13 ls st M x = Rs L xs (d) 366 14 ls (.int (nI 0) :: st) M x := Rs_next c366_13 rfl
theorem c366_14 : qx_code 366 14 = some (14, .ireturn, 15, 0, 0, 0) := by decide +kernel
theorem s366_14 {L : Nat} {xs : Nat → Int32} {d x : Nat} {M : qxM} {ls : qxL} {z : Int32} : Rs L xs (d) 366 14 ls [.int z] M x = some (.inl (some (.int z)), M, x) := Rs_ret c366_14 rfl
theorem c367_0 : qx_code 367 0 = some (0, .aload_n 2, 1, 0, 0, 0) := by decide +kernel
theorem s367_0 {L : Nat} {xs : Nat → Int32} {d x : Nat} {M : qxM} {st : List Value} {a0 a1 a3 : Option Value} {z : Nat} : Rs L xs (d) 367 0 [a0, a1, some (.ref z), a3] st M x = Rs L xs (d) 367 1 [a0, a1, some (.ref z), a3] (.ref z :: st) M x := Rs_next c367_0 rfl
theorem c367_1 : qx_code 367 1 = some (1, .iconst 0, 2, 0, 0, 0) := by decide +kernel
theorem s367_1 {L : Nat} {xs : Nat → Int32} {d x : Nat} {M : qxM} {st : List Value} {ls : qxL} : Rs L xs (d) 367 1 ls st M x = Rs L xs (d) 367 2 ls (.int (nI 0) :: st) M x := Rs_next c367_1 rfl
theorem c367_2 : qx_code 367 2 = some (2, .aload_n 0, 3, 0, 0, 0) := by decide +kernel
theorem s367_2 {L : Nat} {xs : Nat → Int32} {d x : Nat} {M : qxM} {st : List Value} {a1 a2 a3 : Option Value} {z : Nat} : Rs L xs (d) 367 2 [some (.ref z), a1, a2, a3] st M x = Rs L xs (d) 367 3 [some (.ref z), a1, a2, a3] (.ref z :: st) M x := Rs_next c367_2 rfl
theorem c367_3 : qx_code 367 3 = some (3, .iload_n 1, 4, 0, 0, 0) := by decide +kernel
theorem s367_3 {L : Nat} {xs : Nat → Int32} {d x : Nat} {M : qxM} {st : List Value} {a0 a2 a3 : Option Value} {z : Int32} : Rs L xs (d) 367 3 [a0, some (.int z), a2, a3] st M x = Rs L xs (d) 367 4 [a0, some (.int z), a2, a3] (.int z :: st) M x := Rs_next c367_3 rfl
theorem c367_4 : qx_code 367 4 = some (4, .invokevirtual 119, 7, 131, 2, 1177) := by decide +kernel
theorem s367_4 {L : Nat} {xs : Nat → Int32} {d x : Nat} {M : qxM} {st : List Value} {ls : qxL} {t : Nat} {z0 : Int32} (hk : qx_kd t = 17) (hs : st.length ≤ 4) : Rs L xs (d + 1) 367 4 ls (.int z0 :: .ref t :: st) M x = (Rs L xs d 131 0 [some (.ref t), some (.int z0), none, none, none, none] [] M 0).bind (qx_kn L xs (d + 1) 367 4 7 131 ls st x) := by
  have h1 : qx_act L xs (qx_rt 367) (4, .invokevirtual 119, 7, 131, 2, 1177) ls (.int z0 :: .ref t :: st) M = if 2 ≤ (.int z0 :: .ref t :: st).length ∧ st.length ≤ 4 then some (.inr (.inr (.inr (131, [.ref t, .int z0], st)))) else none := rfl
  rw [if_pos ⟨by simp [List.length_cons]; try omega, hs⟩] at h1
  have h2 := qx_kd_obj (k := 7) (by decide) hk
  exact Rs_call c367_4 h1 (by rw [show qx_args 131 [.ref t, .int z0] = decide (qx_sh t = some (.inl 7)) from rfl]; exact decide_eq_true h2)
theorem c367_7 : qx_code 367 7 = some (7, .i2l, 8, 0, 0, 0) := by decide +kernel
theorem s367_7 {L : Nat} {xs : Nat → Int32} {d x : Nat} {M : qxM} {st : List Value} {ls : qxL} {z : Int32} : Rs L xs (d) 367 7 ls (.int z :: st) M x = Rs L xs (d) 367 8 ls (.long z.toInt64 :: st) M x := Rs_next c367_7 rfl
theorem c367_8 : qx_code 367 8 = some (8, .lastore, 9, 0, 0, 0) := by decide +kernel
theorem s367_8 {L : Nat} {xs : Nat → Int32} {d x : Nat} {M : qxM} {st : List Value} {ls : qxL} {t : Nat} {j : Int32} {z : Int64} (hk : qx_kd t = 4) (hj : qx_ib j (qx_ln t) = true) : Rs L xs (d) 367 8 ls (.long z :: .int j :: .ref t :: st) M x = Rs L xs (d) 367 9 ls st ((M.1, vp_updL M.2.1 j.toNatClampNeg z, M.2.2)) x := by
  have h1 := qx_kd_row (k := 4) (by decide) hk
  exact Rs_unless (qx_ib_not hj) c367_8 (by unfold qx_act; dsimp only; rw [h1]; rfl)
theorem c367_9 : qx_code 367 9 = some (9, .goto 9, 12, 18, 0, 0) := by decide +kernel
theorem s367_9 {L : Nat} {xs : Nat → Int32} {d x : Nat} {M : qxM} {st : List Value} {ls : qxL} : Rs L xs (d) 367 9 ls st M x = Rs L xs (d) 367 18 ls st M x := Rs_next c367_9 rfl
theorem c367_12 : qx_code 367 12 = some (12, .astore_n 3, 13, 0, 0, 0) := by decide +kernel
theorem s367_12i {L : Nat} {xs : Nat → Int32} {d x : Nat} {M : qxM} {st : List Value} {a0 a1 a3 : Option Value} {z : Nat} {y : Int32} : Rs L xs (d) 367 12 [a0, a1, some (.int y), a3] (.ref z :: st) M x = Rs L xs (d) 367 13 [a0, a1, some (.int y), some (.ref z)] st M x := Rs_next c367_12 rfl
theorem s367_12r {L : Nat} {xs : Nat → Int32} {d x : Nat} {M : qxM} {st : List Value} {a0 a1 a3 : Option Value} {z : Nat} {y : Nat} : Rs L xs (d) 367 12 [a0, a1, some (.ref y), a3] (.ref z :: st) M x = Rs L xs (d) 367 13 [a0, a1, some (.ref y), some (.ref z)] st M x := Rs_next c367_12 rfl
theorem s367_12n {L : Nat} {xs : Nat → Int32} {d x : Nat} {M : qxM} {st : List Value} {a0 a1 a3 : Option Value} {z : Nat} : Rs L xs (d) 367 12 [a0, a1, none, a3] (.ref z :: st) M x = Rs L xs (d) 367 13 [a0, a1, none, some (.ref z)] st M x := Rs_next c367_12 rfl
theorem c367_13 : qx_code 367 13 = some (13, .iconst 1, 14, 0, 0, 0) := by decide +kernel
theorem s367_13 {L : Nat} {xs : Nat → Int32} {d x : Nat} {M : qxM} {st : List Value} {ls : qxL} : Rs L xs (d) 367 13 ls st M x = Rs L xs (d) 367 14 ls (.int (nI 1) :: st) M x := Rs_next c367_13 rfl
theorem c367_14 : qx_code 367 14 = some (14, .ireturn, 15, 0, 0, 0) := by decide +kernel
theorem s367_14 {L : Nat} {xs : Nat → Int32} {d x : Nat} {M : qxM} {ls : qxL} {z : Int32} : Rs L xs (d) 367 14 ls [.int z] M x = some (.inl (some (.int z)), M, x) := Rs_ret c367_14 rfl
theorem c367_15 : qx_code 367 15 = some (15, .astore_n 3, 16, 0, 0, 0) := by decide +kernel
theorem s367_15i {L : Nat} {xs : Nat → Int32} {d x : Nat} {M : qxM} {st : List Value} {a0 a1 a3 : Option Value} {z : Nat} {y : Int32} : Rs L xs (d) 367 15 [a0, a1, some (.int y), a3] (.ref z :: st) M x = Rs L xs (d) 367 16 [a0, a1, some (.int y), some (.ref z)] st M x := Rs_next c367_15 rfl
theorem s367_15r {L : Nat} {xs : Nat → Int32} {d x : Nat} {M : qxM} {st : List Value} {a0 a1 a3 : Option Value} {z : Nat} {y : Nat} : Rs L xs (d) 367 15 [a0, a1, some (.ref y), a3] (.ref z :: st) M x = Rs L xs (d) 367 16 [a0, a1, some (.ref y), some (.ref z)] st M x := Rs_next c367_15 rfl
theorem s367_15n {L : Nat} {xs : Nat → Int32} {d x : Nat} {M : qxM} {st : List Value} {a0 a1 a3 : Option Value} {z : Nat} : Rs L xs (d) 367 15 [a0, a1, none, a3] (.ref z :: st) M x = Rs L xs (d) 367 16 [a0, a1, none, some (.ref z)] st M x := Rs_next c367_15 rfl
theorem c367_16 : qx_code 367 16 = some (16, .iconst 2, 17, 0, 0, 0) := by decide +kernel
theorem s367_16 {L : Nat} {xs : Nat → Int32} {d x : Nat} {M : qxM} {st : List Value} {ls : qxL} : Rs L xs (d) 367 16 ls st M x = Rs L xs (d) 367 17 ls (.int (nI 2) :: st) M x := Rs_next c367_16 rfl
theorem c367_17 : qx_code 367 17 = some (17, .ireturn, 18, 0, 0, 0) := by decide +kernel
theorem s367_17 {L : Nat} {xs : Nat → Int32} {d x : Nat} {M : qxM} {ls : qxL} {z : Int32} : Rs L xs (d) 367 17 ls [.int z] M x = some (.inl (some (.int z)), M, x) := Rs_ret c367_17 rfl
theorem c367_18 : qx_code 367 18 = some (18, .iconst 0, 19, 0, 0, 0) := by decide +kernel
theorem s367_18 {L : Nat} {xs : Nat → Int32} {d x : Nat} {M : qxM} {st : List Value} {ls : qxL} : Rs L xs (d) 367 18 ls st M x = Rs L xs (d) 367 19 ls (.int (nI 0) :: st) M x := Rs_next c367_18 rfl
theorem c367_19 : qx_code 367 19 = some (19, .ireturn, 20, 0, 0, 0) := by decide +kernel
theorem s367_19 {L : Nat} {xs : Nat → Int32} {d x : Nat} {M : qxM} {ls : qxL} {z : Int32} : Rs L xs (d) 367 19 ls [.int z] M x = some (.inl (some (.int z)), M, x) := Rs_ret c367_19 rfl
theorem c368_0 : qx_code 368 0 = some (0, .aload_n 2, 1, 0, 0, 0) := by decide +kernel
theorem s368_0 {L : Nat} {xs : Nat → Int32} {d x : Nat} {M : qxM} {st : List Value} {a0 a1 a3 : Option Value} {z : Nat} : Rs L xs (d) 368 0 [a0, a1, some (.ref z), a3] st M x = Rs L xs (d) 368 1 [a0, a1, some (.ref z), a3] (.ref z :: st) M x := Rs_next c368_0 rfl
theorem c368_1 : qx_code 368 1 = some (1, .iconst 0, 2, 0, 0, 0) := by decide +kernel
theorem s368_1 {L : Nat} {xs : Nat → Int32} {d x : Nat} {M : qxM} {st : List Value} {ls : qxL} : Rs L xs (d) 368 1 ls st M x = Rs L xs (d) 368 2 ls (.int (nI 0) :: st) M x := Rs_next c368_1 rfl
theorem c368_2 : qx_code 368 2 = some (2, .aload_n 0, 3, 0, 0, 0) := by decide +kernel
theorem s368_2 {L : Nat} {xs : Nat → Int32} {d x : Nat} {M : qxM} {st : List Value} {a1 a2 a3 : Option Value} {z : Nat} : Rs L xs (d) 368 2 [some (.ref z), a1, a2, a3] st M x = Rs L xs (d) 368 3 [some (.ref z), a1, a2, a3] (.ref z :: st) M x := Rs_next c368_2 rfl
theorem c368_3 : qx_code 368 3 = some (3, .iload_n 1, 4, 0, 0, 0) := by decide +kernel
theorem s368_3 {L : Nat} {xs : Nat → Int32} {d x : Nat} {M : qxM} {st : List Value} {a0 a2 a3 : Option Value} {z : Int32} : Rs L xs (d) 368 3 [a0, some (.int z), a2, a3] st M x = Rs L xs (d) 368 4 [a0, some (.int z), a2, a3] (.int z :: st) M x := Rs_next c368_3 rfl
theorem c368_4 : qx_code 368 4 = some (4, .invokevirtual 122, 7, 132, 2, 1188) := by decide +kernel
theorem s368_4 {L : Nat} {xs : Nat → Int32} {d x : Nat} {M : qxM} {st : List Value} {ls : qxL} {t : Nat} {z0 : Int32} (hk : qx_kd t = 17) (hs : st.length ≤ 4) : Rs L xs (d + 1) 368 4 ls (.int z0 :: .ref t :: st) M x = (Rs L xs d 132 0 [some (.ref t), some (.int z0)] [] M 0).bind (qx_kn L xs (d + 1) 368 4 7 132 ls st x) := by
  have h1 : qx_act L xs (qx_rt 368) (4, .invokevirtual 122, 7, 132, 2, 1188) ls (.int z0 :: .ref t :: st) M = if 2 ≤ (.int z0 :: .ref t :: st).length ∧ st.length ≤ 4 then some (.inr (.inr (.inr (132, [.ref t, .int z0], st)))) else none := rfl
  rw [if_pos ⟨by simp [List.length_cons]; try omega, hs⟩] at h1
  have h2 := qx_kd_obj (k := 7) (by decide) hk
  exact Rs_call c368_4 h1 (by rw [show qx_args 132 [.ref t, .int z0] = decide (qx_sh t = some (.inl 7)) from rfl]; exact decide_eq_true h2)
theorem c368_7 : qx_code 368 7 = some (7, .i2l, 8, 0, 0, 0) := by decide +kernel
theorem s368_7 {L : Nat} {xs : Nat → Int32} {d x : Nat} {M : qxM} {st : List Value} {ls : qxL} {z : Int32} : Rs L xs (d) 368 7 ls (.int z :: st) M x = Rs L xs (d) 368 8 ls (.long z.toInt64 :: st) M x := Rs_next c368_7 rfl
theorem c368_8 : qx_code 368 8 = some (8, .lastore, 9, 0, 0, 0) := by decide +kernel
theorem s368_8 {L : Nat} {xs : Nat → Int32} {d x : Nat} {M : qxM} {st : List Value} {ls : qxL} {t : Nat} {j : Int32} {z : Int64} (hk : qx_kd t = 4) (hj : qx_ib j (qx_ln t) = true) : Rs L xs (d) 368 8 ls (.long z :: .int j :: .ref t :: st) M x = Rs L xs (d) 368 9 ls st ((M.1, vp_updL M.2.1 j.toNatClampNeg z, M.2.2)) x := by
  have h1 := qx_kd_row (k := 4) (by decide) hk
  exact Rs_unless (qx_ib_not hj) c368_8 (by unfold qx_act; dsimp only; rw [h1]; rfl)
theorem c368_9 : qx_code 368 9 = some (9, .goto 9, 12, 18, 0, 0) := by decide +kernel
theorem s368_9 {L : Nat} {xs : Nat → Int32} {d x : Nat} {M : qxM} {st : List Value} {ls : qxL} : Rs L xs (d) 368 9 ls st M x = Rs L xs (d) 368 18 ls st M x := Rs_next c368_9 rfl
theorem c368_12 : qx_code 368 12 = some (12, .astore_n 3, 13, 0, 0, 0) := by decide +kernel
theorem s368_12i {L : Nat} {xs : Nat → Int32} {d x : Nat} {M : qxM} {st : List Value} {a0 a1 a3 : Option Value} {z : Nat} {y : Int32} : Rs L xs (d) 368 12 [a0, a1, some (.int y), a3] (.ref z :: st) M x = Rs L xs (d) 368 13 [a0, a1, some (.int y), some (.ref z)] st M x := Rs_next c368_12 rfl
theorem s368_12r {L : Nat} {xs : Nat → Int32} {d x : Nat} {M : qxM} {st : List Value} {a0 a1 a3 : Option Value} {z : Nat} {y : Nat} : Rs L xs (d) 368 12 [a0, a1, some (.ref y), a3] (.ref z :: st) M x = Rs L xs (d) 368 13 [a0, a1, some (.ref y), some (.ref z)] st M x := Rs_next c368_12 rfl
theorem s368_12n {L : Nat} {xs : Nat → Int32} {d x : Nat} {M : qxM} {st : List Value} {a0 a1 a3 : Option Value} {z : Nat} : Rs L xs (d) 368 12 [a0, a1, none, a3] (.ref z :: st) M x = Rs L xs (d) 368 13 [a0, a1, none, some (.ref z)] st M x := Rs_next c368_12 rfl
theorem c368_13 : qx_code 368 13 = some (13, .iconst 1, 14, 0, 0, 0) := by decide +kernel
theorem s368_13 {L : Nat} {xs : Nat → Int32} {d x : Nat} {M : qxM} {st : List Value} {ls : qxL} : Rs L xs (d) 368 13 ls st M x = Rs L xs (d) 368 14 ls (.int (nI 1) :: st) M x := Rs_next c368_13 rfl
theorem c368_14 : qx_code 368 14 = some (14, .ireturn, 15, 0, 0, 0) := by decide +kernel
theorem s368_14 {L : Nat} {xs : Nat → Int32} {d x : Nat} {M : qxM} {ls : qxL} {z : Int32} : Rs L xs (d) 368 14 ls [.int z] M x = some (.inl (some (.int z)), M, x) := Rs_ret c368_14 rfl
theorem c368_15 : qx_code 368 15 = some (15, .astore_n 3, 16, 0, 0, 0) := by decide +kernel
theorem s368_15i {L : Nat} {xs : Nat → Int32} {d x : Nat} {M : qxM} {st : List Value} {a0 a1 a3 : Option Value} {z : Nat} {y : Int32} : Rs L xs (d) 368 15 [a0, a1, some (.int y), a3] (.ref z :: st) M x = Rs L xs (d) 368 16 [a0, a1, some (.int y), some (.ref z)] st M x := Rs_next c368_15 rfl
theorem s368_15r {L : Nat} {xs : Nat → Int32} {d x : Nat} {M : qxM} {st : List Value} {a0 a1 a3 : Option Value} {z : Nat} {y : Nat} : Rs L xs (d) 368 15 [a0, a1, some (.ref y), a3] (.ref z :: st) M x = Rs L xs (d) 368 16 [a0, a1, some (.ref y), some (.ref z)] st M x := Rs_next c368_15 rfl
theorem s368_15n {L : Nat} {xs : Nat → Int32} {d x : Nat} {M : qxM} {st : List Value} {a0 a1 a3 : Option Value} {z : Nat} : Rs L xs (d) 368 15 [a0, a1, none, a3] (.ref z :: st) M x = Rs L xs (d) 368 16 [a0, a1, none, some (.ref z)] st M x := Rs_next c368_15 rfl
theorem c368_16 : qx_code 368 16 = some (16, .iconst 2, 17, 0, 0, 0) := by decide +kernel
theorem s368_16 {L : Nat} {xs : Nat → Int32} {d x : Nat} {M : qxM} {st : List Value} {ls : qxL} : Rs L xs (d) 368 16 ls st M x = Rs L xs (d) 368 17 ls (.int (nI 2) :: st) M x := Rs_next c368_16 rfl
theorem c368_17 : qx_code 368 17 = some (17, .ireturn, 18, 0, 0, 0) := by decide +kernel
theorem s368_17 {L : Nat} {xs : Nat → Int32} {d x : Nat} {M : qxM} {ls : qxL} {z : Int32} : Rs L xs (d) 368 17 ls [.int z] M x = some (.inl (some (.int z)), M, x) := Rs_ret c368_17 rfl
theorem c368_18 : qx_code 368 18 = some (18, .iconst 0, 19, 0, 0, 0) := by decide +kernel
theorem s368_18 {L : Nat} {xs : Nat → Int32} {d x : Nat} {M : qxM} {st : List Value} {ls : qxL} : Rs L xs (d) 368 18 ls st M x = Rs L xs (d) 368 19 ls (.int (nI 0) :: st) M x := Rs_next c368_18 rfl
theorem c368_19 : qx_code 368 19 = some (19, .ireturn, 20, 0, 0, 0) := by decide +kernel
theorem s368_19 {L : Nat} {xs : Nat → Int32} {d x : Nat} {M : qxM} {ls : qxL} {z : Int32} : Rs L xs (d) 368 19 ls [.int z] M x = some (.inl (some (.int z)), M, x) := Rs_ret c368_19 rfl
theorem c369_0 : qx_code 369 0 = some (0, .aload_n 3, 1, 0, 0, 0) := by decide +kernel
theorem s369_0 {L : Nat} {xs : Nat → Int32} {d x : Nat} {M : qxM} {st : List Value} {a0 a1 a2 a4 : Option Value} {z : Nat} : Rs L xs (d) 369 0 [a0, a1, a2, some (.ref z), a4] st M x = Rs L xs (d) 369 1 [a0, a1, a2, some (.ref z), a4] (.ref z :: st) M x := Rs_next c369_0 rfl
theorem c369_1 : qx_code 369 1 = some (1, .iconst 0, 2, 0, 0, 0) := by decide +kernel
theorem s369_1 {L : Nat} {xs : Nat → Int32} {d x : Nat} {M : qxM} {st : List Value} {ls : qxL} : Rs L xs (d) 369 1 ls st M x = Rs L xs (d) 369 2 ls (.int (nI 0) :: st) M x := Rs_next c369_1 rfl
theorem c369_2 : qx_code 369 2 = some (2, .aload_n 0, 3, 0, 0, 0) := by decide +kernel
theorem s369_2 {L : Nat} {xs : Nat → Int32} {d x : Nat} {M : qxM} {st : List Value} {a1 a2 a3 a4 : Option Value} {z : Nat} : Rs L xs (d) 369 2 [some (.ref z), a1, a2, a3, a4] st M x = Rs L xs (d) 369 3 [some (.ref z), a1, a2, a3, a4] (.ref z :: st) M x := Rs_next c369_2 rfl
theorem c369_3 : qx_code 369 3 = some (3, .iload_n 1, 4, 0, 0, 0) := by decide +kernel
theorem s369_3 {L : Nat} {xs : Nat → Int32} {d x : Nat} {M : qxM} {st : List Value} {a0 a2 a3 a4 : Option Value} {z : Int32} : Rs L xs (d) 369 3 [a0, some (.int z), a2, a3, a4] st M x = Rs L xs (d) 369 4 [a0, some (.int z), a2, a3, a4] (.int z :: st) M x := Rs_next c369_3 rfl
theorem c369_4 : qx_code 369 4 = some (4, .iload_n 2, 5, 0, 0, 0) := by decide +kernel
theorem s369_4 {L : Nat} {xs : Nat → Int32} {d x : Nat} {M : qxM} {st : List Value} {a0 a1 a3 a4 : Option Value} {z : Int32} : Rs L xs (d) 369 4 [a0, a1, some (.int z), a3, a4] st M x = Rs L xs (d) 369 5 [a0, a1, some (.int z), a3, a4] (.int z :: st) M x := Rs_next c369_4 rfl
theorem c369_5 : qx_code 369 5 = some (5, .invokevirtual 125, 8, 133, 3, 1196) := by decide +kernel
theorem s369_5 {L : Nat} {xs : Nat → Int32} {d x : Nat} {M : qxM} {st : List Value} {ls : qxL} {t : Nat} {z0 : Int32} {z1 : Int32} (hk : qx_kd t = 17) (hs : st.length ≤ 4) : Rs L xs (d + 1) 369 5 ls (.int z1 :: .int z0 :: .ref t :: st) M x = (Rs L xs d 133 0 [some (.ref t), some (.int z0), some (.int z1), none, none] [] M 0).bind (qx_kn L xs (d + 1) 369 5 8 133 ls st x) := by
  have h1 : qx_act L xs (qx_rt 369) (5, .invokevirtual 125, 8, 133, 3, 1196) ls (.int z1 :: .int z0 :: .ref t :: st) M = if 3 ≤ (.int z1 :: .int z0 :: .ref t :: st).length ∧ st.length ≤ 4 then some (.inr (.inr (.inr (133, [.ref t, .int z0, .int z1], st)))) else none := rfl
  rw [if_pos ⟨by simp [List.length_cons]; try omega, hs⟩] at h1
  have h2 := qx_kd_obj (k := 7) (by decide) hk
  exact Rs_call c369_5 h1 (by rw [show qx_args 133 [.ref t, .int z0, .int z1] = decide (qx_sh t = some (.inl 7)) from rfl]; exact decide_eq_true h2)
theorem c369_8 : qx_code 369 8 = some (8, .i2l, 9, 0, 0, 0) := by decide +kernel
theorem s369_8 {L : Nat} {xs : Nat → Int32} {d x : Nat} {M : qxM} {st : List Value} {ls : qxL} {z : Int32} : Rs L xs (d) 369 8 ls (.int z :: st) M x = Rs L xs (d) 369 9 ls (.long z.toInt64 :: st) M x := Rs_next c369_8 rfl
theorem c369_9 : qx_code 369 9 = some (9, .lastore, 10, 0, 0, 0) := by decide +kernel
theorem s369_9 {L : Nat} {xs : Nat → Int32} {d x : Nat} {M : qxM} {st : List Value} {ls : qxL} {t : Nat} {j : Int32} {z : Int64} (hk : qx_kd t = 4) (hj : qx_ib j (qx_ln t) = true) : Rs L xs (d) 369 9 ls (.long z :: .int j :: .ref t :: st) M x = Rs L xs (d) 369 10 ls st ((M.1, vp_updL M.2.1 j.toNatClampNeg z, M.2.2)) x := by
  have h1 := qx_kd_row (k := 4) (by decide) hk
  exact Rs_unless (qx_ib_not hj) c369_9 (by unfold qx_act; dsimp only; rw [h1]; rfl)
theorem c369_10 : qx_code 369 10 = some (10, .goto 11, 13, 21, 0, 0) := by decide +kernel
theorem s369_10 {L : Nat} {xs : Nat → Int32} {d x : Nat} {M : qxM} {st : List Value} {ls : qxL} : Rs L xs (d) 369 10 ls st M x = Rs L xs (d) 369 21 ls st M x := Rs_next c369_10 rfl
theorem c369_13 : qx_code 369 13 = some (13, .astore 4, 15, 0, 0, 0) := by decide +kernel
theorem s369_13i {L : Nat} {xs : Nat → Int32} {d x : Nat} {M : qxM} {st : List Value} {a0 a1 a2 a4 : Option Value} {z : Nat} {y : Int32} : Rs L xs (d) 369 13 [a0, a1, a2, some (.int y), a4] (.ref z :: st) M x = Rs L xs (d) 369 15 [a0, a1, a2, some (.int y), some (.ref z)] st M x := Rs_next c369_13 rfl
theorem s369_13r {L : Nat} {xs : Nat → Int32} {d x : Nat} {M : qxM} {st : List Value} {a0 a1 a2 a4 : Option Value} {z : Nat} {y : Nat} : Rs L xs (d) 369 13 [a0, a1, a2, some (.ref y), a4] (.ref z :: st) M x = Rs L xs (d) 369 15 [a0, a1, a2, some (.ref y), some (.ref z)] st M x := Rs_next c369_13 rfl
theorem s369_13n {L : Nat} {xs : Nat → Int32} {d x : Nat} {M : qxM} {st : List Value} {a0 a1 a2 a4 : Option Value} {z : Nat} : Rs L xs (d) 369 13 [a0, a1, a2, none, a4] (.ref z :: st) M x = Rs L xs (d) 369 15 [a0, a1, a2, none, some (.ref z)] st M x := Rs_next c369_13 rfl
theorem c369_15 : qx_code 369 15 = some (15, .iconst 1, 16, 0, 0, 0) := by decide +kernel
theorem s369_15 {L : Nat} {xs : Nat → Int32} {d x : Nat} {M : qxM} {st : List Value} {ls : qxL} : Rs L xs (d) 369 15 ls st M x = Rs L xs (d) 369 16 ls (.int (nI 1) :: st) M x := Rs_next c369_15 rfl
theorem c369_16 : qx_code 369 16 = some (16, .ireturn, 17, 0, 0, 0) := by decide +kernel
theorem s369_16 {L : Nat} {xs : Nat → Int32} {d x : Nat} {M : qxM} {ls : qxL} {z : Int32} : Rs L xs (d) 369 16 ls [.int z] M x = some (.inl (some (.int z)), M, x) := Rs_ret c369_16 rfl
theorem c369_17 : qx_code 369 17 = some (17, .astore 4, 19, 0, 0, 0) := by decide +kernel
theorem s369_17i {L : Nat} {xs : Nat → Int32} {d x : Nat} {M : qxM} {st : List Value} {a0 a1 a2 a4 : Option Value} {z : Nat} {y : Int32} : Rs L xs (d) 369 17 [a0, a1, a2, some (.int y), a4] (.ref z :: st) M x = Rs L xs (d) 369 19 [a0, a1, a2, some (.int y), some (.ref z)] st M x := Rs_next c369_17 rfl
theorem s369_17r {L : Nat} {xs : Nat → Int32} {d x : Nat} {M : qxM} {st : List Value} {a0 a1 a2 a4 : Option Value} {z : Nat} {y : Nat} : Rs L xs (d) 369 17 [a0, a1, a2, some (.ref y), a4] (.ref z :: st) M x = Rs L xs (d) 369 19 [a0, a1, a2, some (.ref y), some (.ref z)] st M x := Rs_next c369_17 rfl
theorem s369_17n {L : Nat} {xs : Nat → Int32} {d x : Nat} {M : qxM} {st : List Value} {a0 a1 a2 a4 : Option Value} {z : Nat} : Rs L xs (d) 369 17 [a0, a1, a2, none, a4] (.ref z :: st) M x = Rs L xs (d) 369 19 [a0, a1, a2, none, some (.ref z)] st M x := Rs_next c369_17 rfl
theorem c369_19 : qx_code 369 19 = some (19, .iconst 2, 20, 0, 0, 0) := by decide +kernel
theorem s369_19 {L : Nat} {xs : Nat → Int32} {d x : Nat} {M : qxM} {st : List Value} {ls : qxL} : Rs L xs (d) 369 19 ls st M x = Rs L xs (d) 369 20 ls (.int (nI 2) :: st) M x := Rs_next c369_19 rfl
theorem c369_20 : qx_code 369 20 = some (20, .ireturn, 21, 0, 0, 0) := by decide +kernel
theorem s369_20 {L : Nat} {xs : Nat → Int32} {d x : Nat} {M : qxM} {ls : qxL} {z : Int32} : Rs L xs (d) 369 20 ls [.int z] M x = some (.inl (some (.int z)), M, x) := Rs_ret c369_20 rfl
theorem c369_21 : qx_code 369 21 = some (21, .iconst 0, 22, 0, 0, 0) := by decide +kernel
theorem s369_21 {L : Nat} {xs : Nat → Int32} {d x : Nat} {M : qxM} {st : List Value} {ls : qxL} : Rs L xs (d) 369 21 ls st M x = Rs L xs (d) 369 22 ls (.int (nI 0) :: st) M x := Rs_next c369_21 rfl
theorem c369_22 : qx_code 369 22 = some (22, .ireturn, 23, 0, 0, 0) := by decide +kernel
theorem s369_22 {L : Nat} {xs : Nat → Int32} {d x : Nat} {M : qxM} {ls : qxL} {z : Int32} : Rs L xs (d) 369 22 ls [.int z] M x = some (.inl (some (.int z)), M, x) := Rs_ret c369_22 rfl
theorem c370_0 : qx_code 370 0 = some (0, .aload_n 2, 1, 0, 0, 0) := by decide +kernel
theorem s370_0 {L : Nat} {xs : Nat → Int32} {d x : Nat} {M : qxM} {st : List Value} {a0 a1 a3 : Option Value} {z : Nat} : Rs L xs (d) 370 0 [a0, a1, some (.ref z), a3] st M x = Rs L xs (d) 370 1 [a0, a1, some (.ref z), a3] (.ref z :: st) M x := Rs_next c370_0 rfl
theorem c370_1 : qx_code 370 1 = some (1, .iconst 0, 2, 0, 0, 0) := by decide +kernel
theorem s370_1 {L : Nat} {xs : Nat → Int32} {d x : Nat} {M : qxM} {st : List Value} {ls : qxL} : Rs L xs (d) 370 1 ls st M x = Rs L xs (d) 370 2 ls (.int (nI 0) :: st) M x := Rs_next c370_1 rfl
theorem c370_2 : qx_code 370 2 = some (2, .aload_n 0, 3, 0, 0, 0) := by decide +kernel
theorem s370_2 {L : Nat} {xs : Nat → Int32} {d x : Nat} {M : qxM} {st : List Value} {a1 a2 a3 : Option Value} {z : Nat} : Rs L xs (d) 370 2 [some (.ref z), a1, a2, a3] st M x = Rs L xs (d) 370 3 [some (.ref z), a1, a2, a3] (.ref z :: st) M x := Rs_next c370_2 rfl
theorem c370_3 : qx_code 370 3 = some (3, .iload_n 1, 4, 0, 0, 0) := by decide +kernel
theorem s370_3 {L : Nat} {xs : Nat → Int32} {d x : Nat} {M : qxM} {st : List Value} {a0 a2 a3 : Option Value} {z : Int32} : Rs L xs (d) 370 3 [a0, some (.int z), a2, a3] st M x = Rs L xs (d) 370 4 [a0, some (.int z), a2, a3] (.int z :: st) M x := Rs_next c370_3 rfl
theorem c370_4 : qx_code 370 4 = some (4, .invokevirtual 128, 7, 134, 2, 1206) := by decide +kernel
theorem s370_4 {L : Nat} {xs : Nat → Int32} {d x : Nat} {M : qxM} {st : List Value} {ls : qxL} {t : Nat} {z0 : Int32} (hk : qx_kd t = 17) (hs : st.length ≤ 4) : Rs L xs (d + 1) 370 4 ls (.int z0 :: .ref t :: st) M x = (Rs L xs d 134 0 [some (.ref t), some (.int z0)] [] M 0).bind (qx_kn L xs (d + 1) 370 4 7 134 ls st x) := by
  have h1 : qx_act L xs (qx_rt 370) (4, .invokevirtual 128, 7, 134, 2, 1206) ls (.int z0 :: .ref t :: st) M = if 2 ≤ (.int z0 :: .ref t :: st).length ∧ st.length ≤ 4 then some (.inr (.inr (.inr (134, [.ref t, .int z0], st)))) else none := rfl
  rw [if_pos ⟨by simp [List.length_cons]; try omega, hs⟩] at h1
  have h2 := qx_kd_obj (k := 7) (by decide) hk
  exact Rs_call c370_4 h1 (by rw [show qx_args 134 [.ref t, .int z0] = decide (qx_sh t = some (.inl 7)) from rfl]; exact decide_eq_true h2)
theorem c370_7 : qx_code 370 7 = some (7, .i2l, 8, 0, 0, 0) := by decide +kernel
theorem s370_7 {L : Nat} {xs : Nat → Int32} {d x : Nat} {M : qxM} {st : List Value} {ls : qxL} {z : Int32} : Rs L xs (d) 370 7 ls (.int z :: st) M x = Rs L xs (d) 370 8 ls (.long z.toInt64 :: st) M x := Rs_next c370_7 rfl
theorem c370_8 : qx_code 370 8 = some (8, .lastore, 9, 0, 0, 0) := by decide +kernel
theorem s370_8 {L : Nat} {xs : Nat → Int32} {d x : Nat} {M : qxM} {st : List Value} {ls : qxL} {t : Nat} {j : Int32} {z : Int64} (hk : qx_kd t = 4) (hj : qx_ib j (qx_ln t) = true) : Rs L xs (d) 370 8 ls (.long z :: .int j :: .ref t :: st) M x = Rs L xs (d) 370 9 ls st ((M.1, vp_updL M.2.1 j.toNatClampNeg z, M.2.2)) x := by
  have h1 := qx_kd_row (k := 4) (by decide) hk
  exact Rs_unless (qx_ib_not hj) c370_8 (by unfold qx_act; dsimp only; rw [h1]; rfl)
theorem c370_9 : qx_code 370 9 = some (9, .goto 9, 12, 18, 0, 0) := by decide +kernel
theorem s370_9 {L : Nat} {xs : Nat → Int32} {d x : Nat} {M : qxM} {st : List Value} {ls : qxL} : Rs L xs (d) 370 9 ls st M x = Rs L xs (d) 370 18 ls st M x := Rs_next c370_9 rfl
theorem c370_12 : qx_code 370 12 = some (12, .astore_n 3, 13, 0, 0, 0) := by decide +kernel
theorem s370_12i {L : Nat} {xs : Nat → Int32} {d x : Nat} {M : qxM} {st : List Value} {a0 a1 a3 : Option Value} {z : Nat} {y : Int32} : Rs L xs (d) 370 12 [a0, a1, some (.int y), a3] (.ref z :: st) M x = Rs L xs (d) 370 13 [a0, a1, some (.int y), some (.ref z)] st M x := Rs_next c370_12 rfl
theorem s370_12r {L : Nat} {xs : Nat → Int32} {d x : Nat} {M : qxM} {st : List Value} {a0 a1 a3 : Option Value} {z : Nat} {y : Nat} : Rs L xs (d) 370 12 [a0, a1, some (.ref y), a3] (.ref z :: st) M x = Rs L xs (d) 370 13 [a0, a1, some (.ref y), some (.ref z)] st M x := Rs_next c370_12 rfl
theorem s370_12n {L : Nat} {xs : Nat → Int32} {d x : Nat} {M : qxM} {st : List Value} {a0 a1 a3 : Option Value} {z : Nat} : Rs L xs (d) 370 12 [a0, a1, none, a3] (.ref z :: st) M x = Rs L xs (d) 370 13 [a0, a1, none, some (.ref z)] st M x := Rs_next c370_12 rfl
theorem c370_13 : qx_code 370 13 = some (13, .iconst 1, 14, 0, 0, 0) := by decide +kernel
theorem s370_13 {L : Nat} {xs : Nat → Int32} {d x : Nat} {M : qxM} {st : List Value} {ls : qxL} : Rs L xs (d) 370 13 ls st M x = Rs L xs (d) 370 14 ls (.int (nI 1) :: st) M x := Rs_next c370_13 rfl
theorem c370_14 : qx_code 370 14 = some (14, .ireturn, 15, 0, 0, 0) := by decide +kernel
theorem s370_14 {L : Nat} {xs : Nat → Int32} {d x : Nat} {M : qxM} {ls : qxL} {z : Int32} : Rs L xs (d) 370 14 ls [.int z] M x = some (.inl (some (.int z)), M, x) := Rs_ret c370_14 rfl
theorem c370_15 : qx_code 370 15 = some (15, .astore_n 3, 16, 0, 0, 0) := by decide +kernel
theorem s370_15i {L : Nat} {xs : Nat → Int32} {d x : Nat} {M : qxM} {st : List Value} {a0 a1 a3 : Option Value} {z : Nat} {y : Int32} : Rs L xs (d) 370 15 [a0, a1, some (.int y), a3] (.ref z :: st) M x = Rs L xs (d) 370 16 [a0, a1, some (.int y), some (.ref z)] st M x := Rs_next c370_15 rfl
theorem s370_15r {L : Nat} {xs : Nat → Int32} {d x : Nat} {M : qxM} {st : List Value} {a0 a1 a3 : Option Value} {z : Nat} {y : Nat} : Rs L xs (d) 370 15 [a0, a1, some (.ref y), a3] (.ref z :: st) M x = Rs L xs (d) 370 16 [a0, a1, some (.ref y), some (.ref z)] st M x := Rs_next c370_15 rfl
theorem s370_15n {L : Nat} {xs : Nat → Int32} {d x : Nat} {M : qxM} {st : List Value} {a0 a1 a3 : Option Value} {z : Nat} : Rs L xs (d) 370 15 [a0, a1, none, a3] (.ref z :: st) M x = Rs L xs (d) 370 16 [a0, a1, none, some (.ref z)] st M x := Rs_next c370_15 rfl
theorem c370_16 : qx_code 370 16 = some (16, .iconst 2, 17, 0, 0, 0) := by decide +kernel
theorem s370_16 {L : Nat} {xs : Nat → Int32} {d x : Nat} {M : qxM} {st : List Value} {ls : qxL} : Rs L xs (d) 370 16 ls st M x = Rs L xs (d) 370 17 ls (.int (nI 2) :: st) M x := Rs_next c370_16 rfl
theorem c370_17 : qx_code 370 17 = some (17, .ireturn, 18, 0, 0, 0) := by decide +kernel
theorem s370_17 {L : Nat} {xs : Nat → Int32} {d x : Nat} {M : qxM} {ls : qxL} {z : Int32} : Rs L xs (d) 370 17 ls [.int z] M x = some (.inl (some (.int z)), M, x) := Rs_ret c370_17 rfl
theorem c370_18 : qx_code 370 18 = some (18, .iconst 0, 19, 0, 0, 0) := by decide +kernel
theorem s370_18 {L : Nat} {xs : Nat → Int32} {d x : Nat} {M : qxM} {st : List Value} {ls : qxL} : Rs L xs (d) 370 18 ls st M x = Rs L xs (d) 370 19 ls (.int (nI 0) :: st) M x := Rs_next c370_18 rfl
theorem c370_19 : qx_code 370 19 = some (19, .ireturn, 20, 0, 0, 0) := by decide +kernel
theorem s370_19 {L : Nat} {xs : Nat → Int32} {d x : Nat} {M : qxM} {ls : qxL} {z : Int32} : Rs L xs (d) 370 19 ls [.int z] M x = some (.inl (some (.int z)), M, x) := Rs_ret c370_19 rfl
theorem c371_0 : qx_code 371 0 = some (0, .aload_n 1, 1, 0, 0, 0) := by decide +kernel
theorem s371_0 {L : Nat} {xs : Nat → Int32} {d x : Nat} {M : qxM} {st : List Value} {a0 a2 : Option Value} {z : Nat} : Rs L xs (d) 371 0 [a0, some (.ref z), a2] st M x = Rs L xs (d) 371 1 [a0, some (.ref z), a2] (.ref z :: st) M x := Rs_next c371_0 rfl
theorem c371_1 : qx_code 371 1 = some (1, .iconst 0, 2, 0, 0, 0) := by decide +kernel
theorem s371_1 {L : Nat} {xs : Nat → Int32} {d x : Nat} {M : qxM} {st : List Value} {ls : qxL} : Rs L xs (d) 371 1 ls st M x = Rs L xs (d) 371 2 ls (.int (nI 0) :: st) M x := Rs_next c371_1 rfl
theorem c371_2 : qx_code 371 2 = some (2, .aload_n 0, 3, 0, 0, 0) := by decide +kernel
theorem s371_2 {L : Nat} {xs : Nat → Int32} {d x : Nat} {M : qxM} {st : List Value} {a1 a2 : Option Value} {z : Nat} : Rs L xs (d) 371 2 [some (.ref z), a1, a2] st M x = Rs L xs (d) 371 3 [some (.ref z), a1, a2] (.ref z :: st) M x := Rs_next c371_2 rfl
theorem c371_3 : qx_code 371 3 = some (3, .invokevirtual 131, 6, 135, 1, 1213) := by decide +kernel
theorem s371_3 {L : Nat} {xs : Nat → Int32} {d x : Nat} {M : qxM} {st : List Value} {ls : qxL} {t : Nat} (hk : qx_kd t = 17) (hs : st.length ≤ 4) : Rs L xs (d + 1) 371 3 ls (.ref t :: st) M x = (Rs L xs d 135 0 [some (.ref t)] [] M 0).bind (qx_kn L xs (d + 1) 371 3 6 135 ls st x) := by
  have h1 : qx_act L xs (qx_rt 371) (3, .invokevirtual 131, 6, 135, 1, 1213) ls (.ref t :: st) M = if 1 ≤ (.ref t :: st).length ∧ st.length ≤ 4 then some (.inr (.inr (.inr (135, [.ref t], st)))) else none := rfl
  rw [if_pos ⟨by simp [List.length_cons]; try omega, hs⟩] at h1
  have h2 := qx_kd_obj (k := 7) (by decide) hk
  exact Rs_call c371_3 h1 (by rw [show qx_args 135 [.ref t] = decide (qx_sh t = some (.inl 7)) from rfl]; exact decide_eq_true h2)
theorem c371_6 : qx_code 371 6 = some (6, .i2l, 7, 0, 0, 0) := by decide +kernel
theorem s371_6 {L : Nat} {xs : Nat → Int32} {d x : Nat} {M : qxM} {st : List Value} {ls : qxL} {z : Int32} : Rs L xs (d) 371 6 ls (.int z :: st) M x = Rs L xs (d) 371 7 ls (.long z.toInt64 :: st) M x := Rs_next c371_6 rfl
theorem c371_7 : qx_code 371 7 = some (7, .lastore, 8, 0, 0, 0) := by decide +kernel
theorem s371_7 {L : Nat} {xs : Nat → Int32} {d x : Nat} {M : qxM} {st : List Value} {ls : qxL} {t : Nat} {j : Int32} {z : Int64} (hk : qx_kd t = 4) (hj : qx_ib j (qx_ln t) = true) : Rs L xs (d) 371 7 ls (.long z :: .int j :: .ref t :: st) M x = Rs L xs (d) 371 8 ls st ((M.1, vp_updL M.2.1 j.toNatClampNeg z, M.2.2)) x := by
  have h1 := qx_kd_row (k := 4) (by decide) hk
  exact Rs_unless (qx_ib_not hj) c371_7 (by unfold qx_act; dsimp only; rw [h1]; rfl)
theorem c371_8 : qx_code 371 8 = some (8, .goto 6, 11, 14, 0, 0) := by decide +kernel
theorem s371_8 {L : Nat} {xs : Nat → Int32} {d x : Nat} {M : qxM} {st : List Value} {ls : qxL} : Rs L xs (d) 371 8 ls st M x = Rs L xs (d) 371 14 ls st M x := Rs_next c371_8 rfl
theorem c371_11 : qx_code 371 11 = some (11, .astore_n 2, 12, 0, 0, 0) := by decide +kernel
theorem s371_11i {L : Nat} {xs : Nat → Int32} {d x : Nat} {M : qxM} {st : List Value} {a0 a2 : Option Value} {z : Nat} {y : Int32} : Rs L xs (d) 371 11 [a0, some (.int y), a2] (.ref z :: st) M x = Rs L xs (d) 371 12 [a0, some (.int y), some (.ref z)] st M x := Rs_next c371_11 rfl
theorem s371_11r {L : Nat} {xs : Nat → Int32} {d x : Nat} {M : qxM} {st : List Value} {a0 a2 : Option Value} {z : Nat} {y : Nat} : Rs L xs (d) 371 11 [a0, some (.ref y), a2] (.ref z :: st) M x = Rs L xs (d) 371 12 [a0, some (.ref y), some (.ref z)] st M x := Rs_next c371_11 rfl
theorem s371_11n {L : Nat} {xs : Nat → Int32} {d x : Nat} {M : qxM} {st : List Value} {a0 a2 : Option Value} {z : Nat} : Rs L xs (d) 371 11 [a0, none, a2] (.ref z :: st) M x = Rs L xs (d) 371 12 [a0, none, some (.ref z)] st M x := Rs_next c371_11 rfl
theorem c371_12 : qx_code 371 12 = some (12, .iconst 1, 13, 0, 0, 0) := by decide +kernel
theorem s371_12 {L : Nat} {xs : Nat → Int32} {d x : Nat} {M : qxM} {st : List Value} {ls : qxL} : Rs L xs (d) 371 12 ls st M x = Rs L xs (d) 371 13 ls (.int (nI 1) :: st) M x := Rs_next c371_12 rfl
theorem c371_13 : qx_code 371 13 = some (13, .ireturn, 14, 0, 0, 0) := by decide +kernel
theorem s371_13 {L : Nat} {xs : Nat → Int32} {d x : Nat} {M : qxM} {ls : qxL} {z : Int32} : Rs L xs (d) 371 13 ls [.int z] M x = some (.inl (some (.int z)), M, x) := Rs_ret c371_13 rfl
theorem c371_14 : qx_code 371 14 = some (14, .iconst 0, 15, 0, 0, 0) := by decide +kernel
theorem s371_14 {L : Nat} {xs : Nat → Int32} {d x : Nat} {M : qxM} {st : List Value} {ls : qxL} : Rs L xs (d) 371 14 ls st M x = Rs L xs (d) 371 15 ls (.int (nI 0) :: st) M x := Rs_next c371_14 rfl
theorem c371_15 : qx_code 371 15 = some (15, .ireturn, 16, 0, 0, 0) := by decide +kernel
theorem s371_15 {L : Nat} {xs : Nat → Int32} {d x : Nat} {M : qxM} {ls : qxL} {z : Int32} : Rs L xs (d) 371 15 ls [.int z] M x = some (.inl (some (.int z)), M, x) := Rs_ret c371_15 rfl
theorem c372_0 : qx_code 372 0 = some (0, .aload_n 1, 1, 0, 0, 0) := by decide +kernel
theorem s372_0 {L : Nat} {xs : Nat → Int32} {d x : Nat} {M : qxM} {st : List Value} {a0 a2 : Option Value} {z : Nat} : Rs L xs (d) 372 0 [a0, some (.ref z), a2] st M x = Rs L xs (d) 372 1 [a0, some (.ref z), a2] (.ref z :: st) M x := Rs_next c372_0 rfl
theorem c372_1 : qx_code 372 1 = some (1, .iconst 0, 2, 0, 0, 0) := by decide +kernel
theorem s372_1 {L : Nat} {xs : Nat → Int32} {d x : Nat} {M : qxM} {st : List Value} {ls : qxL} : Rs L xs (d) 372 1 ls st M x = Rs L xs (d) 372 2 ls (.int (nI 0) :: st) M x := Rs_next c372_1 rfl
theorem c372_2 : qx_code 372 2 = some (2, .aload_n 0, 3, 0, 0, 0) := by decide +kernel
theorem s372_2 {L : Nat} {xs : Nat → Int32} {d x : Nat} {M : qxM} {st : List Value} {a1 a2 : Option Value} {z : Nat} : Rs L xs (d) 372 2 [some (.ref z), a1, a2] st M x = Rs L xs (d) 372 3 [some (.ref z), a1, a2] (.ref z :: st) M x := Rs_next c372_2 rfl
theorem c372_3 : qx_code 372 3 = some (3, .invokevirtual 134, 6, 136, 1, 1220) := by decide +kernel
theorem s372_3 {L : Nat} {xs : Nat → Int32} {d x : Nat} {M : qxM} {st : List Value} {ls : qxL} {t : Nat} (hk : qx_kd t = 17) (hs : st.length ≤ 4) : Rs L xs (d + 1) 372 3 ls (.ref t :: st) M x = (Rs L xs d 136 0 [some (.ref t), none, none, none, none, none, none] [] M 0).bind (qx_kn L xs (d + 1) 372 3 6 136 ls st x) := by
  have h1 : qx_act L xs (qx_rt 372) (3, .invokevirtual 134, 6, 136, 1, 1220) ls (.ref t :: st) M = if 1 ≤ (.ref t :: st).length ∧ st.length ≤ 4 then some (.inr (.inr (.inr (136, [.ref t], st)))) else none := rfl
  rw [if_pos ⟨by simp [List.length_cons]; try omega, hs⟩] at h1
  have h2 := qx_kd_obj (k := 7) (by decide) hk
  exact Rs_call c372_3 h1 (by rw [show qx_args 136 [.ref t] = decide (qx_sh t = some (.inl 7)) from rfl]; exact decide_eq_true h2)
theorem c372_6 : qx_code 372 6 = some (6, .i2l, 7, 0, 0, 0) := by decide +kernel
theorem s372_6 {L : Nat} {xs : Nat → Int32} {d x : Nat} {M : qxM} {st : List Value} {ls : qxL} {z : Int32} : Rs L xs (d) 372 6 ls (.int z :: st) M x = Rs L xs (d) 372 7 ls (.long z.toInt64 :: st) M x := Rs_next c372_6 rfl
theorem c372_7 : qx_code 372 7 = some (7, .lastore, 8, 0, 0, 0) := by decide +kernel
theorem s372_7 {L : Nat} {xs : Nat → Int32} {d x : Nat} {M : qxM} {st : List Value} {ls : qxL} {t : Nat} {j : Int32} {z : Int64} (hk : qx_kd t = 4) (hj : qx_ib j (qx_ln t) = true) : Rs L xs (d) 372 7 ls (.long z :: .int j :: .ref t :: st) M x = Rs L xs (d) 372 8 ls st ((M.1, vp_updL M.2.1 j.toNatClampNeg z, M.2.2)) x := by
  have h1 := qx_kd_row (k := 4) (by decide) hk
  exact Rs_unless (qx_ib_not hj) c372_7 (by unfold qx_act; dsimp only; rw [h1]; rfl)
theorem c372_8 : qx_code 372 8 = some (8, .goto 6, 11, 14, 0, 0) := by decide +kernel
theorem s372_8 {L : Nat} {xs : Nat → Int32} {d x : Nat} {M : qxM} {st : List Value} {ls : qxL} : Rs L xs (d) 372 8 ls st M x = Rs L xs (d) 372 14 ls st M x := Rs_next c372_8 rfl
theorem c372_11 : qx_code 372 11 = some (11, .astore_n 2, 12, 0, 0, 0) := by decide +kernel
theorem s372_11i {L : Nat} {xs : Nat → Int32} {d x : Nat} {M : qxM} {st : List Value} {a0 a2 : Option Value} {z : Nat} {y : Int32} : Rs L xs (d) 372 11 [a0, some (.int y), a2] (.ref z :: st) M x = Rs L xs (d) 372 12 [a0, some (.int y), some (.ref z)] st M x := Rs_next c372_11 rfl
theorem s372_11r {L : Nat} {xs : Nat → Int32} {d x : Nat} {M : qxM} {st : List Value} {a0 a2 : Option Value} {z : Nat} {y : Nat} : Rs L xs (d) 372 11 [a0, some (.ref y), a2] (.ref z :: st) M x = Rs L xs (d) 372 12 [a0, some (.ref y), some (.ref z)] st M x := Rs_next c372_11 rfl
theorem s372_11n {L : Nat} {xs : Nat → Int32} {d x : Nat} {M : qxM} {st : List Value} {a0 a2 : Option Value} {z : Nat} : Rs L xs (d) 372 11 [a0, none, a2] (.ref z :: st) M x = Rs L xs (d) 372 12 [a0, none, some (.ref z)] st M x := Rs_next c372_11 rfl
theorem c372_12 : qx_code 372 12 = some (12, .iconst 1, 13, 0, 0, 0) := by decide +kernel
theorem s372_12 {L : Nat} {xs : Nat → Int32} {d x : Nat} {M : qxM} {st : List Value} {ls : qxL} : Rs L xs (d) 372 12 ls st M x = Rs L xs (d) 372 13 ls (.int (nI 1) :: st) M x := Rs_next c372_12 rfl
theorem c372_13 : qx_code 372 13 = some (13, .ireturn, 14, 0, 0, 0) := by decide +kernel
theorem s372_13 {L : Nat} {xs : Nat → Int32} {d x : Nat} {M : qxM} {ls : qxL} {z : Int32} : Rs L xs (d) 372 13 ls [.int z] M x = some (.inl (some (.int z)), M, x) := Rs_ret c372_13 rfl
theorem c372_14 : qx_code 372 14 = some (14, .iconst 0, 15, 0, 0, 0) := by decide +kernel
theorem s372_14 {L : Nat} {xs : Nat → Int32} {d x : Nat} {M : qxM} {st : List Value} {ls : qxL} : Rs L xs (d) 372 14 ls st M x = Rs L xs (d) 372 15 ls (.int (nI 0) :: st) M x := Rs_next c372_14 rfl
theorem c372_15 : qx_code 372 15 = some (15, .ireturn, 16, 0, 0, 0) := by decide +kernel
theorem s372_15 {L : Nat} {xs : Nat → Int32} {d x : Nat} {M : qxM} {ls : qxL} {z : Int32} : Rs L xs (d) 372 15 ls [.int z] M x = some (.inl (some (.int z)), M, x) := Rs_ret c372_15 rfl
theorem c373_0 : qx_code 373 0 = some (0, .aload_n 2, 1, 0, 0, 0) := by decide +kernel
theorem s373_0 {L : Nat} {xs : Nat → Int32} {d x : Nat} {M : qxM} {st : List Value} {a0 a1 a3 : Option Value} {z : Nat} : Rs L xs (d) 373 0 [a0, a1, some (.ref z), a3] st M x = Rs L xs (d) 373 1 [a0, a1, some (.ref z), a3] (.ref z :: st) M x := Rs_next c373_0 rfl
theorem c373_1 : qx_code 373 1 = some (1, .iconst 0, 2, 0, 0, 0) := by decide +kernel
theorem s373_1 {L : Nat} {xs : Nat → Int32} {d x : Nat} {M : qxM} {st : List Value} {ls : qxL} : Rs L xs (d) 373 1 ls st M x = Rs L xs (d) 373 2 ls (.int (nI 0) :: st) M x := Rs_next c373_1 rfl
theorem c373_2 : qx_code 373 2 = some (2, .aload_n 0, 3, 0, 0, 0) := by decide +kernel
theorem s373_2 {L : Nat} {xs : Nat → Int32} {d x : Nat} {M : qxM} {st : List Value} {a1 a2 a3 : Option Value} {z : Nat} : Rs L xs (d) 373 2 [some (.ref z), a1, a2, a3] st M x = Rs L xs (d) 373 3 [some (.ref z), a1, a2, a3] (.ref z :: st) M x := Rs_next c373_2 rfl
theorem c373_3 : qx_code 373 3 = some (3, .iload_n 1, 4, 0, 0, 0) := by decide +kernel
theorem s373_3 {L : Nat} {xs : Nat → Int32} {d x : Nat} {M : qxM} {st : List Value} {a0 a2 a3 : Option Value} {z : Int32} : Rs L xs (d) 373 3 [a0, some (.int z), a2, a3] st M x = Rs L xs (d) 373 4 [a0, some (.int z), a2, a3] (.int z :: st) M x := Rs_next c373_3 rfl
theorem c373_4 : qx_code 373 4 = some (4, .invokevirtual 137, 7, 137, 2, 1227) := by decide +kernel
theorem s373_4 {L : Nat} {xs : Nat → Int32} {d x : Nat} {M : qxM} {st : List Value} {ls : qxL} {t : Nat} {z0 : Int32} (hk : qx_kd t = 17) (hs : st.length ≤ 4) : Rs L xs (d + 1) 373 4 ls (.int z0 :: .ref t :: st) M x = (Rs L xs d 137 0 [some (.ref t), some (.int z0)] [] M 0).bind (qx_kn L xs (d + 1) 373 4 7 137 ls st x) := by
  have h1 : qx_act L xs (qx_rt 373) (4, .invokevirtual 137, 7, 137, 2, 1227) ls (.int z0 :: .ref t :: st) M = if 2 ≤ (.int z0 :: .ref t :: st).length ∧ st.length ≤ 4 then some (.inr (.inr (.inr (137, [.ref t, .int z0], st)))) else none := rfl
  rw [if_pos ⟨by simp [List.length_cons]; try omega, hs⟩] at h1
  have h2 := qx_kd_obj (k := 7) (by decide) hk
  exact Rs_call c373_4 h1 (by rw [show qx_args 137 [.ref t, .int z0] = decide (qx_sh t = some (.inl 7)) from rfl]; exact decide_eq_true h2)
theorem c373_7 : qx_code 373 7 = some (7, .i2l, 8, 0, 0, 0) := by decide +kernel
theorem s373_7 {L : Nat} {xs : Nat → Int32} {d x : Nat} {M : qxM} {st : List Value} {ls : qxL} {z : Int32} : Rs L xs (d) 373 7 ls (.int z :: st) M x = Rs L xs (d) 373 8 ls (.long z.toInt64 :: st) M x := Rs_next c373_7 rfl
theorem c373_8 : qx_code 373 8 = some (8, .lastore, 9, 0, 0, 0) := by decide +kernel
theorem s373_8 {L : Nat} {xs : Nat → Int32} {d x : Nat} {M : qxM} {st : List Value} {ls : qxL} {t : Nat} {j : Int32} {z : Int64} (hk : qx_kd t = 4) (hj : qx_ib j (qx_ln t) = true) : Rs L xs (d) 373 8 ls (.long z :: .int j :: .ref t :: st) M x = Rs L xs (d) 373 9 ls st ((M.1, vp_updL M.2.1 j.toNatClampNeg z, M.2.2)) x := by
  have h1 := qx_kd_row (k := 4) (by decide) hk
  exact Rs_unless (qx_ib_not hj) c373_8 (by unfold qx_act; dsimp only; rw [h1]; rfl)
theorem c373_9 : qx_code 373 9 = some (9, .goto 9, 12, 18, 0, 0) := by decide +kernel
theorem s373_9 {L : Nat} {xs : Nat → Int32} {d x : Nat} {M : qxM} {st : List Value} {ls : qxL} : Rs L xs (d) 373 9 ls st M x = Rs L xs (d) 373 18 ls st M x := Rs_next c373_9 rfl
theorem c373_12 : qx_code 373 12 = some (12, .astore_n 3, 13, 0, 0, 0) := by decide +kernel
theorem s373_12i {L : Nat} {xs : Nat → Int32} {d x : Nat} {M : qxM} {st : List Value} {a0 a1 a3 : Option Value} {z : Nat} {y : Int32} : Rs L xs (d) 373 12 [a0, a1, some (.int y), a3] (.ref z :: st) M x = Rs L xs (d) 373 13 [a0, a1, some (.int y), some (.ref z)] st M x := Rs_next c373_12 rfl
theorem s373_12r {L : Nat} {xs : Nat → Int32} {d x : Nat} {M : qxM} {st : List Value} {a0 a1 a3 : Option Value} {z : Nat} {y : Nat} : Rs L xs (d) 373 12 [a0, a1, some (.ref y), a3] (.ref z :: st) M x = Rs L xs (d) 373 13 [a0, a1, some (.ref y), some (.ref z)] st M x := Rs_next c373_12 rfl
theorem s373_12n {L : Nat} {xs : Nat → Int32} {d x : Nat} {M : qxM} {st : List Value} {a0 a1 a3 : Option Value} {z : Nat} : Rs L xs (d) 373 12 [a0, a1, none, a3] (.ref z :: st) M x = Rs L xs (d) 373 13 [a0, a1, none, some (.ref z)] st M x := Rs_next c373_12 rfl
theorem c373_13 : qx_code 373 13 = some (13, .iconst 1, 14, 0, 0, 0) := by decide +kernel
theorem s373_13 {L : Nat} {xs : Nat → Int32} {d x : Nat} {M : qxM} {st : List Value} {ls : qxL} : Rs L xs (d) 373 13 ls st M x = Rs L xs (d) 373 14 ls (.int (nI 1) :: st) M x := Rs_next c373_13 rfl
theorem c373_14 : qx_code 373 14 = some (14, .ireturn, 15, 0, 0, 0) := by decide +kernel
theorem s373_14 {L : Nat} {xs : Nat → Int32} {d x : Nat} {M : qxM} {ls : qxL} {z : Int32} : Rs L xs (d) 373 14 ls [.int z] M x = some (.inl (some (.int z)), M, x) := Rs_ret c373_14 rfl
theorem c373_15 : qx_code 373 15 = some (15, .astore_n 3, 16, 0, 0, 0) := by decide +kernel
theorem s373_15i {L : Nat} {xs : Nat → Int32} {d x : Nat} {M : qxM} {st : List Value} {a0 a1 a3 : Option Value} {z : Nat} {y : Int32} : Rs L xs (d) 373 15 [a0, a1, some (.int y), a3] (.ref z :: st) M x = Rs L xs (d) 373 16 [a0, a1, some (.int y), some (.ref z)] st M x := Rs_next c373_15 rfl
theorem s373_15r {L : Nat} {xs : Nat → Int32} {d x : Nat} {M : qxM} {st : List Value} {a0 a1 a3 : Option Value} {z : Nat} {y : Nat} : Rs L xs (d) 373 15 [a0, a1, some (.ref y), a3] (.ref z :: st) M x = Rs L xs (d) 373 16 [a0, a1, some (.ref y), some (.ref z)] st M x := Rs_next c373_15 rfl
theorem s373_15n {L : Nat} {xs : Nat → Int32} {d x : Nat} {M : qxM} {st : List Value} {a0 a1 a3 : Option Value} {z : Nat} : Rs L xs (d) 373 15 [a0, a1, none, a3] (.ref z :: st) M x = Rs L xs (d) 373 16 [a0, a1, none, some (.ref z)] st M x := Rs_next c373_15 rfl
theorem c373_16 : qx_code 373 16 = some (16, .iconst 2, 17, 0, 0, 0) := by decide +kernel
theorem s373_16 {L : Nat} {xs : Nat → Int32} {d x : Nat} {M : qxM} {st : List Value} {ls : qxL} : Rs L xs (d) 373 16 ls st M x = Rs L xs (d) 373 17 ls (.int (nI 2) :: st) M x := Rs_next c373_16 rfl
theorem c373_17 : qx_code 373 17 = some (17, .ireturn, 18, 0, 0, 0) := by decide +kernel
theorem s373_17 {L : Nat} {xs : Nat → Int32} {d x : Nat} {M : qxM} {ls : qxL} {z : Int32} : Rs L xs (d) 373 17 ls [.int z] M x = some (.inl (some (.int z)), M, x) := Rs_ret c373_17 rfl
theorem c373_18 : qx_code 373 18 = some (18, .iconst 0, 19, 0, 0, 0) := by decide +kernel
theorem s373_18 {L : Nat} {xs : Nat → Int32} {d x : Nat} {M : qxM} {st : List Value} {ls : qxL} : Rs L xs (d) 373 18 ls st M x = Rs L xs (d) 373 19 ls (.int (nI 0) :: st) M x := Rs_next c373_18 rfl
theorem c373_19 : qx_code 373 19 = some (19, .ireturn, 20, 0, 0, 0) := by decide +kernel
theorem s373_19 {L : Nat} {xs : Nat → Int32} {d x : Nat} {M : qxM} {ls : qxL} {z : Int32} : Rs L xs (d) 373 19 ls [.int z] M x = some (.inl (some (.int z)), M, x) := Rs_ret c373_19 rfl
theorem c374_0 : qx_code 374 0 = some (0, .aload_n 2, 1, 0, 0, 0) := by decide +kernel
theorem s374_0 {L : Nat} {xs : Nat → Int32} {d x : Nat} {M : qxM} {st : List Value} {a0 a1 a3 : Option Value} {z : Nat} : Rs L xs (d) 374 0 [a0, a1, some (.ref z), a3] st M x = Rs L xs (d) 374 1 [a0, a1, some (.ref z), a3] (.ref z :: st) M x := Rs_next c374_0 rfl
theorem c374_1 : qx_code 374 1 = some (1, .iconst 0, 2, 0, 0, 0) := by decide +kernel
theorem s374_1 {L : Nat} {xs : Nat → Int32} {d x : Nat} {M : qxM} {st : List Value} {ls : qxL} : Rs L xs (d) 374 1 ls st M x = Rs L xs (d) 374 2 ls (.int (nI 0) :: st) M x := Rs_next c374_1 rfl
theorem c374_2 : qx_code 374 2 = some (2, .aload_n 0, 3, 0, 0, 0) := by decide +kernel
theorem s374_2 {L : Nat} {xs : Nat → Int32} {d x : Nat} {M : qxM} {st : List Value} {a1 a2 a3 : Option Value} {z : Nat} : Rs L xs (d) 374 2 [some (.ref z), a1, a2, a3] st M x = Rs L xs (d) 374 3 [some (.ref z), a1, a2, a3] (.ref z :: st) M x := Rs_next c374_2 rfl
theorem c374_3 : qx_code 374 3 = some (3, .iload_n 1, 4, 0, 0, 0) := by decide +kernel
theorem s374_3 {L : Nat} {xs : Nat → Int32} {d x : Nat} {M : qxM} {st : List Value} {a0 a2 a3 : Option Value} {z : Int32} : Rs L xs (d) 374 3 [a0, some (.int z), a2, a3] st M x = Rs L xs (d) 374 4 [a0, some (.int z), a2, a3] (.int z :: st) M x := Rs_next c374_3 rfl
theorem c374_4 : qx_code 374 4 = some (4, .invokevirtual 140, 7, 138, 2, 1322) := by decide +kernel
theorem s374_4 {L : Nat} {xs : Nat → Int32} {d x : Nat} {M : qxM} {st : List Value} {ls : qxL} {t : Nat} {z0 : Int32} (hk : qx_kd t = 17) (hs : st.length ≤ 4) : Rs L xs (d + 1) 374 4 ls (.int z0 :: .ref t :: st) M x = (Rs L xs d 138 0 [some (.ref t), some (.int z0)] [] M 0).bind (qx_kn L xs (d + 1) 374 4 7 138 ls st x) := by
  have h1 : qx_act L xs (qx_rt 374) (4, .invokevirtual 140, 7, 138, 2, 1322) ls (.int z0 :: .ref t :: st) M = if 2 ≤ (.int z0 :: .ref t :: st).length ∧ st.length ≤ 4 then some (.inr (.inr (.inr (138, [.ref t, .int z0], st)))) else none := rfl
  rw [if_pos ⟨by simp [List.length_cons]; try omega, hs⟩] at h1
  have h2 := qx_kd_obj (k := 7) (by decide) hk
  exact Rs_call c374_4 h1 (by rw [show qx_args 138 [.ref t, .int z0] = decide (qx_sh t = some (.inl 7)) from rfl]; exact decide_eq_true h2)
theorem c374_7 : qx_code 374 7 = some (7, .i2l, 8, 0, 0, 0) := by decide +kernel
theorem s374_7 {L : Nat} {xs : Nat → Int32} {d x : Nat} {M : qxM} {st : List Value} {ls : qxL} {z : Int32} : Rs L xs (d) 374 7 ls (.int z :: st) M x = Rs L xs (d) 374 8 ls (.long z.toInt64 :: st) M x := Rs_next c374_7 rfl
theorem c374_8 : qx_code 374 8 = some (8, .lastore, 9, 0, 0, 0) := by decide +kernel
theorem s374_8 {L : Nat} {xs : Nat → Int32} {d x : Nat} {M : qxM} {st : List Value} {ls : qxL} {t : Nat} {j : Int32} {z : Int64} (hk : qx_kd t = 4) (hj : qx_ib j (qx_ln t) = true) : Rs L xs (d) 374 8 ls (.long z :: .int j :: .ref t :: st) M x = Rs L xs (d) 374 9 ls st ((M.1, vp_updL M.2.1 j.toNatClampNeg z, M.2.2)) x := by
  have h1 := qx_kd_row (k := 4) (by decide) hk
  exact Rs_unless (qx_ib_not hj) c374_8 (by unfold qx_act; dsimp only; rw [h1]; rfl)
theorem c374_9 : qx_code 374 9 = some (9, .goto 9, 12, 18, 0, 0) := by decide +kernel
theorem s374_9 {L : Nat} {xs : Nat → Int32} {d x : Nat} {M : qxM} {st : List Value} {ls : qxL} : Rs L xs (d) 374 9 ls st M x = Rs L xs (d) 374 18 ls st M x := Rs_next c374_9 rfl
theorem c374_12 : qx_code 374 12 = some (12, .astore_n 3, 13, 0, 0, 0) := by decide +kernel
theorem s374_12i {L : Nat} {xs : Nat → Int32} {d x : Nat} {M : qxM} {st : List Value} {a0 a1 a3 : Option Value} {z : Nat} {y : Int32} : Rs L xs (d) 374 12 [a0, a1, some (.int y), a3] (.ref z :: st) M x = Rs L xs (d) 374 13 [a0, a1, some (.int y), some (.ref z)] st M x := Rs_next c374_12 rfl
theorem s374_12r {L : Nat} {xs : Nat → Int32} {d x : Nat} {M : qxM} {st : List Value} {a0 a1 a3 : Option Value} {z : Nat} {y : Nat} : Rs L xs (d) 374 12 [a0, a1, some (.ref y), a3] (.ref z :: st) M x = Rs L xs (d) 374 13 [a0, a1, some (.ref y), some (.ref z)] st M x := Rs_next c374_12 rfl
theorem s374_12n {L : Nat} {xs : Nat → Int32} {d x : Nat} {M : qxM} {st : List Value} {a0 a1 a3 : Option Value} {z : Nat} : Rs L xs (d) 374 12 [a0, a1, none, a3] (.ref z :: st) M x = Rs L xs (d) 374 13 [a0, a1, none, some (.ref z)] st M x := Rs_next c374_12 rfl
theorem c374_13 : qx_code 374 13 = some (13, .iconst 1, 14, 0, 0, 0) := by decide +kernel
theorem s374_13 {L : Nat} {xs : Nat → Int32} {d x : Nat} {M : qxM} {st : List Value} {ls : qxL} : Rs L xs (d) 374 13 ls st M x = Rs L xs (d) 374 14 ls (.int (nI 1) :: st) M x := Rs_next c374_13 rfl
theorem c374_14 : qx_code 374 14 = some (14, .ireturn, 15, 0, 0, 0) := by decide +kernel
theorem s374_14 {L : Nat} {xs : Nat → Int32} {d x : Nat} {M : qxM} {ls : qxL} {z : Int32} : Rs L xs (d) 374 14 ls [.int z] M x = some (.inl (some (.int z)), M, x) := Rs_ret c374_14 rfl
theorem c374_15 : qx_code 374 15 = some (15, .astore_n 3, 16, 0, 0, 0) := by decide +kernel
theorem s374_15i {L : Nat} {xs : Nat → Int32} {d x : Nat} {M : qxM} {st : List Value} {a0 a1 a3 : Option Value} {z : Nat} {y : Int32} : Rs L xs (d) 374 15 [a0, a1, some (.int y), a3] (.ref z :: st) M x = Rs L xs (d) 374 16 [a0, a1, some (.int y), some (.ref z)] st M x := Rs_next c374_15 rfl
theorem s374_15r {L : Nat} {xs : Nat → Int32} {d x : Nat} {M : qxM} {st : List Value} {a0 a1 a3 : Option Value} {z : Nat} {y : Nat} : Rs L xs (d) 374 15 [a0, a1, some (.ref y), a3] (.ref z :: st) M x = Rs L xs (d) 374 16 [a0, a1, some (.ref y), some (.ref z)] st M x := Rs_next c374_15 rfl
theorem s374_15n {L : Nat} {xs : Nat → Int32} {d x : Nat} {M : qxM} {st : List Value} {a0 a1 a3 : Option Value} {z : Nat} : Rs L xs (d) 374 15 [a0, a1, none, a3] (.ref z :: st) M x = Rs L xs (d) 374 16 [a0, a1, none, some (.ref z)] st M x := Rs_next c374_15 rfl
theorem c374_16 : qx_code 374 16 = some (16, .iconst 2, 17, 0, 0, 0) := by decide +kernel
theorem s374_16 {L : Nat} {xs : Nat → Int32} {d x : Nat} {M : qxM} {st : List Value} {ls : qxL} : Rs L xs (d) 374 16 ls st M x = Rs L xs (d) 374 17 ls (.int (nI 2) :: st) M x := Rs_next c374_16 rfl
theorem c374_17 : qx_code 374 17 = some (17, .ireturn, 18, 0, 0, 0) := by decide +kernel
theorem s374_17 {L : Nat} {xs : Nat → Int32} {d x : Nat} {M : qxM} {ls : qxL} {z : Int32} : Rs L xs (d) 374 17 ls [.int z] M x = some (.inl (some (.int z)), M, x) := Rs_ret c374_17 rfl
theorem c374_18 : qx_code 374 18 = some (18, .iconst 0, 19, 0, 0, 0) := by decide +kernel
theorem s374_18 {L : Nat} {xs : Nat → Int32} {d x : Nat} {M : qxM} {st : List Value} {ls : qxL} : Rs L xs (d) 374 18 ls st M x = Rs L xs (d) 374 19 ls (.int (nI 0) :: st) M x := Rs_next c374_18 rfl
theorem c374_19 : qx_code 374 19 = some (19, .ireturn, 20, 0, 0, 0) := by decide +kernel
theorem s374_19 {L : Nat} {xs : Nat → Int32} {d x : Nat} {M : qxM} {ls : qxL} {z : Int32} : Rs L xs (d) 374 19 ls [.int z] M x = some (.inl (some (.int z)), M, x) := Rs_ret c374_19 rfl
theorem c375_0 : qx_code 375 0 = some (0, .aload_n 1, 1, 0, 0, 0) := by decide +kernel
theorem s375_0 {L : Nat} {xs : Nat → Int32} {d x : Nat} {M : qxM} {st : List Value} {a0 a2 : Option Value} {z : Nat} : Rs L xs (d) 375 0 [a0, some (.ref z), a2] st M x = Rs L xs (d) 375 1 [a0, some (.ref z), a2] (.ref z :: st) M x := Rs_next c375_0 rfl
theorem c375_1 : qx_code 375 1 = some (1, .iconst 0, 2, 0, 0, 0) := by decide +kernel
theorem s375_1 {L : Nat} {xs : Nat → Int32} {d x : Nat} {M : qxM} {st : List Value} {ls : qxL} : Rs L xs (d) 375 1 ls st M x = Rs L xs (d) 375 2 ls (.int (nI 0) :: st) M x := Rs_next c375_1 rfl
theorem c375_2 : qx_code 375 2 = some (2, .aload_n 0, 3, 0, 0, 0) := by decide +kernel
theorem s375_2 {L : Nat} {xs : Nat → Int32} {d x : Nat} {M : qxM} {st : List Value} {a1 a2 : Option Value} {z : Nat} : Rs L xs (d) 375 2 [some (.ref z), a1, a2] st M x = Rs L xs (d) 375 3 [some (.ref z), a1, a2] (.ref z :: st) M x := Rs_next c375_2 rfl
theorem c375_3 : qx_code 375 3 = some (3, .invokevirtual 143, 6, 139, 1, 1329) := by decide +kernel
theorem s375_3 {L : Nat} {xs : Nat → Int32} {d x : Nat} {M : qxM} {st : List Value} {ls : qxL} {t : Nat} (hk : qx_kd t = 17) (hs : st.length ≤ 4) : Rs L xs (d + 1) 375 3 ls (.ref t :: st) M x = (Rs L xs d 139 0 [some (.ref t), none] [] M 0).bind (qx_kn L xs (d + 1) 375 3 6 139 ls st x) := by
  have h1 : qx_act L xs (qx_rt 375) (3, .invokevirtual 143, 6, 139, 1, 1329) ls (.ref t :: st) M = if 1 ≤ (.ref t :: st).length ∧ st.length ≤ 4 then some (.inr (.inr (.inr (139, [.ref t], st)))) else none := rfl
  rw [if_pos ⟨by simp [List.length_cons]; try omega, hs⟩] at h1
  have h2 := qx_kd_obj (k := 7) (by decide) hk
  exact Rs_call c375_3 h1 (by rw [show qx_args 139 [.ref t] = decide (qx_sh t = some (.inl 7)) from rfl]; exact decide_eq_true h2)
theorem c375_6 : qx_code 375 6 = some (6, .dastore, 7, 0, 0, 0) := by decide +kernel
theorem s375_6 {L : Nat} {xs : Nat → Int32} {d x : Nat} {M : qxM} {st : List Value} {ls : qxL} {t : Nat} {j : Int32} {z : UInt64} (hk : qx_kd t = 5) (hj : qx_ib j (qx_ln t) = true) : Rs L xs (d) 375 6 ls (.double z :: .int j :: .ref t :: st) M x = Rs L xs (d) 375 7 ls st ((M.1, M.2.1, vf_upd M.2.2 j.toNatClampNeg z)) x := by
  have h1 := qx_kd_row (k := 5) (by decide) hk
  exact Rs_unless (qx_ib_not hj) c375_6 (by unfold qx_act; dsimp only; rw [h1]; rfl)
theorem c375_7 : qx_code 375 7 = some (7, .goto 6, 10, 13, 0, 0) := by decide +kernel
theorem s375_7 {L : Nat} {xs : Nat → Int32} {d x : Nat} {M : qxM} {st : List Value} {ls : qxL} : Rs L xs (d) 375 7 ls st M x = Rs L xs (d) 375 13 ls st M x := Rs_next c375_7 rfl
theorem c375_10 : qx_code 375 10 = some (10, .astore_n 2, 11, 0, 0, 0) := by decide +kernel
theorem s375_10i {L : Nat} {xs : Nat → Int32} {d x : Nat} {M : qxM} {st : List Value} {a0 a2 : Option Value} {z : Nat} {y : Int32} : Rs L xs (d) 375 10 [a0, some (.int y), a2] (.ref z :: st) M x = Rs L xs (d) 375 11 [a0, some (.int y), some (.ref z)] st M x := Rs_next c375_10 rfl
theorem s375_10r {L : Nat} {xs : Nat → Int32} {d x : Nat} {M : qxM} {st : List Value} {a0 a2 : Option Value} {z : Nat} {y : Nat} : Rs L xs (d) 375 10 [a0, some (.ref y), a2] (.ref z :: st) M x = Rs L xs (d) 375 11 [a0, some (.ref y), some (.ref z)] st M x := Rs_next c375_10 rfl
theorem s375_10n {L : Nat} {xs : Nat → Int32} {d x : Nat} {M : qxM} {st : List Value} {a0 a2 : Option Value} {z : Nat} : Rs L xs (d) 375 10 [a0, none, a2] (.ref z :: st) M x = Rs L xs (d) 375 11 [a0, none, some (.ref z)] st M x := Rs_next c375_10 rfl
theorem c375_11 : qx_code 375 11 = some (11, .iconst 1, 12, 0, 0, 0) := by decide +kernel
theorem s375_11 {L : Nat} {xs : Nat → Int32} {d x : Nat} {M : qxM} {st : List Value} {ls : qxL} : Rs L xs (d) 375 11 ls st M x = Rs L xs (d) 375 12 ls (.int (nI 1) :: st) M x := Rs_next c375_11 rfl
theorem c375_12 : qx_code 375 12 = some (12, .ireturn, 13, 0, 0, 0) := by decide +kernel
theorem s375_12 {L : Nat} {xs : Nat → Int32} {d x : Nat} {M : qxM} {ls : qxL} {z : Int32} : Rs L xs (d) 375 12 ls [.int z] M x = some (.inl (some (.int z)), M, x) := Rs_ret c375_12 rfl
theorem c375_13 : qx_code 375 13 = some (13, .iconst 0, 14, 0, 0, 0) := by decide +kernel
theorem s375_13 {L : Nat} {xs : Nat → Int32} {d x : Nat} {M : qxM} {st : List Value} {ls : qxL} : Rs L xs (d) 375 13 ls st M x = Rs L xs (d) 375 14 ls (.int (nI 0) :: st) M x := Rs_next c375_13 rfl
theorem c375_14 : qx_code 375 14 = some (14, .ireturn, 15, 0, 0, 0) := by decide +kernel
theorem s375_14 {L : Nat} {xs : Nat → Int32} {d x : Nat} {M : qxM} {ls : qxL} {z : Int32} : Rs L xs (d) 375 14 ls [.int z] M x = some (.inl (some (.int z)), M, x) := Rs_ret c375_14 rfl
theorem c376_0 : qx_code 376 0 = some (0, .aload_n 1, 1, 0, 0, 0) := by decide +kernel
theorem s376_0 {L : Nat} {xs : Nat → Int32} {d x : Nat} {M : qxM} {st : List Value} {a0 a2 : Option Value} {z : Nat} : Rs L xs (d) 376 0 [a0, some (.ref z), a2] st M x = Rs L xs (d) 376 1 [a0, some (.ref z), a2] (.ref z :: st) M x := Rs_next c376_0 rfl
theorem c376_1 : qx_code 376 1 = some (1, .iconst 0, 2, 0, 0, 0) := by decide +kernel
theorem s376_1 {L : Nat} {xs : Nat → Int32} {d x : Nat} {M : qxM} {st : List Value} {ls : qxL} : Rs L xs (d) 376 1 ls st M x = Rs L xs (d) 376 2 ls (.int (nI 0) :: st) M x := Rs_next c376_1 rfl
theorem c376_2 : qx_code 376 2 = some (2, .aload_n 0, 3, 0, 0, 0) := by decide +kernel
theorem s376_2 {L : Nat} {xs : Nat → Int32} {d x : Nat} {M : qxM} {st : List Value} {a1 a2 : Option Value} {z : Nat} : Rs L xs (d) 376 2 [some (.ref z), a1, a2] st M x = Rs L xs (d) 376 3 [some (.ref z), a1, a2] (.ref z :: st) M x := Rs_next c376_2 rfl
theorem c376_3 : qx_code 376 3 = some (3, .invokevirtual 147, 6, 140, 1, 1336) := by decide +kernel
theorem s376_3 {L : Nat} {xs : Nat → Int32} {d x : Nat} {M : qxM} {st : List Value} {ls : qxL} {t : Nat} (hk : qx_kd t = 17) (hs : st.length ≤ 4) : Rs L xs (d + 1) 376 3 ls (.ref t :: st) M x = (Rs L xs d 140 0 [some (.ref t), none] [] M 0).bind (qx_kn L xs (d + 1) 376 3 6 140 ls st x) := by
  have h1 : qx_act L xs (qx_rt 376) (3, .invokevirtual 147, 6, 140, 1, 1336) ls (.ref t :: st) M = if 1 ≤ (.ref t :: st).length ∧ st.length ≤ 4 then some (.inr (.inr (.inr (140, [.ref t], st)))) else none := rfl
  rw [if_pos ⟨by simp [List.length_cons]; try omega, hs⟩] at h1
  have h2 := qx_kd_obj (k := 7) (by decide) hk
  exact Rs_call c376_3 h1 (by rw [show qx_args 140 [.ref t] = decide (qx_sh t = some (.inl 7)) from rfl]; exact decide_eq_true h2)
theorem c376_6 : qx_code 376 6 = some (6, .f2d, 7, 0, 0, 0) := by decide +kernel
theorem s376_6 {L : Nat} {xs : Nat → Int32} {d x : Nat} {M : qxM} {st : List Value} {ls : qxL} {z : UInt32} (h : FP.f2d z &&& 0x7fffffffffffffff ≤ 0x7ff0000000000000) : Rs L xs (d) 376 6 ls (.float z :: st) M x = Rs L xs (d) 376 7 ls (.double (FP.f2d z) :: st) M x := Rs_when h c376_6 rfl
theorem c376_7 : qx_code 376 7 = some (7, .dastore, 8, 0, 0, 0) := by decide +kernel
theorem s376_7 {L : Nat} {xs : Nat → Int32} {d x : Nat} {M : qxM} {st : List Value} {ls : qxL} {t : Nat} {j : Int32} {z : UInt64} (hk : qx_kd t = 5) (hj : qx_ib j (qx_ln t) = true) : Rs L xs (d) 376 7 ls (.double z :: .int j :: .ref t :: st) M x = Rs L xs (d) 376 8 ls st ((M.1, M.2.1, vf_upd M.2.2 j.toNatClampNeg z)) x := by
  have h1 := qx_kd_row (k := 5) (by decide) hk
  exact Rs_unless (qx_ib_not hj) c376_7 (by unfold qx_act; dsimp only; rw [h1]; rfl)
theorem c376_8 : qx_code 376 8 = some (8, .goto 6, 11, 14, 0, 0) := by decide +kernel
theorem s376_8 {L : Nat} {xs : Nat → Int32} {d x : Nat} {M : qxM} {st : List Value} {ls : qxL} : Rs L xs (d) 376 8 ls st M x = Rs L xs (d) 376 14 ls st M x := Rs_next c376_8 rfl
theorem c376_11 : qx_code 376 11 = some (11, .astore_n 2, 12, 0, 0, 0) := by decide +kernel
theorem s376_11i {L : Nat} {xs : Nat → Int32} {d x : Nat} {M : qxM} {st : List Value} {a0 a2 : Option Value} {z : Nat} {y : Int32} : Rs L xs (d) 376 11 [a0, some (.int y), a2] (.ref z :: st) M x = Rs L xs (d) 376 12 [a0, some (.int y), some (.ref z)] st M x := Rs_next c376_11 rfl
theorem s376_11r {L : Nat} {xs : Nat → Int32} {d x : Nat} {M : qxM} {st : List Value} {a0 a2 : Option Value} {z : Nat} {y : Nat} : Rs L xs (d) 376 11 [a0, some (.ref y), a2] (.ref z :: st) M x = Rs L xs (d) 376 12 [a0, some (.ref y), some (.ref z)] st M x := Rs_next c376_11 rfl
theorem s376_11n {L : Nat} {xs : Nat → Int32} {d x : Nat} {M : qxM} {st : List Value} {a0 a2 : Option Value} {z : Nat} : Rs L xs (d) 376 11 [a0, none, a2] (.ref z :: st) M x = Rs L xs (d) 376 12 [a0, none, some (.ref z)] st M x := Rs_next c376_11 rfl
theorem c376_12 : qx_code 376 12 = some (12, .iconst 1, 13, 0, 0, 0) := by decide +kernel
theorem s376_12 {L : Nat} {xs : Nat → Int32} {d x : Nat} {M : qxM} {st : List Value} {ls : qxL} : Rs L xs (d) 376 12 ls st M x = Rs L xs (d) 376 13 ls (.int (nI 1) :: st) M x := Rs_next c376_12 rfl
theorem c376_13 : qx_code 376 13 = some (13, .ireturn, 14, 0, 0, 0) := by decide +kernel
theorem s376_13 {L : Nat} {xs : Nat → Int32} {d x : Nat} {M : qxM} {ls : qxL} {z : Int32} : Rs L xs (d) 376 13 ls [.int z] M x = some (.inl (some (.int z)), M, x) := Rs_ret c376_13 rfl
theorem c376_14 : qx_code 376 14 = some (14, .iconst 0, 15, 0, 0, 0) := by decide +kernel
theorem s376_14 {L : Nat} {xs : Nat → Int32} {d x : Nat} {M : qxM} {st : List Value} {ls : qxL} : Rs L xs (d) 376 14 ls st M x = Rs L xs (d) 376 15 ls (.int (nI 0) :: st) M x := Rs_next c376_14 rfl
theorem c376_15 : qx_code 376 15 = some (15, .ireturn, 16, 0, 0, 0) := by decide +kernel
theorem s376_15 {L : Nat} {xs : Nat → Int32} {d x : Nat} {M : qxM} {ls : qxL} {z : Int32} : Rs L xs (d) 376 15 ls [.int z] M x = some (.inl (some (.int z)), M, x) := Rs_ret c376_15 rfl
theorem c377_0 : qx_code 377 0 = some (0, .aload_n 1, 1, 0, 0, 0) := by decide +kernel
theorem s377_0 {L : Nat} {xs : Nat → Int32} {d x : Nat} {M : qxM} {st : List Value} {a0 a2 : Option Value} {z : Nat} : Rs L xs (d) 377 0 [a0, some (.ref z), a2] st M x = Rs L xs (d) 377 1 [a0, some (.ref z), a2] (.ref z :: st) M x := Rs_next c377_0 rfl
theorem c377_1 : qx_code 377 1 = some (1, .iconst 0, 2, 0, 0, 0) := by decide +kernel
theorem s377_1 {L : Nat} {xs : Nat → Int32} {d x : Nat} {M : qxM} {st : List Value} {ls : qxL} : Rs L xs (d) 377 1 ls st M x = Rs L xs (d) 377 2 ls (.int (nI 0) :: st) M x := Rs_next c377_1 rfl
theorem c377_2 : qx_code 377 2 = some (2, .aload_n 0, 3, 0, 0, 0) := by decide +kernel
theorem s377_2 {L : Nat} {xs : Nat → Int32} {d x : Nat} {M : qxM} {st : List Value} {a1 a2 : Option Value} {z : Nat} : Rs L xs (d) 377 2 [some (.ref z), a1, a2] st M x = Rs L xs (d) 377 3 [some (.ref z), a1, a2] (.ref z :: st) M x := Rs_next c377_2 rfl
theorem c377_3 : qx_code 377 3 = some (3, .invokevirtual 151, 6, 141, 1, 1343) := by decide +kernel
theorem s377_3 {L : Nat} {xs : Nat → Int32} {d x : Nat} {M : qxM} {st : List Value} {ls : qxL} {t : Nat} (hk : qx_kd t = 17) (hs : st.length ≤ 4) : Rs L xs (d + 1) 377 3 ls (.ref t :: st) M x = (Rs L xs d 141 0 [some (.ref t), none, none] [] M 0).bind (qx_kn L xs (d + 1) 377 3 6 141 ls st x) := by
  have h1 : qx_act L xs (qx_rt 377) (3, .invokevirtual 151, 6, 141, 1, 1343) ls (.ref t :: st) M = if 1 ≤ (.ref t :: st).length ∧ st.length ≤ 4 then some (.inr (.inr (.inr (141, [.ref t], st)))) else none := rfl
  rw [if_pos ⟨by simp [List.length_cons]; try omega, hs⟩] at h1
  have h2 := qx_kd_obj (k := 7) (by decide) hk
  exact Rs_call c377_3 h1 (by rw [show qx_args 141 [.ref t] = decide (qx_sh t = some (.inl 7)) from rfl]; exact decide_eq_true h2)
theorem c377_6 : qx_code 377 6 = some (6, .i2l, 7, 0, 0, 0) := by decide +kernel
theorem s377_6 {L : Nat} {xs : Nat → Int32} {d x : Nat} {M : qxM} {st : List Value} {ls : qxL} {z : Int32} : Rs L xs (d) 377 6 ls (.int z :: st) M x = Rs L xs (d) 377 7 ls (.long z.toInt64 :: st) M x := Rs_next c377_6 rfl
theorem c377_7 : qx_code 377 7 = some (7, .lastore, 8, 0, 0, 0) := by decide +kernel
theorem s377_7 {L : Nat} {xs : Nat → Int32} {d x : Nat} {M : qxM} {st : List Value} {ls : qxL} {t : Nat} {j : Int32} {z : Int64} (hk : qx_kd t = 4) (hj : qx_ib j (qx_ln t) = true) : Rs L xs (d) 377 7 ls (.long z :: .int j :: .ref t :: st) M x = Rs L xs (d) 377 8 ls st ((M.1, vp_updL M.2.1 j.toNatClampNeg z, M.2.2)) x := by
  have h1 := qx_kd_row (k := 4) (by decide) hk
  exact Rs_unless (qx_ib_not hj) c377_7 (by unfold qx_act; dsimp only; rw [h1]; rfl)
theorem c377_8 : qx_code 377 8 = some (8, .goto 6, 11, 14, 0, 0) := by decide +kernel
theorem s377_8 {L : Nat} {xs : Nat → Int32} {d x : Nat} {M : qxM} {st : List Value} {ls : qxL} : Rs L xs (d) 377 8 ls st M x = Rs L xs (d) 377 14 ls st M x := Rs_next c377_8 rfl
theorem c377_11 : qx_code 377 11 = some (11, .astore_n 2, 12, 0, 0, 0) := by decide +kernel
theorem s377_11i {L : Nat} {xs : Nat → Int32} {d x : Nat} {M : qxM} {st : List Value} {a0 a2 : Option Value} {z : Nat} {y : Int32} : Rs L xs (d) 377 11 [a0, some (.int y), a2] (.ref z :: st) M x = Rs L xs (d) 377 12 [a0, some (.int y), some (.ref z)] st M x := Rs_next c377_11 rfl
theorem s377_11r {L : Nat} {xs : Nat → Int32} {d x : Nat} {M : qxM} {st : List Value} {a0 a2 : Option Value} {z : Nat} {y : Nat} : Rs L xs (d) 377 11 [a0, some (.ref y), a2] (.ref z :: st) M x = Rs L xs (d) 377 12 [a0, some (.ref y), some (.ref z)] st M x := Rs_next c377_11 rfl
theorem s377_11n {L : Nat} {xs : Nat → Int32} {d x : Nat} {M : qxM} {st : List Value} {a0 a2 : Option Value} {z : Nat} : Rs L xs (d) 377 11 [a0, none, a2] (.ref z :: st) M x = Rs L xs (d) 377 12 [a0, none, some (.ref z)] st M x := Rs_next c377_11 rfl
theorem c377_12 : qx_code 377 12 = some (12, .iconst 1, 13, 0, 0, 0) := by decide +kernel
theorem s377_12 {L : Nat} {xs : Nat → Int32} {d x : Nat} {M : qxM} {st : List Value} {ls : qxL} : Rs L xs (d) 377 12 ls st M x = Rs L xs (d) 377 13 ls (.int (nI 1) :: st) M x := Rs_next c377_12 rfl
theorem c377_13 : qx_code 377 13 = some (13, .ireturn, 14, 0, 0, 0) := by decide +kernel
theorem s377_13 {L : Nat} {xs : Nat → Int32} {d x : Nat} {M : qxM} {ls : qxL} {z : Int32} : Rs L xs (d) 377 13 ls [.int z] M x = some (.inl (some (.int z)), M, x) := Rs_ret c377_13 rfl
theorem c377_14 : qx_code 377 14 = some (14, .iconst 0, 15, 0, 0, 0) := by decide +kernel
theorem s377_14 {L : Nat} {xs : Nat → Int32} {d x : Nat} {M : qxM} {st : List Value} {ls : qxL} : Rs L xs (d) 377 14 ls st M x = Rs L xs (d) 377 15 ls (.int (nI 0) :: st) M x := Rs_next c377_14 rfl
theorem c377_15 : qx_code 377 15 = some (15, .ireturn, 16, 0, 0, 0) := by decide +kernel
theorem s377_15 {L : Nat} {xs : Nat → Int32} {d x : Nat} {M : qxM} {ls : qxL} {z : Int32} : Rs L xs (d) 377 15 ls [.int z] M x = some (.inl (some (.int z)), M, x) := Rs_ret c377_15 rfl
theorem c378_0 : qx_code 378 0 = some (0, .aload_n 1, 1, 0, 0, 0) := by decide +kernel
theorem s378_0 {L : Nat} {xs : Nat → Int32} {d x : Nat} {M : qxM} {st : List Value} {a0 a2 : Option Value} {z : Nat} : Rs L xs (d) 378 0 [a0, some (.ref z), a2] st M x = Rs L xs (d) 378 1 [a0, some (.ref z), a2] (.ref z :: st) M x := Rs_next c378_0 rfl
theorem c378_1 : qx_code 378 1 = some (1, .iconst 0, 2, 0, 0, 0) := by decide +kernel
theorem s378_1 {L : Nat} {xs : Nat → Int32} {d x : Nat} {M : qxM} {st : List Value} {ls : qxL} : Rs L xs (d) 378 1 ls st M x = Rs L xs (d) 378 2 ls (.int (nI 0) :: st) M x := Rs_next c378_1 rfl
theorem c378_2 : qx_code 378 2 = some (2, .aload_n 0, 3, 0, 0, 0) := by decide +kernel
theorem s378_2 {L : Nat} {xs : Nat → Int32} {d x : Nat} {M : qxM} {st : List Value} {a1 a2 : Option Value} {z : Nat} : Rs L xs (d) 378 2 [some (.ref z), a1, a2] st M x = Rs L xs (d) 378 3 [some (.ref z), a1, a2] (.ref z :: st) M x := Rs_next c378_2 rfl
theorem c378_3 : qx_code 378 3 = some (3, .invokevirtual 154, 6, 142, 1, 1371) := by decide +kernel
theorem s378_3 {L : Nat} {xs : Nat → Int32} {d x : Nat} {M : qxM} {st : List Value} {ls : qxL} {t : Nat} (hk : qx_kd t = 17) (hs : st.length ≤ 4) : Rs L xs (d + 1) 378 3 ls (.ref t :: st) M x = (Rs L xs d 142 0 [some (.ref t), none, none, none] [] M 0).bind (qx_kn L xs (d + 1) 378 3 6 142 ls st x) := by
  have h1 : qx_act L xs (qx_rt 378) (3, .invokevirtual 154, 6, 142, 1, 1371) ls (.ref t :: st) M = if 1 ≤ (.ref t :: st).length ∧ st.length ≤ 4 then some (.inr (.inr (.inr (142, [.ref t], st)))) else none := rfl
  rw [if_pos ⟨by simp [List.length_cons]; try omega, hs⟩] at h1
  have h2 := qx_kd_obj (k := 7) (by decide) hk
  exact Rs_call c378_3 h1 (by rw [show qx_args 142 [.ref t] = decide (qx_sh t = some (.inl 7)) from rfl]; exact decide_eq_true h2)
theorem c378_6 : qx_code 378 6 = some (6, .i2l, 7, 0, 0, 0) := by decide +kernel
theorem s378_6 {L : Nat} {xs : Nat → Int32} {d x : Nat} {M : qxM} {st : List Value} {ls : qxL} {z : Int32} : Rs L xs (d) 378 6 ls (.int z :: st) M x = Rs L xs (d) 378 7 ls (.long z.toInt64 :: st) M x := Rs_next c378_6 rfl
theorem c378_7 : qx_code 378 7 = some (7, .lastore, 8, 0, 0, 0) := by decide +kernel
theorem s378_7 {L : Nat} {xs : Nat → Int32} {d x : Nat} {M : qxM} {st : List Value} {ls : qxL} {t : Nat} {j : Int32} {z : Int64} (hk : qx_kd t = 4) (hj : qx_ib j (qx_ln t) = true) : Rs L xs (d) 378 7 ls (.long z :: .int j :: .ref t :: st) M x = Rs L xs (d) 378 8 ls st ((M.1, vp_updL M.2.1 j.toNatClampNeg z, M.2.2)) x := by
  have h1 := qx_kd_row (k := 4) (by decide) hk
  exact Rs_unless (qx_ib_not hj) c378_7 (by unfold qx_act; dsimp only; rw [h1]; rfl)
theorem c378_8 : qx_code 378 8 = some (8, .goto 6, 11, 14, 0, 0) := by decide +kernel
theorem s378_8 {L : Nat} {xs : Nat → Int32} {d x : Nat} {M : qxM} {st : List Value} {ls : qxL} : Rs L xs (d) 378 8 ls st M x = Rs L xs (d) 378 14 ls st M x := Rs_next c378_8 rfl
theorem c378_11 : qx_code 378 11 = some (11, .astore_n 2, 12, 0, 0, 0) := by decide +kernel
theorem s378_11i {L : Nat} {xs : Nat → Int32} {d x : Nat} {M : qxM} {st : List Value} {a0 a2 : Option Value} {z : Nat} {y : Int32} : Rs L xs (d) 378 11 [a0, some (.int y), a2] (.ref z :: st) M x = Rs L xs (d) 378 12 [a0, some (.int y), some (.ref z)] st M x := Rs_next c378_11 rfl
theorem s378_11r {L : Nat} {xs : Nat → Int32} {d x : Nat} {M : qxM} {st : List Value} {a0 a2 : Option Value} {z : Nat} {y : Nat} : Rs L xs (d) 378 11 [a0, some (.ref y), a2] (.ref z :: st) M x = Rs L xs (d) 378 12 [a0, some (.ref y), some (.ref z)] st M x := Rs_next c378_11 rfl
theorem s378_11n {L : Nat} {xs : Nat → Int32} {d x : Nat} {M : qxM} {st : List Value} {a0 a2 : Option Value} {z : Nat} : Rs L xs (d) 378 11 [a0, none, a2] (.ref z :: st) M x = Rs L xs (d) 378 12 [a0, none, some (.ref z)] st M x := Rs_next c378_11 rfl
theorem c378_12 : qx_code 378 12 = some (12, .iconst 1, 13, 0, 0, 0) := by decide +kernel
theorem s378_12 {L : Nat} {xs : Nat → Int32} {d x : Nat} {M : qxM} {st : List Value} {ls : qxL} : Rs L xs (d) 378 12 ls st M x = Rs L xs (d) 378 13 ls (.int (nI 1) :: st) M x := Rs_next c378_12 rfl
theorem c378_13 : qx_code 378 13 = some (13, .ireturn, 14, 0, 0, 0) := by decide +kernel
theorem s378_13 {L : Nat} {xs : Nat → Int32} {d x : Nat} {M : qxM} {ls : qxL} {z : Int32} : Rs L xs (d) 378 13 ls [.int z] M x = some (.inl (some (.int z)), M, x) := Rs_ret c378_13 rfl
theorem c378_14 : qx_code 378 14 = some (14, .iconst 0, 15, 0, 0, 0) := by decide +kernel
theorem s378_14 {L : Nat} {xs : Nat → Int32} {d x : Nat} {M : qxM} {st : List Value} {ls : qxL} : Rs L xs (d) 378 14 ls st M x = Rs L xs (d) 378 15 ls (.int (nI 0) :: st) M x := Rs_next c378_14 rfl
theorem c378_15 : qx_code 378 15 = some (15, .ireturn, 16, 0, 0, 0) := by decide +kernel
theorem s378_15 {L : Nat} {xs : Nat → Int32} {d x : Nat} {M : qxM} {ls : qxL} {z : Int32} : Rs L xs (d) 378 15 ls [.int z] M x = some (.inl (some (.int z)), M, x) := Rs_ret c378_15 rfl
theorem c379_0 : qx_code 379 0 = some (0, .aload_n 2, 1, 0, 0, 0) := by decide +kernel
theorem s379_0 {L : Nat} {xs : Nat → Int32} {d x : Nat} {M : qxM} {st : List Value} {a0 a1 a3 : Option Value} {z : Nat} : Rs L xs (d) 379 0 [a0, a1, some (.ref z), a3] st M x = Rs L xs (d) 379 1 [a0, a1, some (.ref z), a3] (.ref z :: st) M x := Rs_next c379_0 rfl
theorem c379_1 : qx_code 379 1 = some (1, .iconst 0, 2, 0, 0, 0) := by decide +kernel
theorem s379_1 {L : Nat} {xs : Nat → Int32} {d x : Nat} {M : qxM} {st : List Value} {ls : qxL} : Rs L xs (d) 379 1 ls st M x = Rs L xs (d) 379 2 ls (.int (nI 0) :: st) M x := Rs_next c379_1 rfl
theorem c379_2 : qx_code 379 2 = some (2, .aload_n 0, 3, 0, 0, 0) := by decide +kernel
theorem s379_2 {L : Nat} {xs : Nat → Int32} {d x : Nat} {M : qxM} {st : List Value} {a1 a2 a3 : Option Value} {z : Nat} : Rs L xs (d) 379 2 [some (.ref z), a1, a2, a3] st M x = Rs L xs (d) 379 3 [some (.ref z), a1, a2, a3] (.ref z :: st) M x := Rs_next c379_2 rfl
theorem c379_3 : qx_code 379 3 = some (3, .iload_n 1, 4, 0, 0, 0) := by decide +kernel
theorem s379_3 {L : Nat} {xs : Nat → Int32} {d x : Nat} {M : qxM} {st : List Value} {a0 a2 a3 : Option Value} {z : Int32} : Rs L xs (d) 379 3 [a0, some (.int z), a2, a3] st M x = Rs L xs (d) 379 4 [a0, some (.int z), a2, a3] (.int z :: st) M x := Rs_next c379_3 rfl
theorem c379_4 : qx_code 379 4 = some (4, .invokevirtual 157, 7, 143, 2, 1385) := by decide +kernel
theorem s379_4 {L : Nat} {xs : Nat → Int32} {d x : Nat} {M : qxM} {st : List Value} {ls : qxL} {t : Nat} {z0 : Int32} (hk : qx_kd t = 17) (hs : st.length ≤ 4) : Rs L xs (d + 1) 379 4 ls (.int z0 :: .ref t :: st) M x = (Rs L xs d 143 0 [some (.ref t), some (.int z0), none, none] [] M 0).bind (qx_kn L xs (d + 1) 379 4 7 143 ls st x) := by
  have h1 : qx_act L xs (qx_rt 379) (4, .invokevirtual 157, 7, 143, 2, 1385) ls (.int z0 :: .ref t :: st) M = if 2 ≤ (.int z0 :: .ref t :: st).length ∧ st.length ≤ 4 then some (.inr (.inr (.inr (143, [.ref t, .int z0], st)))) else none := rfl
  rw [if_pos ⟨by simp [List.length_cons]; try omega, hs⟩] at h1
  have h2 := qx_kd_obj (k := 7) (by decide) hk
  exact Rs_call c379_4 h1 (by rw [show qx_args 143 [.ref t, .int z0] = decide (qx_sh t = some (.inl 7)) from rfl]; exact decide_eq_true h2)
theorem c379_7 : qx_code 379 7 = some (7, .i2l, 8, 0, 0, 0) := by decide +kernel
theorem s379_7 {L : Nat} {xs : Nat → Int32} {d x : Nat} {M : qxM} {st : List Value} {ls : qxL} {z : Int32} : Rs L xs (d) 379 7 ls (.int z :: st) M x = Rs L xs (d) 379 8 ls (.long z.toInt64 :: st) M x := Rs_next c379_7 rfl
theorem c379_8 : qx_code 379 8 = some (8, .lastore, 9, 0, 0, 0) := by decide +kernel
theorem s379_8 {L : Nat} {xs : Nat → Int32} {d x : Nat} {M : qxM} {st : List Value} {ls : qxL} {t : Nat} {j : Int32} {z : Int64} (hk : qx_kd t = 4) (hj : qx_ib j (qx_ln t) = true) : Rs L xs (d) 379 8 ls (.long z :: .int j :: .ref t :: st) M x = Rs L xs (d) 379 9 ls st ((M.1, vp_updL M.2.1 j.toNatClampNeg z, M.2.2)) x := by
  have h1 := qx_kd_row (k := 4) (by decide) hk
  exact Rs_unless (qx_ib_not hj) c379_8 (by unfold qx_act; dsimp only; rw [h1]; rfl)
theorem c379_9 : qx_code 379 9 = some (9, .goto 9, 12, 18, 0, 0) := by decide +kernel
theorem s379_9 {L : Nat} {xs : Nat → Int32} {d x : Nat} {M : qxM} {st : List Value} {ls : qxL} : Rs L xs (d) 379 9 ls st M x = Rs L xs (d) 379 18 ls st M x := Rs_next c379_9 rfl
theorem c379_12 : qx_code 379 12 = some (12, .astore_n 3, 13, 0, 0, 0) := by decide +kernel
theorem s379_12i {L : Nat} {xs : Nat → Int32} {d x : Nat} {M : qxM} {st : List Value} {a0 a1 a3 : Option Value} {z : Nat} {y : Int32} : Rs L xs (d) 379 12 [a0, a1, some (.int y), a3] (.ref z :: st) M x = Rs L xs (d) 379 13 [a0, a1, some (.int y), some (.ref z)] st M x := Rs_next c379_12 rfl
theorem s379_12r {L : Nat} {xs : Nat → Int32} {d x : Nat} {M : qxM} {st : List Value} {a0 a1 a3 : Option Value} {z : Nat} {y : Nat} : Rs L xs (d) 379 12 [a0, a1, some (.ref y), a3] (.ref z :: st) M x = Rs L xs (d) 379 13 [a0, a1, some (.ref y), some (.ref z)] st M x := Rs_next c379_12 rfl
theorem s379_12n {L : Nat} {xs : Nat → Int32} {d x : Nat} {M : qxM} {st : List Value} {a0 a1 a3 : Option Value} {z : Nat} : Rs L xs (d) 379 12 [a0, a1, none, a3] (.ref z :: st) M x = Rs L xs (d) 379 13 [a0, a1, none, some (.ref z)] st M x := Rs_next c379_12 rfl
theorem c379_13 : qx_code 379 13 = some (13, .iconst 1, 14, 0, 0, 0) := by decide +kernel
theorem s379_13 {L : Nat} {xs : Nat → Int32} {d x : Nat} {M : qxM} {st : List Value} {ls : qxL} : Rs L xs (d) 379 13 ls st M x = Rs L xs (d) 379 14 ls (.int (nI 1) :: st) M x := Rs_next c379_13 rfl
theorem c379_14 : qx_code 379 14 = some (14, .ireturn, 15, 0, 0, 0) := by decide +kernel
theorem s379_14 {L : Nat} {xs : Nat → Int32} {d x : Nat} {M : qxM} {ls : qxL} {z : Int32} : Rs L xs (d) 379 14 ls [.int z] M x = some (.inl (some (.int z)), M, x) := Rs_ret c379_14 rfl
theorem c379_15 : qx_code 379 15 = some (15, .astore_n 3, 16, 0, 0, 0) := by decide +kernel
theorem s379_15i {L : Nat} {xs : Nat → Int32} {d x : Nat} {M : qxM} {st : List Value} {a0 a1 a3 : Option Value} {z : Nat} {y : Int32} : Rs L xs (d) 379 15 [a0, a1, some (.int y), a3] (.ref z :: st) M x = Rs L xs (d) 379 16 [a0, a1, some (.int y), some (.ref z)] st M x := Rs_next c379_15 rfl
theorem s379_15r {L : Nat} {xs : Nat → Int32} {d x : Nat} {M : qxM} {st : List Value} {a0 a1 a3 : Option Value} {z : Nat} {y : Nat} : Rs L xs (d) 379 15 [a0, a1, some (.ref y), a3] (.ref z :: st) M x = Rs L xs (d) 379 16 [a0, a1, some (.ref y), some (.ref z)] st M x := Rs_next c379_15 rfl
theorem s379_15n {L : Nat} {xs : Nat → Int32} {d x : Nat} {M : qxM} {st : List Value} {a0 a1 a3 : Option Value} {z : Nat} : Rs L xs (d) 379 15 [a0, a1, none, a3] (.ref z :: st) M x = Rs L xs (d) 379 16 [a0, a1, none, some (.ref z)] st M x := Rs_next c379_15 rfl
theorem c379_16 : qx_code 379 16 = some (16, .iconst 2, 17, 0, 0, 0) := by decide +kernel
theorem s379_16 {L : Nat} {xs : Nat → Int32} {d x : Nat} {M : qxM} {st : List Value} {ls : qxL} : Rs L xs (d) 379 16 ls st M x = Rs L xs (d) 379 17 ls (.int (nI 2) :: st) M x := Rs_next c379_16 rfl
theorem c379_17 : qx_code 379 17 = some (17, .ireturn, 18, 0, 0, 0) := by decide +kernel
theorem s379_17 {L : Nat} {xs : Nat → Int32} {d x : Nat} {M : qxM} {ls : qxL} {z : Int32} : Rs L xs (d) 379 17 ls [.int z] M x = some (.inl (some (.int z)), M, x) := Rs_ret c379_17 rfl
theorem c379_18 : qx_code 379 18 = some (18, .iconst 0, 19, 0, 0, 0) := by decide +kernel
theorem s379_18 {L : Nat} {xs : Nat → Int32} {d x : Nat} {M : qxM} {st : List Value} {ls : qxL} : Rs L xs (d) 379 18 ls st M x = Rs L xs (d) 379 19 ls (.int (nI 0) :: st) M x := Rs_next c379_18 rfl
theorem c379_19 : qx_code 379 19 = some (19, .ireturn, 20, 0, 0, 0) := by decide +kernel
theorem s379_19 {L : Nat} {xs : Nat → Int32} {d x : Nat} {M : qxM} {ls : qxL} {z : Int32} : Rs L xs (d) 379 19 ls [.int z] M x = some (.inl (some (.int z)), M, x) := Rs_ret c379_19 rfl
theorem c380_0 : qx_code 380 0 = some (0, .aload_n 2, 1, 0, 0, 0) := by decide +kernel
theorem s380_0 {L : Nat} {xs : Nat → Int32} {d x : Nat} {M : qxM} {st : List Value} {a0 a1 a3 : Option Value} {z : Nat} : Rs L xs (d) 380 0 [a0, a1, some (.ref z), a3] st M x = Rs L xs (d) 380 1 [a0, a1, some (.ref z), a3] (.ref z :: st) M x := Rs_next c380_0 rfl
theorem c380_1 : qx_code 380 1 = some (1, .iconst 0, 2, 0, 0, 0) := by decide +kernel
theorem s380_1 {L : Nat} {xs : Nat → Int32} {d x : Nat} {M : qxM} {st : List Value} {ls : qxL} : Rs L xs (d) 380 1 ls st M x = Rs L xs (d) 380 2 ls (.int (nI 0) :: st) M x := Rs_next c380_1 rfl
theorem c380_2 : qx_code 380 2 = some (2, .aload_n 0, 3, 0, 0, 0) := by decide +kernel
theorem s380_2 {L : Nat} {xs : Nat → Int32} {d x : Nat} {M : qxM} {st : List Value} {a1 a2 a3 : Option Value} {z : Nat} : Rs L xs (d) 380 2 [some (.ref z), a1, a2, a3] st M x = Rs L xs (d) 380 3 [some (.ref z), a1, a2, a3] (.ref z :: st) M x := Rs_next c380_2 rfl
theorem c380_3 : qx_code 380 3 = some (3, .iload_n 1, 4, 0, 0, 0) := by decide +kernel
theorem s380_3 {L : Nat} {xs : Nat → Int32} {d x : Nat} {M : qxM} {st : List Value} {a0 a2 a3 : Option Value} {z : Int32} : Rs L xs (d) 380 3 [a0, some (.int z), a2, a3] st M x = Rs L xs (d) 380 4 [a0, some (.int z), a2, a3] (.int z :: st) M x := Rs_next c380_3 rfl
theorem c380_4 : qx_code 380 4 = some (4, .invokevirtual 160, 7, 144, 2, 1392) := by decide +kernel
theorem s380_4 {L : Nat} {xs : Nat → Int32} {d x : Nat} {M : qxM} {st : List Value} {ls : qxL} {t : Nat} {z0 : Int32} (hk : qx_kd t = 17) (hs : st.length ≤ 4) : Rs L xs (d + 1) 380 4 ls (.int z0 :: .ref t :: st) M x = (Rs L xs d 144 0 [some (.ref t), some (.int z0)] [] M 0).bind (qx_kn L xs (d + 1) 380 4 7 144 ls st x) := by
  have h1 : qx_act L xs (qx_rt 380) (4, .invokevirtual 160, 7, 144, 2, 1392) ls (.int z0 :: .ref t :: st) M = if 2 ≤ (.int z0 :: .ref t :: st).length ∧ st.length ≤ 4 then some (.inr (.inr (.inr (144, [.ref t, .int z0], st)))) else none := rfl
  rw [if_pos ⟨by simp [List.length_cons]; try omega, hs⟩] at h1
  have h2 := qx_kd_obj (k := 7) (by decide) hk
  exact Rs_call c380_4 h1 (by rw [show qx_args 144 [.ref t, .int z0] = decide (qx_sh t = some (.inl 7)) from rfl]; exact decide_eq_true h2)
theorem c380_7 : qx_code 380 7 = some (7, .i2l, 8, 0, 0, 0) := by decide +kernel
theorem s380_7 {L : Nat} {xs : Nat → Int32} {d x : Nat} {M : qxM} {st : List Value} {ls : qxL} {z : Int32} : Rs L xs (d) 380 7 ls (.int z :: st) M x = Rs L xs (d) 380 8 ls (.long z.toInt64 :: st) M x := Rs_next c380_7 rfl
theorem c380_8 : qx_code 380 8 = some (8, .lastore, 9, 0, 0, 0) := by decide +kernel
theorem s380_8 {L : Nat} {xs : Nat → Int32} {d x : Nat} {M : qxM} {st : List Value} {ls : qxL} {t : Nat} {j : Int32} {z : Int64} (hk : qx_kd t = 4) (hj : qx_ib j (qx_ln t) = true) : Rs L xs (d) 380 8 ls (.long z :: .int j :: .ref t :: st) M x = Rs L xs (d) 380 9 ls st ((M.1, vp_updL M.2.1 j.toNatClampNeg z, M.2.2)) x := by
  have h1 := qx_kd_row (k := 4) (by decide) hk
  exact Rs_unless (qx_ib_not hj) c380_8 (by unfold qx_act; dsimp only; rw [h1]; rfl)
theorem c380_9 : qx_code 380 9 = some (9, .goto 6, 12, 15, 0, 0) := by decide +kernel
theorem s380_9 {L : Nat} {xs : Nat → Int32} {d x : Nat} {M : qxM} {st : List Value} {ls : qxL} : Rs L xs (d) 380 9 ls st M x = Rs L xs (d) 380 15 ls st M x := Rs_next c380_9 rfl
theorem c380_12 : qx_code 380 12 = some (12, .astore_n 3, 13, 0, 0, 0) := by decide +kernel
theorem s380_12i {L : Nat} {xs : Nat → Int32} {d x : Nat} {M : qxM} {st : List Value} {a0 a1 a3 : Option Value} {z : Nat} {y : Int32} : Rs L xs (d) 380 12 [a0, a1, some (.int y), a3] (.ref z :: st) M x = Rs L xs (d) 380 13 [a0, a1, some (.int y), some (.ref z)] st M x := Rs_next c380_12 rfl
theorem s380_12r {L : Nat} {xs : Nat → Int32} {d x : Nat} {M : qxM} {st : List Value} {a0 a1 a3 : Option Value} {z : Nat} {y : Nat} : Rs L xs (d) 380 12 [a0, a1, some (.ref y), a3] (.ref z :: st) M x = Rs L xs (d) 380 13 [a0, a1, some (.ref y), some (.ref z)] st M x := Rs_next c380_12 rfl
theorem s380_12n {L : Nat} {xs : Nat → Int32} {d x : Nat} {M : qxM} {st : List Value} {a0 a1 a3 : Option Value} {z : Nat} : Rs L xs (d) 380 12 [a0, a1, none, a3] (.ref z :: st) M x = Rs L xs (d) 380 13 [a0, a1, none, some (.ref z)] st M x := Rs_next c380_12 rfl
theorem c380_13 : qx_code 380 13 = some (13, .iconst 1, 14, 0, 0, 0) := by decide +kernel
theorem s380_13 {L : Nat} {xs : Nat → Int32} {d x : Nat} {M : qxM} {st : List Value} {ls : qxL} : Rs L xs (d) 380 13 ls st M x = Rs L xs (d) 380 14 ls (.int (nI 1) :: st) M x := Rs_next c380_13 rfl
theorem c380_14 : qx_code 380 14 = some (14, .ireturn, 15, 0, 0, 0) := by decide +kernel
theorem s380_14 {L : Nat} {xs : Nat → Int32} {d x : Nat} {M : qxM} {ls : qxL} {z : Int32} : Rs L xs (d) 380 14 ls [.int z] M x = some (.inl (some (.int z)), M, x) := Rs_ret c380_14 rfl
theorem c380_15 : qx_code 380 15 = some (15, .iconst 0, 16, 0, 0, 0) := by decide +kernel
theorem s380_15 {L : Nat} {xs : Nat → Int32} {d x : Nat} {M : qxM} {st : List Value} {ls : qxL} : Rs L xs (d) 380 15 ls st M x = Rs L xs (d) 380 16 ls (.int (nI 0) :: st) M x := Rs_next c380_15 rfl
theorem c380_16 : qx_code 380 16 = some (16, .ireturn, 17, 0, 0, 0) := by decide +kernel
theorem s380_16 {L : Nat} {xs : Nat → Int32} {d x : Nat} {M : qxM} {ls : qxL} {z : Int32} : Rs L xs (d) 380 16 ls [.int z] M x = some (.inl (some (.int z)), M, x) := Rs_ret c380_16 rfl
theorem c381_0 : qx_code 381 0 = some (0, .aload_n 2, 1, 0, 0, 0) := by decide +kernel
theorem s381_0 {L : Nat} {xs : Nat → Int32} {d x : Nat} {M : qxM} {st : List Value} {a0 a1 a3 : Option Value} {z : Nat} : Rs L xs (d) 381 0 [a0, a1, some (.ref z), a3] st M x = Rs L xs (d) 381 1 [a0, a1, some (.ref z), a3] (.ref z :: st) M x := Rs_next c381_0 rfl
theorem c381_1 : qx_code 381 1 = some (1, .iconst 0, 2, 0, 0, 0) := by decide +kernel
theorem s381_1 {L : Nat} {xs : Nat → Int32} {d x : Nat} {M : qxM} {st : List Value} {ls : qxL} : Rs L xs (d) 381 1 ls st M x = Rs L xs (d) 381 2 ls (.int (nI 0) :: st) M x := Rs_next c381_1 rfl
theorem c381_2 : qx_code 381 2 = some (2, .aload_n 0, 3, 0, 0, 0) := by decide +kernel
theorem s381_2 {L : Nat} {xs : Nat → Int32} {d x : Nat} {M : qxM} {st : List Value} {a1 a2 a3 : Option Value} {z : Nat} : Rs L xs (d) 381 2 [some (.ref z), a1, a2, a3] st M x = Rs L xs (d) 381 3 [some (.ref z), a1, a2, a3] (.ref z :: st) M x := Rs_next c381_2 rfl
theorem c381_3 : qx_code 381 3 = some (3, .iload_n 1, 4, 0, 0, 0) := by decide +kernel
theorem s381_3 {L : Nat} {xs : Nat → Int32} {d x : Nat} {M : qxM} {st : List Value} {a0 a2 a3 : Option Value} {z : Int32} : Rs L xs (d) 381 3 [a0, some (.int z), a2, a3] st M x = Rs L xs (d) 381 4 [a0, some (.int z), a2, a3] (.int z :: st) M x := Rs_next c381_3 rfl
theorem c381_4 : qx_code 381 4 = some (4, .invokevirtual 163, 7, 145, 2, 1400) := by decide +kernel
theorem s381_4 {L : Nat} {xs : Nat → Int32} {d x : Nat} {M : qxM} {st : List Value} {ls : qxL} {t : Nat} {z0 : Int32} (hk : qx_kd t = 17) (hs : st.length ≤ 4) : Rs L xs (d + 1) 381 4 ls (.int z0 :: .ref t :: st) M x = (Rs L xs d 145 0 [some (.ref t), some (.int z0)] [] M 0).bind (qx_kn L xs (d + 1) 381 4 7 145 ls st x) := by
  have h1 : qx_act L xs (qx_rt 381) (4, .invokevirtual 163, 7, 145, 2, 1400) ls (.int z0 :: .ref t :: st) M = if 2 ≤ (.int z0 :: .ref t :: st).length ∧ st.length ≤ 4 then some (.inr (.inr (.inr (145, [.ref t, .int z0], st)))) else none := rfl
  rw [if_pos ⟨by simp [List.length_cons]; try omega, hs⟩] at h1
  have h2 := qx_kd_obj (k := 7) (by decide) hk
  exact Rs_call c381_4 h1 (by rw [show qx_args 145 [.ref t, .int z0] = decide (qx_sh t = some (.inl 7)) from rfl]; exact decide_eq_true h2)
theorem c381_7 : qx_code 381 7 = some (7, .i2l, 8, 0, 0, 0) := by decide +kernel
theorem s381_7 {L : Nat} {xs : Nat → Int32} {d x : Nat} {M : qxM} {st : List Value} {ls : qxL} {z : Int32} : Rs L xs (d) 381 7 ls (.int z :: st) M x = Rs L xs (d) 381 8 ls (.long z.toInt64 :: st) M x := Rs_next c381_7 rfl
theorem c381_8 : qx_code 381 8 = some (8, .lastore, 9, 0, 0, 0) := by decide +kernel
theorem s381_8 {L : Nat} {xs : Nat → Int32} {d x : Nat} {M : qxM} {st : List Value} {ls : qxL} {t : Nat} {j : Int32} {z : Int64} (hk : qx_kd t = 4) (hj : qx_ib j (qx_ln t) = true) : Rs L xs (d) 381 8 ls (.long z :: .int j :: .ref t :: st) M x = Rs L xs (d) 381 9 ls st ((M.1, vp_updL M.2.1 j.toNatClampNeg z, M.2.2)) x := by
  have h1 := qx_kd_row (k := 4) (by decide) hk
  exact Rs_unless (qx_ib_not hj) c381_8 (by unfold qx_act; dsimp only; rw [h1]; rfl)
theorem c381_9 : qx_code 381 9 = some (9, .goto 12, 12, 21, 0, 0) := by decide +kernel
theorem s381_9 {L : Nat} {xs : Nat → Int32} {d x : Nat} {M : qxM} {st : List Value} {ls : qxL} : Rs L xs (d) 381 9 ls st M x = Rs L xs (d) 381 21 ls st M x := Rs_next c381_9 rfl
theorem c381_12 : qx_code 381 12 = some (12, .astore_n 3, 13, 0, 0, 0) := by decide +kernel
theorem s381_12i {L : Nat} {xs : Nat → Int32} {d x : Nat} {M : qxM} {st : List Value} {a0 a1 a3 : Option Value} {z : Nat} {y : Int32} : Rs L xs (d) 381 12 [a0, a1, some (.int y), a3] (.ref z :: st) M x = Rs L xs (d) 381 13 [a0, a1, some (.int y), some (.ref z)] st M x := Rs_next c381_12 rfl
theorem s381_12r {L : Nat} {xs : Nat → Int32} {d x : Nat} {M : qxM} {st : List Value} {a0 a1 a3 : Option Value} {z : Nat} {y : Nat} : Rs L xs (d) 381 12 [a0, a1, some (.ref y), a3] (.ref z :: st) M x = Rs L xs (d) 381 13 [a0, a1, some (.ref y), some (.ref z)] st M x := Rs_next c381_12 rfl
theorem s381_12n {L : Nat} {xs : Nat → Int32} {d x : Nat} {M : qxM} {st : List Value} {a0 a1 a3 : Option Value} {z : Nat} : Rs L xs (d) 381 12 [a0, a1, none, a3] (.ref z :: st) M x = Rs L xs (d) 381 13 [a0, a1, none, some (.ref z)] st M x := Rs_next c381_12 rfl
theorem c381_13 : qx_code 381 13 = some (13, .iconst 1, 14, 0, 0, 0) := by decide +kernel
theorem s381_13 {L : Nat} {xs : Nat → Int32} {d x : Nat} {M : qxM} {st : List Value} {ls : qxL} : Rs L xs (d) 381 13 ls st M x = Rs L xs (d) 381 14 ls (.int (nI 1) :: st) M x := Rs_next c381_13 rfl
theorem c381_14 : qx_code 381 14 = some (14, .ireturn, 15, 0, 0, 0) := by decide +kernel
theorem s381_14 {L : Nat} {xs : Nat → Int32} {d x : Nat} {M : qxM} {ls : qxL} {z : Int32} : Rs L xs (d) 381 14 ls [.int z] M x = some (.inl (some (.int z)), M, x) := Rs_ret c381_14 rfl
theorem c381_15 : qx_code 381 15 = some (15, .astore_n 3, 16, 0, 0, 0) := by decide +kernel
theorem s381_15i {L : Nat} {xs : Nat → Int32} {d x : Nat} {M : qxM} {st : List Value} {a0 a1 a3 : Option Value} {z : Nat} {y : Int32} : Rs L xs (d) 381 15 [a0, a1, some (.int y), a3] (.ref z :: st) M x = Rs L xs (d) 381 16 [a0, a1, some (.int y), some (.ref z)] st M x := Rs_next c381_15 rfl
theorem s381_15r {L : Nat} {xs : Nat → Int32} {d x : Nat} {M : qxM} {st : List Value} {a0 a1 a3 : Option Value} {z : Nat} {y : Nat} : Rs L xs (d) 381 15 [a0, a1, some (.ref y), a3] (.ref z :: st) M x = Rs L xs (d) 381 16 [a0, a1, some (.ref y), some (.ref z)] st M x := Rs_next c381_15 rfl
theorem s381_15n {L : Nat} {xs : Nat → Int32} {d x : Nat} {M : qxM} {st : List Value} {a0 a1 a3 : Option Value} {z : Nat} : Rs L xs (d) 381 15 [a0, a1, none, a3] (.ref z :: st) M x = Rs L xs (d) 381 16 [a0, a1, none, some (.ref z)] st M x := Rs_next c381_15 rfl
theorem c381_16 : qx_code 381 16 = some (16, .iconst 2, 17, 0, 0, 0) := by decide +kernel
theorem s381_16 {L : Nat} {xs : Nat → Int32} {d x : Nat} {M : qxM} {st : List Value} {ls : qxL} : Rs L xs (d) 381 16 ls st M x = Rs L xs (d) 381 17 ls (.int (nI 2) :: st) M x := Rs_next c381_16 rfl
theorem c381_17 : qx_code 381 17 = some (17, .ireturn, 18, 0, 0, 0) := by decide +kernel
theorem s381_17 {L : Nat} {xs : Nat → Int32} {d x : Nat} {M : qxM} {ls : qxL} {z : Int32} : Rs L xs (d) 381 17 ls [.int z] M x = some (.inl (some (.int z)), M, x) := Rs_ret c381_17 rfl
theorem c381_18 : qx_code 381 18 = some (18, .astore_n 3, 19, 0, 0, 0) := by decide +kernel
theorem s381_18i {L : Nat} {xs : Nat → Int32} {d x : Nat} {M : qxM} {st : List Value} {a0 a1 a3 : Option Value} {z : Nat} {y : Int32} : Rs L xs (d) 381 18 [a0, a1, some (.int y), a3] (.ref z :: st) M x = Rs L xs (d) 381 19 [a0, a1, some (.int y), some (.ref z)] st M x := Rs_next c381_18 rfl
theorem s381_18r {L : Nat} {xs : Nat → Int32} {d x : Nat} {M : qxM} {st : List Value} {a0 a1 a3 : Option Value} {z : Nat} {y : Nat} : Rs L xs (d) 381 18 [a0, a1, some (.ref y), a3] (.ref z :: st) M x = Rs L xs (d) 381 19 [a0, a1, some (.ref y), some (.ref z)] st M x := Rs_next c381_18 rfl
theorem s381_18n {L : Nat} {xs : Nat → Int32} {d x : Nat} {M : qxM} {st : List Value} {a0 a1 a3 : Option Value} {z : Nat} : Rs L xs (d) 381 18 [a0, a1, none, a3] (.ref z :: st) M x = Rs L xs (d) 381 19 [a0, a1, none, some (.ref z)] st M x := Rs_next c381_18 rfl
theorem c381_19 : qx_code 381 19 = some (19, .iconst 3, 20, 0, 0, 0) := by decide +kernel
theorem s381_19 {L : Nat} {xs : Nat → Int32} {d x : Nat} {M : qxM} {st : List Value} {ls : qxL} : Rs L xs (d) 381 19 ls st M x = Rs L xs (d) 381 20 ls (.int (nI 3) :: st) M x := Rs_next c381_19 rfl
theorem c381_20 : qx_code 381 20 = some (20, .ireturn, 21, 0, 0, 0) := by decide +kernel
theorem s381_20 {L : Nat} {xs : Nat → Int32} {d x : Nat} {M : qxM} {ls : qxL} {z : Int32} : Rs L xs (d) 381 20 ls [.int z] M x = some (.inl (some (.int z)), M, x) := Rs_ret c381_20 rfl
theorem c381_21 : qx_code 381 21 = some (21, .iconst 0, 22, 0, 0, 0) := by decide +kernel
theorem s381_21 {L : Nat} {xs : Nat → Int32} {d x : Nat} {M : qxM} {st : List Value} {ls : qxL} : Rs L xs (d) 381 21 ls st M x = Rs L xs (d) 381 22 ls (.int (nI 0) :: st) M x := Rs_next c381_21 rfl
theorem c381_22 : qx_code 381 22 = some (22, .ireturn, 23, 0, 0, 0) := by decide +kernel
theorem s381_22 {L : Nat} {xs : Nat → Int32} {d x : Nat} {M : qxM} {ls : qxL} {z : Int32} : Rs L xs (d) 381 22 ls [.int z] M x = some (.inl (some (.int z)), M, x) := Rs_ret c381_22 rfl
theorem c382_0 : qx_code 382 0 = some (0, .aload_n 1, 1, 0, 0, 0) := by decide +kernel
theorem s382_0 {L : Nat} {xs : Nat → Int32} {d x : Nat} {M : qxM} {st : List Value} {a0 a2 : Option Value} {z : Nat} : Rs L xs (d) 382 0 [a0, some (.ref z), a2] st M x = Rs L xs (d) 382 1 [a0, some (.ref z), a2] (.ref z :: st) M x := Rs_next c382_0 rfl
theorem c382_1 : qx_code 382 1 = some (1, .iconst 0, 2, 0, 0, 0) := by decide +kernel
theorem s382_1 {L : Nat} {xs : Nat → Int32} {d x : Nat} {M : qxM} {st : List Value} {ls : qxL} : Rs L xs (d) 382 1 ls st M x = Rs L xs (d) 382 2 ls (.int (nI 0) :: st) M x := Rs_next c382_1 rfl
theorem c382_2 : qx_code 382 2 = some (2, .aload_n 0, 3, 0, 0, 0) := by decide +kernel
theorem s382_2 {L : Nat} {xs : Nat → Int32} {d x : Nat} {M : qxM} {st : List Value} {a1 a2 : Option Value} {z : Nat} : Rs L xs (d) 382 2 [some (.ref z), a1, a2] st M x = Rs L xs (d) 382 3 [some (.ref z), a1, a2] (.ref z :: st) M x := Rs_next c382_2 rfl
theorem c382_3 : qx_code 382 3 = some (3, .invokevirtual 166, 6, 146, 1, 1431) := by decide +kernel
theorem s382_3 {L : Nat} {xs : Nat → Int32} {d x : Nat} {M : qxM} {st : List Value} {ls : qxL} {t : Nat} (hk : qx_kd t = 17) (hs : st.length ≤ 4) : Rs L xs (d + 1) 382 3 ls (.ref t :: st) M x = (Rs L xs d 146 0 [some (.ref t)] [] M 0).bind (qx_kn L xs (d + 1) 382 3 6 146 ls st x) := by
  have h1 : qx_act L xs (qx_rt 382) (3, .invokevirtual 166, 6, 146, 1, 1431) ls (.ref t :: st) M = if 1 ≤ (.ref t :: st).length ∧ st.length ≤ 4 then some (.inr (.inr (.inr (146, [.ref t], st)))) else none := rfl
  rw [if_pos ⟨by simp [List.length_cons]; try omega, hs⟩] at h1
  have h2 := qx_kd_obj (k := 7) (by decide) hk
  exact Rs_call c382_3 h1 (by rw [show qx_args 146 [.ref t] = decide (qx_sh t = some (.inl 7)) from rfl]; exact decide_eq_true h2)
theorem c382_6 : qx_code 382 6 = some (6, .i2l, 7, 0, 0, 0) := by decide +kernel
theorem s382_6 {L : Nat} {xs : Nat → Int32} {d x : Nat} {M : qxM} {st : List Value} {ls : qxL} {z : Int32} : Rs L xs (d) 382 6 ls (.int z :: st) M x = Rs L xs (d) 382 7 ls (.long z.toInt64 :: st) M x := Rs_next c382_6 rfl
theorem c382_7 : qx_code 382 7 = some (7, .lastore, 8, 0, 0, 0) := by decide +kernel
theorem s382_7 {L : Nat} {xs : Nat → Int32} {d x : Nat} {M : qxM} {st : List Value} {ls : qxL} {t : Nat} {j : Int32} {z : Int64} (hk : qx_kd t = 4) (hj : qx_ib j (qx_ln t) = true) : Rs L xs (d) 382 7 ls (.long z :: .int j :: .ref t :: st) M x = Rs L xs (d) 382 8 ls st ((M.1, vp_updL M.2.1 j.toNatClampNeg z, M.2.2)) x := by
  have h1 := qx_kd_row (k := 4) (by decide) hk
  exact Rs_unless (qx_ib_not hj) c382_7 (by unfold qx_act; dsimp only; rw [h1]; rfl)
theorem c382_8 : qx_code 382 8 = some (8, .goto 9, 11, 17, 0, 0) := by decide +kernel
theorem s382_8 {L : Nat} {xs : Nat → Int32} {d x : Nat} {M : qxM} {st : List Value} {ls : qxL} : Rs L xs (d) 382 8 ls st M x = Rs L xs (d) 382 17 ls st M x := Rs_next c382_8 rfl
theorem c382_11 : qx_code 382 11 = some (11, .astore_n 2, 12, 0, 0, 0) := by decide +kernel
theorem s382_11i {L : Nat} {xs : Nat → Int32} {d x : Nat} {M : qxM} {st : List Value} {a0 a2 : Option Value} {z : Nat} {y : Int32} : Rs L xs (d) 382 11 [a0, some (.int y), a2] (.ref z :: st) M x = Rs L xs (d) 382 12 [a0, some (.int y), some (.ref z)] st M x := Rs_next c382_11 rfl
theorem s382_11r {L : Nat} {xs : Nat → Int32} {d x : Nat} {M : qxM} {st : List Value} {a0 a2 : Option Value} {z : Nat} {y : Nat} : Rs L xs (d) 382 11 [a0, some (.ref y), a2] (.ref z :: st) M x = Rs L xs (d) 382 12 [a0, some (.ref y), some (.ref z)] st M x := Rs_next c382_11 rfl
theorem s382_11n {L : Nat} {xs : Nat → Int32} {d x : Nat} {M : qxM} {st : List Value} {a0 a2 : Option Value} {z : Nat} : Rs L xs (d) 382 11 [a0, none, a2] (.ref z :: st) M x = Rs L xs (d) 382 12 [a0, none, some (.ref z)] st M x := Rs_next c382_11 rfl
theorem c382_12 : qx_code 382 12 = some (12, .iconst 1, 13, 0, 0, 0) := by decide +kernel
theorem s382_12 {L : Nat} {xs : Nat → Int32} {d x : Nat} {M : qxM} {st : List Value} {ls : qxL} : Rs L xs (d) 382 12 ls st M x = Rs L xs (d) 382 13 ls (.int (nI 1) :: st) M x := Rs_next c382_12 rfl
theorem c382_13 : qx_code 382 13 = some (13, .ireturn, 14, 0, 0, 0) := by decide +kernel
theorem s382_13 {L : Nat} {xs : Nat → Int32} {d x : Nat} {M : qxM} {ls : qxL} {z : Int32} : Rs L xs (d) 382 13 ls [.int z] M x = some (.inl (some (.int z)), M, x) := Rs_ret c382_13 rfl
theorem c382_14 : qx_code 382 14 = some (14, .astore_n 2, 15, 0, 0, 0) := by decide +kernel
theorem s382_14i {L : Nat} {xs : Nat → Int32} {d x : Nat} {M : qxM} {st : List Value} {a0 a2 : Option Value} {z : Nat} {y : Int32} : Rs L xs (d) 382 14 [a0, some (.int y), a2] (.ref z :: st) M x = Rs L xs (d) 382 15 [a0, some (.int y), some (.ref z)] st M x := Rs_next c382_14 rfl
theorem s382_14r {L : Nat} {xs : Nat → Int32} {d x : Nat} {M : qxM} {st : List Value} {a0 a2 : Option Value} {z : Nat} {y : Nat} : Rs L xs (d) 382 14 [a0, some (.ref y), a2] (.ref z :: st) M x = Rs L xs (d) 382 15 [a0, some (.ref y), some (.ref z)] st M x := Rs_next c382_14 rfl
theorem s382_14n {L : Nat} {xs : Nat → Int32} {d x : Nat} {M : qxM} {st : List Value} {a0 a2 : Option Value} {z : Nat} : Rs L xs (d) 382 14 [a0, none, a2] (.ref z :: st) M x = Rs L xs (d) 382 15 [a0, none, some (.ref z)] st M x := Rs_next c382_14 rfl
theorem c382_15 : qx_code 382 15 = some (15, .iconst 2, 16, 0, 0, 0) := by decide +kernel
theorem s382_15 {L : Nat} {xs : Nat → Int32} {d x : Nat} {M : qxM} {st : List Value} {ls : qxL} : Rs L xs (d) 382 15 ls st M x = Rs L xs (d) 382 16 ls (.int (nI 2) :: st) M x := Rs_next c382_15 rfl
theorem c382_16 : qx_code 382 16 = some (16, .ireturn, 17, 0, 0, 0) := by decide +kernel
theorem s382_16 {L : Nat} {xs : Nat → Int32} {d x : Nat} {M : qxM} {ls : qxL} {z : Int32} : Rs L xs (d) 382 16 ls [.int z] M x = some (.inl (some (.int z)), M, x) := Rs_ret c382_16 rfl
theorem c382_17 : qx_code 382 17 = some (17, .iconst 0, 18, 0, 0, 0) := by decide +kernel
theorem s382_17 {L : Nat} {xs : Nat → Int32} {d x : Nat} {M : qxM} {st : List Value} {ls : qxL} : Rs L xs (d) 382 17 ls st M x = Rs L xs (d) 382 18 ls (.int (nI 0) :: st) M x := Rs_next c382_17 rfl
theorem c382_18 : qx_code 382 18 = some (18, .ireturn, 19, 0, 0, 0) := by decide +kernel
theorem s382_18 {L : Nat} {xs : Nat → Int32} {d x : Nat} {M : qxM} {ls : qxL} {z : Int32} : Rs L xs (d) 382 18 ls [.int z] M x = some (.inl (some (.int z)), M, x) := Rs_ret c382_18 rfl
theorem c383_0 : qx_code 383 0 = some (0, .aload_n 1, 1, 0, 0, 0) := by decide +kernel
theorem s383_0 {L : Nat} {xs : Nat → Int32} {d x : Nat} {M : qxM} {st : List Value} {a0 a2 : Option Value} {z : Nat} : Rs L xs (d) 383 0 [a0, some (.ref z), a2] st M x = Rs L xs (d) 383 1 [a0, some (.ref z), a2] (.ref z :: st) M x := Rs_next c383_0 rfl
theorem c383_1 : qx_code 383 1 = some (1, .iconst 0, 2, 0, 0, 0) := by decide +kernel
theorem s383_1 {L : Nat} {xs : Nat → Int32} {d x : Nat} {M : qxM} {st : List Value} {ls : qxL} : Rs L xs (d) 383 1 ls st M x = Rs L xs (d) 383 2 ls (.int (nI 0) :: st) M x := Rs_next c383_1 rfl
theorem c383_2 : qx_code 383 2 = some (2, .aload_n 0, 3, 0, 0, 0) := by decide +kernel
theorem s383_2 {L : Nat} {xs : Nat → Int32} {d x : Nat} {M : qxM} {st : List Value} {a1 a2 : Option Value} {z : Nat} : Rs L xs (d) 383 2 [some (.ref z), a1, a2] st M x = Rs L xs (d) 383 3 [some (.ref z), a1, a2] (.ref z :: st) M x := Rs_next c383_2 rfl
theorem c383_3 : qx_code 383 3 = some (3, .invokevirtual 169, 6, 147, 1, 1447) := by decide +kernel
theorem s383_3 {L : Nat} {xs : Nat → Int32} {d x : Nat} {M : qxM} {st : List Value} {ls : qxL} {t : Nat} (hk : qx_kd t = 17) (hs : st.length ≤ 4) : Rs L xs (d + 1) 383 3 ls (.ref t :: st) M x = (Rs L xs d 147 0 [some (.ref t)] [] M 0).bind (qx_kn L xs (d + 1) 383 3 6 147 ls st x) := by
  have h1 : qx_act L xs (qx_rt 383) (3, .invokevirtual 169, 6, 147, 1, 1447) ls (.ref t :: st) M = if 1 ≤ (.ref t :: st).length ∧ st.length ≤ 4 then some (.inr (.inr (.inr (147, [.ref t], st)))) else none := rfl
  rw [if_pos ⟨by simp [List.length_cons]; try omega, hs⟩] at h1
  have h2 := qx_kd_obj (k := 7) (by decide) hk
  exact Rs_call c383_3 h1 (by rw [show qx_args 147 [.ref t] = decide (qx_sh t = some (.inl 7)) from rfl]; exact decide_eq_true h2)
theorem c383_6 : qx_code 383 6 = some (6, .i2l, 7, 0, 0, 0) := by decide +kernel
theorem s383_6 {L : Nat} {xs : Nat → Int32} {d x : Nat} {M : qxM} {st : List Value} {ls : qxL} {z : Int32} : Rs L xs (d) 383 6 ls (.int z :: st) M x = Rs L xs (d) 383 7 ls (.long z.toInt64 :: st) M x := Rs_next c383_6 rfl
theorem c383_7 : qx_code 383 7 = some (7, .lastore, 8, 0, 0, 0) := by decide +kernel
theorem s383_7 {L : Nat} {xs : Nat → Int32} {d x : Nat} {M : qxM} {st : List Value} {ls : qxL} {t : Nat} {j : Int32} {z : Int64} (hk : qx_kd t = 4) (hj : qx_ib j (qx_ln t) = true) : Rs L xs (d) 383 7 ls (.long z :: .int j :: .ref t :: st) M x = Rs L xs (d) 383 8 ls st ((M.1, vp_updL M.2.1 j.toNatClampNeg z, M.2.2)) x := by
  have h1 := qx_kd_row (k := 4) (by decide) hk
  exact Rs_unless (qx_ib_not hj) c383_7 (by unfold qx_act; dsimp only; rw [h1]; rfl)
theorem c383_8 : qx_code 383 8 = some (8, .goto 9, 11, 17, 0, 0) := by decide +kernel
theorem s383_8 {L : Nat} {xs : Nat → Int32} {d x : Nat} {M : qxM} {st : List Value} {ls : qxL} : Rs L xs (d) 383 8 ls st M x = Rs L xs (d) 383 17 ls st M x := Rs_next c383_8 rfl
theorem c383_11 : qx_code 383 11 = some (11, .astore_n 2, 12, 0, 0, 0) := by decide +kernel
theorem s383_11i {L : Nat} {xs : Nat → Int32} {d x : Nat} {M : qxM} {st : List Value} {a0 a2 : Option Value} {z : Nat} {y : Int32} : Rs L xs (d) 383 11 [a0, some (.int y), a2] (.ref z :: st) M x = Rs L xs (d) 383 12 [a0, some (.int y), some (.ref z)] st M x := Rs_next c383_11 rfl
theorem s383_11r {L : Nat} {xs : Nat → Int32} {d x : Nat} {M : qxM} {st : List Value} {a0 a2 : Option Value} {z : Nat} {y : Nat} : Rs L xs (d) 383 11 [a0, some (.ref y), a2] (.ref z :: st) M x = Rs L xs (d) 383 12 [a0, some (.ref y), some (.ref z)] st M x := Rs_next c383_11 rfl
theorem s383_11n {L : Nat} {xs : Nat → Int32} {d x : Nat} {M : qxM} {st : List Value} {a0 a2 : Option Value} {z : Nat} : Rs L xs (d) 383 11 [a0, none, a2] (.ref z :: st) M x = Rs L xs (d) 383 12 [a0, none, some (.ref z)] st M x := Rs_next c383_11 rfl
theorem c383_12 : qx_code 383 12 = some (12, .iconst 1, 13, 0, 0, 0) := by decide +kernel
theorem s383_12 {L : Nat} {xs : Nat → Int32} {d x : Nat} {M : qxM} {st : List Value} {ls : qxL} : Rs L xs (d) 383 12 ls st M x = Rs L xs (d) 383 13 ls (.int (nI 1) :: st) M x := Rs_next c383_12 rfl
theorem c383_13 : qx_code 383 13 = some (13, .ireturn, 14, 0, 0, 0) := by decide +kernel
theorem s383_13 {L : Nat} {xs : Nat → Int32} {d x : Nat} {M : qxM} {ls : qxL} {z : Int32} : Rs L xs (d) 383 13 ls [.int z] M x = some (.inl (some (.int z)), M, x) := Rs_ret c383_13 rfl
theorem c383_14 : qx_code 383 14 = some (14, .astore_n 2, 15, 0, 0, 0) := by decide +kernel
theorem s383_14i {L : Nat} {xs : Nat → Int32} {d x : Nat} {M : qxM} {st : List Value} {a0 a2 : Option Value} {z : Nat} {y : Int32} : Rs L xs (d) 383 14 [a0, some (.int y), a2] (.ref z :: st) M x = Rs L xs (d) 383 15 [a0, some (.int y), some (.ref z)] st M x := Rs_next c383_14 rfl
theorem s383_14r {L : Nat} {xs : Nat → Int32} {d x : Nat} {M : qxM} {st : List Value} {a0 a2 : Option Value} {z : Nat} {y : Nat} : Rs L xs (d) 383 14 [a0, some (.ref y), a2] (.ref z :: st) M x = Rs L xs (d) 383 15 [a0, some (.ref y), some (.ref z)] st M x := Rs_next c383_14 rfl
theorem s383_14n {L : Nat} {xs : Nat → Int32} {d x : Nat} {M : qxM} {st : List Value} {a0 a2 : Option Value} {z : Nat} : Rs L xs (d) 383 14 [a0, none, a2] (.ref z :: st) M x = Rs L xs (d) 383 15 [a0, none, some (.ref z)] st M x := Rs_next c383_14 rfl
theorem c383_15 : qx_code 383 15 = some (15, .iconst 2, 16, 0, 0, 0) := by decide +kernel
theorem s383_15 {L : Nat} {xs : Nat → Int32} {d x : Nat} {M : qxM} {st : List Value} {ls : qxL} : Rs L xs (d) 383 15 ls st M x = Rs L xs (d) 383 16 ls (.int (nI 2) :: st) M x := Rs_next c383_15 rfl
theorem c383_16 : qx_code 383 16 = some (16, .ireturn, 17, 0, 0, 0) := by decide +kernel
theorem s383_16 {L : Nat} {xs : Nat → Int32} {d x : Nat} {M : qxM} {ls : qxL} {z : Int32} : Rs L xs (d) 383 16 ls [.int z] M x = some (.inl (some (.int z)), M, x) := Rs_ret c383_16 rfl
theorem c383_17 : qx_code 383 17 = some (17, .iconst 0, 18, 0, 0, 0) := by decide +kernel
theorem s383_17 {L : Nat} {xs : Nat → Int32} {d x : Nat} {M : qxM} {st : List Value} {ls : qxL} : Rs L xs (d) 383 17 ls st M x = Rs L xs (d) 383 18 ls (.int (nI 0) :: st) M x := Rs_next c383_17 rfl
theorem c383_18 : qx_code 383 18 = some (18, .ireturn, 19, 0, 0, 0) := by decide +kernel
theorem s383_18 {L : Nat} {xs : Nat → Int32} {d x : Nat} {M : qxM} {ls : qxL} {z : Int32} : Rs L xs (d) 383 18 ls [.int z] M x = some (.inl (some (.int z)), M, x) := Rs_ret c383_18 rfl
theorem c384_0 : qx_code 384 0 = some (0, .aload_n 1, 1, 0, 0, 0) := by decide +kernel
theorem s384_0 {L : Nat} {xs : Nat → Int32} {d x : Nat} {M : qxM} {st : List Value} {a0 a2 : Option Value} {z : Nat} : Rs L xs (d) 384 0 [a0, some (.ref z), a2] st M x = Rs L xs (d) 384 1 [a0, some (.ref z), a2] (.ref z :: st) M x := Rs_next c384_0 rfl
theorem c384_1 : qx_code 384 1 = some (1, .iconst 0, 2, 0, 0, 0) := by decide +kernel
theorem s384_1 {L : Nat} {xs : Nat → Int32} {d x : Nat} {M : qxM} {st : List Value} {ls : qxL} : Rs L xs (d) 384 1 ls st M x = Rs L xs (d) 384 2 ls (.int (nI 0) :: st) M x := Rs_next c384_1 rfl
theorem c384_2 : qx_code 384 2 = some (2, .aload_n 0, 3, 0, 0, 0) := by decide +kernel
theorem s384_2 {L : Nat} {xs : Nat → Int32} {d x : Nat} {M : qxM} {st : List Value} {a1 a2 : Option Value} {z : Nat} : Rs L xs (d) 384 2 [some (.ref z), a1, a2] st M x = Rs L xs (d) 384 3 [some (.ref z), a1, a2] (.ref z :: st) M x := Rs_next c384_2 rfl
theorem c384_3 : qx_code 384 3 = some (3, .invokevirtual 172, 6, 148, 1, 1454) := by decide +kernel
theorem s384_3 {L : Nat} {xs : Nat → Int32} {d x : Nat} {M : qxM} {st : List Value} {ls : qxL} {t : Nat} (hk : qx_kd t = 17) (hs : st.length ≤ 4) : Rs L xs (d + 1) 384 3 ls (.ref t :: st) M x = (Rs L xs d 148 0 [some (.ref t), none] [] M 0).bind (qx_kn L xs (d + 1) 384 3 6 148 ls st x) := by
  have h1 : qx_act L xs (qx_rt 384) (3, .invokevirtual 172, 6, 148, 1, 1454) ls (.ref t :: st) M = if 1 ≤ (.ref t :: st).length ∧ st.length ≤ 4 then some (.inr (.inr (.inr (148, [.ref t], st)))) else none := rfl
  rw [if_pos ⟨by simp [List.length_cons]; try omega, hs⟩] at h1
  have h2 := qx_kd_obj (k := 7) (by decide) hk
  exact Rs_call c384_3 h1 (by rw [show qx_args 148 [.ref t] = decide (qx_sh t = some (.inl 7)) from rfl]; exact decide_eq_true h2)
theorem c384_6 : qx_code 384 6 = some (6, .i2l, 7, 0, 0, 0) := by decide +kernel
theorem s384_6 {L : Nat} {xs : Nat → Int32} {d x : Nat} {M : qxM} {st : List Value} {ls : qxL} {z : Int32} : Rs L xs (d) 384 6 ls (.int z :: st) M x = Rs L xs (d) 384 7 ls (.long z.toInt64 :: st) M x := Rs_next c384_6 rfl
theorem c384_7 : qx_code 384 7 = some (7, .lastore, 8, 0, 0, 0) := by decide +kernel
theorem s384_7 {L : Nat} {xs : Nat → Int32} {d x : Nat} {M : qxM} {st : List Value} {ls : qxL} {t : Nat} {j : Int32} {z : Int64} (hk : qx_kd t = 4) (hj : qx_ib j (qx_ln t) = true) : Rs L xs (d) 384 7 ls (.long z :: .int j :: .ref t :: st) M x = Rs L xs (d) 384 8 ls st ((M.1, vp_updL M.2.1 j.toNatClampNeg z, M.2.2)) x := by
  have h1 := qx_kd_row (k := 4) (by decide) hk
  exact Rs_unless (qx_ib_not hj) c384_7 (by unfold qx_act; dsimp only; rw [h1]; rfl)
theorem c384_8 : qx_code 384 8 = some (8, .goto 6, 11, 14, 0, 0) := by decide +kernel
theorem s384_8 {L : Nat} {xs : Nat → Int32} {d x : Nat} {M : qxM} {st : List Value} {ls : qxL} : Rs L xs (d) 384 8 ls st M x = Rs L xs (d) 384 14 ls st M x := Rs_next c384_8 rfl
theorem c384_11 : qx_code 384 11 = some (11, .astore_n 2, 12, 0, 0, 0) := by decide +kernel
theorem s384_11i {L : Nat} {xs : Nat → Int32} {d x : Nat} {M : qxM} {st : List Value} {a0 a2 : Option Value} {z : Nat} {y : Int32} : Rs L xs (d) 384 11 [a0, some (.int y), a2] (.ref z :: st) M x = Rs L xs (d) 384 12 [a0, some (.int y), some (.ref z)] st M x := Rs_next c384_11 rfl
theorem s384_11r {L : Nat} {xs : Nat → Int32} {d x : Nat} {M : qxM} {st : List Value} {a0 a2 : Option Value} {z : Nat} {y : Nat} : Rs L xs (d) 384 11 [a0, some (.ref y), a2] (.ref z :: st) M x = Rs L xs (d) 384 12 [a0, some (.ref y), some (.ref z)] st M x := Rs_next c384_11 rfl
theorem s384_11n {L : Nat} {xs : Nat → Int32} {d x : Nat} {M : qxM} {st : List Value} {a0 a2 : Option Value} {z : Nat} : Rs L xs (d) 384 11 [a0, none, a2] (.ref z :: st) M x = Rs L xs (d) 384 12 [a0, none, some (.ref z)] st M x := Rs_next c384_11 rfl
theorem c384_12 : qx_code 384 12 = some (12, .iconst 1, 13, 0, 0, 0) := by decide +kernel
theorem s384_12 {L : Nat} {xs : Nat → Int32} {d x : Nat} {M : qxM} {st : List Value} {ls : qxL} : Rs L xs (d) 384 12 ls st M x = Rs L xs (d) 384 13 ls (.int (nI 1) :: st) M x := Rs_next c384_12 rfl
theorem c384_13 : qx_code 384 13 = some (13, .ireturn, 14, 0, 0, 0) := by decide +kernel
theorem s384_13 {L : Nat} {xs : Nat → Int32} {d x : Nat} {M : qxM} {ls : qxL} {z : Int32} : Rs L xs (d) 384 13 ls [.int z] M x = some (.inl (some (.int z)), M, x) := Rs_ret c384_13 rfl
theorem c384_14 : qx_code 384 14 = some (14, .iconst 0, 15, 0, 0, 0) := by decide +kernel
theorem s384_14 {L : Nat} {xs : Nat → Int32} {d x : Nat} {M : qxM} {st : List Value} {ls : qxL} : Rs L xs (d) 384 14 ls st M x = Rs L xs (d) 384 15 ls (.int (nI 0) :: st) M x := Rs_next c384_14 rfl
theorem c384_15 : qx_code 384 15 = some (15, .ireturn, 16, 0, 0, 0) := by decide +kernel
theorem s384_15 {L : Nat} {xs : Nat → Int32} {d x : Nat} {M : qxM} {ls : qxL} {z : Int32} : Rs L xs (d) 384 15 ls [.int z] M x = some (.inl (some (.int z)), M, x) := Rs_ret c384_15 rfl
theorem c385_0 : qx_code 385 0 = some (0, .aload_n 3, 1, 0, 0, 0) := by decide +kernel
theorem s385_0 {L : Nat} {xs : Nat → Int32} {d x : Nat} {M : qxM} {st : List Value} {a0 a1 a2 a4 : Option Value} {z : Nat} : Rs L xs (d) 385 0 [a0, a1, a2, some (.ref z), a4] st M x = Rs L xs (d) 385 1 [a0, a1, a2, some (.ref z), a4] (.ref z :: st) M x := Rs_next c385_0 rfl
theorem c385_1 : qx_code 385 1 = some (1, .iconst 0, 2, 0, 0, 0) := by decide +kernel
theorem s385_1 {L : Nat} {xs : Nat → Int32} {d x : Nat} {M : qxM} {st : List Value} {ls : qxL} : Rs L xs (d) 385 1 ls st M x = Rs L xs (d) 385 2 ls (.int (nI 0) :: st) M x := Rs_next c385_1 rfl
theorem c385_2 : qx_code 385 2 = some (2, .aload_n 0, 3, 0, 0, 0) := by decide +kernel
theorem s385_2 {L : Nat} {xs : Nat → Int32} {d x : Nat} {M : qxM} {st : List Value} {a1 a2 a3 a4 : Option Value} {z : Nat} : Rs L xs (d) 385 2 [some (.ref z), a1, a2, a3, a4] st M x = Rs L xs (d) 385 3 [some (.ref z), a1, a2, a3, a4] (.ref z :: st) M x := Rs_next c385_2 rfl
theorem c385_3 : qx_code 385 3 = some (3, .iload_n 1, 4, 0, 0, 0) := by decide +kernel
theorem s385_3 {L : Nat} {xs : Nat → Int32} {d x : Nat} {M : qxM} {st : List Value} {a0 a2 a3 a4 : Option Value} {z : Int32} : Rs L xs (d) 385 3 [a0, some (.int z), a2, a3, a4] st M x = Rs L xs (d) 385 4 [a0, some (.int z), a2, a3, a4] (.int z :: st) M x := Rs_next c385_3 rfl
theorem c385_4 : qx_code 385 4 = some (4, .iload_n 2, 5, 0, 0, 0) := by decide +kernel
theorem s385_4 {L : Nat} {xs : Nat → Int32} {d x : Nat} {M : qxM} {st : List Value} {a0 a1 a3 a4 : Option Value} {z : Int32} : Rs L xs (d) 385 4 [a0, a1, some (.int z), a3, a4] st M x = Rs L xs (d) 385 5 [a0, a1, some (.int z), a3, a4] (.int z :: st) M x := Rs_next c385_4 rfl
theorem c385_5 : qx_code 385 5 = some (5, .invokevirtual 175, 8, 149, 3, 1462) := by decide +kernel
theorem s385_5 {L : Nat} {xs : Nat → Int32} {d x : Nat} {M : qxM} {st : List Value} {ls : qxL} {t : Nat} {z0 : Int32} {z1 : Int32} (hk : qx_kd t = 17) (hs : st.length ≤ 4) : Rs L xs (d + 1) 385 5 ls (.int z1 :: .int z0 :: .ref t :: st) M x = (Rs L xs d 149 0 [some (.ref t), some (.int z0), some (.int z1)] [] M 0).bind (qx_kn L xs (d + 1) 385 5 8 149 ls st x) := by
  have h1 : qx_act L xs (qx_rt 385) (5, .invokevirtual 175, 8, 149, 3, 1462) ls (.int z1 :: .int z0 :: .ref t :: st) M = if 3 ≤ (.int z1 :: .int z0 :: .ref t :: st).length ∧ st.length ≤ 4 then some (.inr (.inr (.inr (149, [.ref t, .int z0, .int z1], st)))) else none := rfl
  rw [if_pos ⟨by simp [List.length_cons]; try omega, hs⟩] at h1
  have h2 := qx_kd_obj (k := 7) (by decide) hk
  exact Rs_call c385_5 h1 (by rw [show qx_args 149 [.ref t, .int z0, .int z1] = decide (qx_sh t = some (.inl 7)) from rfl]; exact decide_eq_true h2)
theorem c385_8 : qx_code 385 8 = some (8, .i2l, 9, 0, 0, 0) := by decide +kernel
theorem s385_8 {L : Nat} {xs : Nat → Int32} {d x : Nat} {M : qxM} {st : List Value} {ls : qxL} {z : Int32} : Rs L xs (d) 385 8 ls (.int z :: st) M x = Rs L xs (d) 385 9 ls (.long z.toInt64 :: st) M x := Rs_next c385_8 rfl
theorem c385_9 : qx_code 385 9 = some (9, .lastore, 10, 0, 0, 0) := by decide +kernel
theorem s385_9 {L : Nat} {xs : Nat → Int32} {d x : Nat} {M : qxM} {st : List Value} {ls : qxL} {t : Nat} {j : Int32} {z : Int64} (hk : qx_kd t = 4) (hj : qx_ib j (qx_ln t) = true) : Rs L xs (d) 385 9 ls (.long z :: .int j :: .ref t :: st) M x = Rs L xs (d) 385 10 ls st ((M.1, vp_updL M.2.1 j.toNatClampNeg z, M.2.2)) x := by
  have h1 := qx_kd_row (k := 4) (by decide) hk
  exact Rs_unless (qx_ib_not hj) c385_9 (by unfold qx_act; dsimp only; rw [h1]; rfl)
theorem c385_10 : qx_code 385 10 = some (10, .goto 15, 13, 25, 0, 0) := by decide +kernel
theorem s385_10 {L : Nat} {xs : Nat → Int32} {d x : Nat} {M : qxM} {st : List Value} {ls : qxL} : Rs L xs (d) 385 10 ls st M x = Rs L xs (d) 385 25 ls st M x := Rs_next c385_10 rfl
theorem c385_13 : qx_code 385 13 = some (13, .astore 4, 15, 0, 0, 0) := by decide +kernel
theorem s385_13i {L : Nat} {xs : Nat → Int32} {d x : Nat} {M : qxM} {st : List Value} {a0 a1 a2 a4 : Option Value} {z : Nat} {y : Int32} : Rs L xs (d) 385 13 [a0, a1, a2, some (.int y), a4] (.ref z :: st) M x = Rs L xs (d) 385 15 [a0, a1, a2, some (.int y), some (.ref z)] st M x := Rs_next c385_13 rfl
theorem s385_13r {L : Nat} {xs : Nat → Int32} {d x : Nat} {M : qxM} {st : List Value} {a0 a1 a2 a4 : Option Value} {z : Nat} {y : Nat} : Rs L xs (d) 385 13 [a0, a1, a2, some (.ref y), a4] (.ref z :: st) M x = Rs L xs (d) 385 15 [a0, a1, a2, some (.ref y), some (.ref z)] st M x := Rs_next c385_13 rfl
theorem s385_13n {L : Nat} {xs : Nat → Int32} {d x : Nat} {M : qxM} {st : List Value} {a0 a1 a2 a4 : Option Value} {z : Nat} : Rs L xs (d) 385 13 [a0, a1, a2, none, a4] (.ref z :: st) M x = Rs L xs (d) 385 15 [a0, a1, a2, none, some (.ref z)] st M x := Rs_next c385_13 rfl
theorem c385_15 : qx_code 385 15 = some (15, .iconst 1, 16, 0, 0, 0) := by decide +kernel
theorem s385_15 {L : Nat} {xs : Nat → Int32} {d x : Nat} {M : qxM} {st : List Value} {ls : qxL} : Rs L xs (d) 385 15 ls st M x = Rs L xs (d) 385 16 ls (.int (nI 1) :: st) M x := Rs_next c385_15 rfl
theorem c385_16 : qx_code 385 16 = some (16, .ireturn, 17, 0, 0, 0) := by decide +kernel
theorem s385_16 {L : Nat} {xs : Nat → Int32} {d x : Nat} {M : qxM} {ls : qxL} {z : Int32} : Rs L xs (d) 385 16 ls [.int z] M x = some (.inl (some (.int z)), M, x) := Rs_ret c385_16 rfl
theorem c385_17 : qx_code 385 17 = some (17, .astore 4, 19, 0, 0, 0) := by decide +kernel
theorem s385_17i {L : Nat} {xs : Nat → Int32} {d x : Nat} {M : qxM} {st : List Value} {a0 a1 a2 a4 : Option Value} {z : Nat} {y : Int32} : Rs L xs (d) 385 17 [a0, a1, a2, some (.int y), a4] (.ref z :: st) M x = Rs L xs (d) 385 19 [a0, a1, a2, some (.int y), some (.ref z)] st M x := Rs_next c385_17 rfl
theorem s385_17r {L : Nat} {xs : Nat → Int32} {d x : Nat} {M : qxM} {st : List Value} {a0 a1 a2 a4 : Option Value} {z : Nat} {y : Nat} : Rs L xs (d) 385 17 [a0, a1, a2, some (.ref y), a4] (.ref z :: st) M x = Rs L xs (d) 385 19 [a0, a1, a2, some (.ref y), some (.ref z)] st M x := Rs_next c385_17 rfl
theorem s385_17n {L : Nat} {xs : Nat → Int32} {d x : Nat} {M : qxM} {st : List Value} {a0 a1 a2 a4 : Option Value} {z : Nat} : Rs L xs (d) 385 17 [a0, a1, a2, none, a4] (.ref z :: st) M x = Rs L xs (d) 385 19 [a0, a1, a2, none, some (.ref z)] st M x := Rs_next c385_17 rfl
theorem c385_19 : qx_code 385 19 = some (19, .iconst 2, 20, 0, 0, 0) := by decide +kernel
theorem s385_19 {L : Nat} {xs : Nat → Int32} {d x : Nat} {M : qxM} {st : List Value} {ls : qxL} : Rs L xs (d) 385 19 ls st M x = Rs L xs (d) 385 20 ls (.int (nI 2) :: st) M x := Rs_next c385_19 rfl
theorem c385_20 : qx_code 385 20 = some (20, .ireturn, 21, 0, 0, 0) := by decide +kernel
theorem s385_20 {L : Nat} {xs : Nat → Int32} {d x : Nat} {M : qxM} {ls : qxL} {z : Int32} : Rs L xs (d) 385 20 ls [.int z] M x = some (.inl (some (.int z)), M, x) := Rs_ret c385_20 rfl
theorem c385_21 : qx_code 385 21 = some (21, .astore 4, 23, 0, 0, 0) := by decide +kernel
theorem s385_21i {L : Nat} {xs : Nat → Int32} {d x : Nat} {M : qxM} {st : List Value} {a0 a1 a2 a4 : Option Value} {z : Nat} {y : Int32} : Rs L xs (d) 385 21 [a0, a1, a2, some (.int y), a4] (.ref z :: st) M x = Rs L xs (d) 385 23 [a0, a1, a2, some (.int y), some (.ref z)] st M x := Rs_next c385_21 rfl
theorem s385_21r {L : Nat} {xs : Nat → Int32} {d x : Nat} {M : qxM} {st : List Value} {a0 a1 a2 a4 : Option Value} {z : Nat} {y : Nat} : Rs L xs (d) 385 21 [a0, a1, a2, some (.ref y), a4] (.ref z :: st) M x = Rs L xs (d) 385 23 [a0, a1, a2, some (.ref y), some (.ref z)] st M x := Rs_next c385_21 rfl
theorem s385_21n {L : Nat} {xs : Nat → Int32} {d x : Nat} {M : qxM} {st : List Value} {a0 a1 a2 a4 : Option Value} {z : Nat} : Rs L xs (d) 385 21 [a0, a1, a2, none, a4] (.ref z :: st) M x = Rs L xs (d) 385 23 [a0, a1, a2, none, some (.ref z)] st M x := Rs_next c385_21 rfl
theorem c385_23 : qx_code 385 23 = some (23, .iconst 3, 24, 0, 0, 0) := by decide +kernel
theorem s385_23 {L : Nat} {xs : Nat → Int32} {d x : Nat} {M : qxM} {st : List Value} {ls : qxL} : Rs L xs (d) 385 23 ls st M x = Rs L xs (d) 385 24 ls (.int (nI 3) :: st) M x := Rs_next c385_23 rfl
theorem c385_24 : qx_code 385 24 = some (24, .ireturn, 25, 0, 0, 0) := by decide +kernel
theorem s385_24 {L : Nat} {xs : Nat → Int32} {d x : Nat} {M : qxM} {ls : qxL} {z : Int32} : Rs L xs (d) 385 24 ls [.int z] M x = some (.inl (some (.int z)), M, x) := Rs_ret c385_24 rfl
theorem c385_25 : qx_code 385 25 = some (25, .iconst 0, 26, 0, 0, 0) := by decide +kernel
theorem s385_25 {L : Nat} {xs : Nat → Int32} {d x : Nat} {M : qxM} {st : List Value} {ls : qxL} : Rs L xs (d) 385 25 ls st M x = Rs L xs (d) 385 26 ls (.int (nI 0) :: st) M x := Rs_next c385_25 rfl
theorem c385_26 : qx_code 385 26 = some (26, .ireturn, 27, 0, 0, 0) := by decide +kernel
theorem s385_26 {L : Nat} {xs : Nat → Int32} {d x : Nat} {M : qxM} {ls : qxL} {z : Int32} : Rs L xs (d) 385 26 ls [.int z] M x = some (.inl (some (.int z)), M, x) := Rs_ret c385_26 rfl
theorem c386_0 : qx_code 386 0 = some (0, .aload_n 2, 1, 0, 0, 0) := by decide +kernel
theorem s386_0 {L : Nat} {xs : Nat → Int32} {d x : Nat} {M : qxM} {st : List Value} {a0 a1 a3 : Option Value} {z : Nat} : Rs L xs (d) 386 0 [a0, a1, some (.ref z), a3] st M x = Rs L xs (d) 386 1 [a0, a1, some (.ref z), a3] (.ref z :: st) M x := Rs_next c386_0 rfl
theorem c386_1 : qx_code 386 1 = some (1, .iconst 0, 2, 0, 0, 0) := by decide +kernel
theorem s386_1 {L : Nat} {xs : Nat → Int32} {d x : Nat} {M : qxM} {st : List Value} {ls : qxL} : Rs L xs (d) 386 1 ls st M x = Rs L xs (d) 386 2 ls (.int (nI 0) :: st) M x := Rs_next c386_1 rfl
theorem c386_2 : qx_code 386 2 = some (2, .aload_n 0, 3, 0, 0, 0) := by decide +kernel
theorem s386_2 {L : Nat} {xs : Nat → Int32} {d x : Nat} {M : qxM} {st : List Value} {a1 a2 a3 : Option Value} {z : Nat} : Rs L xs (d) 386 2 [some (.ref z), a1, a2, a3] st M x = Rs L xs (d) 386 3 [some (.ref z), a1, a2, a3] (.ref z :: st) M x := Rs_next c386_2 rfl
theorem c386_3 : qx_code 386 3 = some (3, .iload_n 1, 4, 0, 0, 0) := by decide +kernel
theorem s386_3 {L : Nat} {xs : Nat → Int32} {d x : Nat} {M : qxM} {st : List Value} {a0 a2 a3 : Option Value} {z : Int32} : Rs L xs (d) 386 3 [a0, some (.int z), a2, a3] st M x = Rs L xs (d) 386 4 [a0, some (.int z), a2, a3] (.int z :: st) M x := Rs_next c386_3 rfl
theorem c386_4 : qx_code 386 4 = some (4, .invokevirtual 178, 7, 150, 2, 1471) := by decide +kernel
theorem s386_4 {L : Nat} {xs : Nat → Int32} {d x : Nat} {M : qxM} {st : List Value} {ls : qxL} {t : Nat} {z0 : Int32} (hk : qx_kd t = 17) (hs : st.length ≤ 4) : Rs L xs (d + 1) 386 4 ls (.int z0 :: .ref t :: st) M x = (Rs L xs d 150 0 [some (.ref t), some (.int z0), none] [] M 0).bind (qx_kn L xs (d + 1) 386 4 7 150 ls st x) := by
  have h1 : qx_act L xs (qx_rt 386) (4, .invokevirtual 178, 7, 150, 2, 1471) ls (.int z0 :: .ref t :: st) M = if 2 ≤ (.int z0 :: .ref t :: st).length ∧ st.length ≤ 4 then some (.inr (.inr (.inr (150, [.ref t, .int z0], st)))) else none := rfl
  rw [if_pos ⟨by simp [List.length_cons]; try omega, hs⟩] at h1
  have h2 := qx_kd_obj (k := 7) (by decide) hk
  exact Rs_call c386_4 h1 (by rw [show qx_args 150 [.ref t, .int z0] = decide (qx_sh t = some (.inl 7)) from rfl]; exact decide_eq_true h2)
theorem c386_7 : qx_code 386 7 = some (7, .i2l, 8, 0, 0, 0) := by decide +kernel
theorem s386_7 {L : Nat} {xs : Nat → Int32} {d x : Nat} {M : qxM} {st : List Value} {ls : qxL} {z : Int32} : Rs L xs (d) 386 7 ls (.int z :: st) M x = Rs L xs (d) 386 8 ls (.long z.toInt64 :: st) M x := Rs_next c386_7 rfl
theorem c386_8 : qx_code 386 8 = some (8, .lastore, 9, 0, 0, 0) := by decide +kernel
theorem s386_8 {L : Nat} {xs : Nat → Int32} {d x : Nat} {M : qxM} {st : List Value} {ls : qxL} {t : Nat} {j : Int32} {z : Int64} (hk : qx_kd t = 4) (hj : qx_ib j (qx_ln t) = true) : Rs L xs (d) 386 8 ls (.long z :: .int j :: .ref t :: st) M x = Rs L xs (d) 386 9 ls st ((M.1, vp_updL M.2.1 j.toNatClampNeg z, M.2.2)) x := by
  have h1 := qx_kd_row (k := 4) (by decide) hk
  exact Rs_unless (qx_ib_not hj) c386_8 (by unfold qx_act; dsimp only; rw [h1]; rfl)
theorem c386_9 : qx_code 386 9 = some (9, .goto 12, 12, 21, 0, 0) := by decide +kernel
theorem s386_9 {L : Nat} {xs : Nat → Int32} {d x : Nat} {M : qxM} {st : List Value} {ls : qxL} : Rs L xs (d) 386 9 ls st M x = Rs L xs (d) 386 21 ls st M x := Rs_next c386_9 rfl
theorem c386_12 : qx_code 386 12 = some (12, .astore_n 3, 13, 0, 0, 0) := by decide +kernel
theorem s386_12i {L : Nat} {xs : Nat → Int32} {d x : Nat} {M : qxM} {st : List Value} {a0 a1 a3 : Option Value} {z : Nat} {y : Int32} : Rs L xs (d) 386 12 [a0, a1, some (.int y), a3] (.ref z :: st) M x = Rs L xs (d) 386 13 [a0, a1, some (.int y), some (.ref z)] st M x := Rs_next c386_12 rfl
theorem s386_12r {L : Nat} {xs : Nat → Int32} {d x : Nat} {M : qxM} {st : List Value} {a0 a1 a3 : Option Value} {z : Nat} {y : Nat} : Rs L xs (d) 386 12 [a0, a1, some (.ref y), a3] (.ref z :: st) M x = Rs L xs (d) 386 13 [a0, a1, some (.ref y), some (.ref z)] st M x := Rs_next c386_12 rfl
theorem s386_12n {L : Nat} {xs : Nat → Int32} {d x : Nat} {M : qxM} {st : List Value} {a0 a1 a3 : Option Value} {z : Nat} : Rs L xs (d) 386 12 [a0, a1, none, a3] (.ref z :: st) M x = Rs L xs (d) 386 13 [a0, a1, none, some (.ref z)] st M x := Rs_next c386_12 rfl
theorem c386_13 : qx_code 386 13 = some (13, .iconst 1, 14, 0, 0, 0) := by decide +kernel
theorem s386_13 {L : Nat} {xs : Nat → Int32} {d x : Nat} {M : qxM} {st : List Value} {ls : qxL} : Rs L xs (d) 386 13 ls st M x = Rs L xs (d) 386 14 ls (.int (nI 1) :: st) M x := Rs_next c386_13 rfl
theorem c386_14 : qx_code 386 14 = some (14, .ireturn, 15, 0, 0, 0) := by decide +kernel
theorem s386_14 {L : Nat} {xs : Nat → Int32} {d x : Nat} {M : qxM} {ls : qxL} {z : Int32} : Rs L xs (d) 386 14 ls [.int z] M x = some (.inl (some (.int z)), M, x) := Rs_ret c386_14 rfl
theorem c386_15 : qx_code 386 15 = some (15, .astore_n 3, 16, 0, 0, 0) := by decide +kernel
theorem s386_15i {L : Nat} {xs : Nat → Int32} {d x : Nat} {M : qxM} {st : List Value} {a0 a1 a3 : Option Value} {z : Nat} {y : Int32} : Rs L xs (d) 386 15 [a0, a1, some (.int y), a3] (.ref z :: st) M x = Rs L xs (d) 386 16 [a0, a1, some (.int y), some (.ref z)] st M x := Rs_next c386_15 rfl
theorem s386_15r {L : Nat} {xs : Nat → Int32} {d x : Nat} {M : qxM} {st : List Value} {a0 a1 a3 : Option Value} {z : Nat} {y : Nat} : Rs L xs (d) 386 15 [a0, a1, some (.ref y), a3] (.ref z :: st) M x = Rs L xs (d) 386 16 [a0, a1, some (.ref y), some (.ref z)] st M x := Rs_next c386_15 rfl
theorem s386_15n {L : Nat} {xs : Nat → Int32} {d x : Nat} {M : qxM} {st : List Value} {a0 a1 a3 : Option Value} {z : Nat} : Rs L xs (d) 386 15 [a0, a1, none, a3] (.ref z :: st) M x = Rs L xs (d) 386 16 [a0, a1, none, some (.ref z)] st M x := Rs_next c386_15 rfl
theorem c386_16 : qx_code 386 16 = some (16, .iconst 2, 17, 0, 0, 0) := by decide +kernel
theorem s386_16 {L : Nat} {xs : Nat → Int32} {d x : Nat} {M : qxM} {st : List Value} {ls : qxL} : Rs L xs (d) 386 16 ls st M x = Rs L xs (d) 386 17 ls (.int (nI 2) :: st) M x := Rs_next c386_16 rfl
theorem c386_17 : qx_code 386 17 = some (17, .ireturn, 18, 0, 0, 0) := by decide +kernel
theorem s386_17 {L : Nat} {xs : Nat → Int32} {d x : Nat} {M : qxM} {ls : qxL} {z : Int32} : Rs L xs (d) 386 17 ls [.int z] M x = some (.inl (some (.int z)), M, x) := Rs_ret c386_17 rfl
theorem c386_18 : qx_code 386 18 = some (18, .astore_n 3, 19, 0, 0, 0) := by decide +kernel
theorem s386_18i {L : Nat} {xs : Nat → Int32} {d x : Nat} {M : qxM} {st : List Value} {a0 a1 a3 : Option Value} {z : Nat} {y : Int32} : Rs L xs (d) 386 18 [a0, a1, some (.int y), a3] (.ref z :: st) M x = Rs L xs (d) 386 19 [a0, a1, some (.int y), some (.ref z)] st M x := Rs_next c386_18 rfl
theorem s386_18r {L : Nat} {xs : Nat → Int32} {d x : Nat} {M : qxM} {st : List Value} {a0 a1 a3 : Option Value} {z : Nat} {y : Nat} : Rs L xs (d) 386 18 [a0, a1, some (.ref y), a3] (.ref z :: st) M x = Rs L xs (d) 386 19 [a0, a1, some (.ref y), some (.ref z)] st M x := Rs_next c386_18 rfl
theorem s386_18n {L : Nat} {xs : Nat → Int32} {d x : Nat} {M : qxM} {st : List Value} {a0 a1 a3 : Option Value} {z : Nat} : Rs L xs (d) 386 18 [a0, a1, none, a3] (.ref z :: st) M x = Rs L xs (d) 386 19 [a0, a1, none, some (.ref z)] st M x := Rs_next c386_18 rfl
theorem c386_19 : qx_code 386 19 = some (19, .iconst 3, 20, 0, 0, 0) := by decide +kernel
theorem s386_19 {L : Nat} {xs : Nat → Int32} {d x : Nat} {M : qxM} {st : List Value} {ls : qxL} : Rs L xs (d) 386 19 ls st M x = Rs L xs (d) 386 20 ls (.int (nI 3) :: st) M x := Rs_next c386_19 rfl
theorem c386_20 : qx_code 386 20 = some (20, .ireturn, 21, 0, 0, 0) := by decide +kernel
theorem s386_20 {L : Nat} {xs : Nat → Int32} {d x : Nat} {M : qxM} {ls : qxL} {z : Int32} : Rs L xs (d) 386 20 ls [.int z] M x = some (.inl (some (.int z)), M, x) := Rs_ret c386_20 rfl
theorem c386_21 : qx_code 386 21 = some (21, .iconst 0, 22, 0, 0, 0) := by decide +kernel
theorem s386_21 {L : Nat} {xs : Nat → Int32} {d x : Nat} {M : qxM} {st : List Value} {ls : qxL} : Rs L xs (d) 386 21 ls st M x = Rs L xs (d) 386 22 ls (.int (nI 0) :: st) M x := Rs_next c386_21 rfl
theorem c386_22 : qx_code 386 22 = some (22, .ireturn, 23, 0, 0, 0) := by decide +kernel
theorem s386_22 {L : Nat} {xs : Nat → Int32} {d x : Nat} {M : qxM} {ls : qxL} {z : Int32} : Rs L xs (d) 386 22 ls [.int z] M x = some (.inl (some (.int z)), M, x) := Rs_ret c386_22 rfl
theorem c387_0 : qx_code 387 0 = some (0, .aload_n 2, 1, 0, 0, 0) := by decide +kernel
theorem s387_0 {L : Nat} {xs : Nat → Int32} {d x : Nat} {M : qxM} {st : List Value} {a0 a1 a3 : Option Value} {z : Nat} : Rs L xs (d) 387 0 [a0, a1, some (.ref z), a3] st M x = Rs L xs (d) 387 1 [a0, a1, some (.ref z), a3] (.ref z :: st) M x := Rs_next c387_0 rfl
theorem c387_1 : qx_code 387 1 = some (1, .iconst 0, 2, 0, 0, 0) := by decide +kernel
theorem s387_1 {L : Nat} {xs : Nat → Int32} {d x : Nat} {M : qxM} {st : List Value} {ls : qxL} : Rs L xs (d) 387 1 ls st M x = Rs L xs (d) 387 2 ls (.int (nI 0) :: st) M x := Rs_next c387_1 rfl
theorem c387_2 : qx_code 387 2 = some (2, .aload_n 0, 3, 0, 0, 0) := by decide +kernel
theorem s387_2 {L : Nat} {xs : Nat → Int32} {d x : Nat} {M : qxM} {st : List Value} {a1 a2 a3 : Option Value} {z : Nat} : Rs L xs (d) 387 2 [some (.ref z), a1, a2, a3] st M x = Rs L xs (d) 387 3 [some (.ref z), a1, a2, a3] (.ref z :: st) M x := Rs_next c387_2 rfl
theorem c387_3 : qx_code 387 3 = some (3, .iload_n 1, 4, 0, 0, 0) := by decide +kernel
theorem s387_3 {L : Nat} {xs : Nat → Int32} {d x : Nat} {M : qxM} {st : List Value} {a0 a2 a3 : Option Value} {z : Int32} : Rs L xs (d) 387 3 [a0, some (.int z), a2, a3] st M x = Rs L xs (d) 387 4 [a0, some (.int z), a2, a3] (.int z :: st) M x := Rs_next c387_3 rfl
theorem c387_4 : qx_code 387 4 = some (4, .invokevirtual 181, 7, 151, 2, 1480) := by decide +kernel
theorem s387_4 {L : Nat} {xs : Nat → Int32} {d x : Nat} {M : qxM} {st : List Value} {ls : qxL} {t : Nat} {z0 : Int32} (hk : qx_kd t = 17) (hs : st.length ≤ 4) : Rs L xs (d + 1) 387 4 ls (.int z0 :: .ref t :: st) M x = (Rs L xs d 151 0 [some (.ref t), some (.int z0)] [] M 0).bind (qx_kn L xs (d + 1) 387 4 7 151 ls st x) := by
  have h1 : qx_act L xs (qx_rt 387) (4, .invokevirtual 181, 7, 151, 2, 1480) ls (.int z0 :: .ref t :: st) M = if 2 ≤ (.int z0 :: .ref t :: st).length ∧ st.length ≤ 4 then some (.inr (.inr (.inr (151, [.ref t, .int z0], st)))) else none := rfl
  rw [if_pos ⟨by simp [List.length_cons]; try omega, hs⟩] at h1
  have h2 := qx_kd_obj (k := 7) (by decide) hk
  exact Rs_call c387_4 h1 (by rw [show qx_args 151 [.ref t, .int z0] = decide (qx_sh t = some (.inl 7)) from rfl]; exact decide_eq_true h2)
theorem c387_7 : qx_code 387 7 = some (7, .i2l, 8, 0, 0, 0) := by decide +kernel
theorem s387_7 {L : Nat} {xs : Nat → Int32} {d x : Nat} {M : qxM} {st : List Value} {ls : qxL} {z : Int32} : Rs L xs (d) 387 7 ls (.int z :: st) M x = Rs L xs (d) 387 8 ls (.long z.toInt64 :: st) M x := Rs_next c387_7 rfl
theorem c387_8 : qx_code 387 8 = some (8, .lastore, 9, 0, 0, 0) := by decide +kernel
theorem s387_8 {L : Nat} {xs : Nat → Int32} {d x : Nat} {M : qxM} {st : List Value} {ls : qxL} {t : Nat} {j : Int32} {z : Int64} (hk : qx_kd t = 4) (hj : qx_ib j (qx_ln t) = true) : Rs L xs (d) 387 8 ls (.long z :: .int j :: .ref t :: st) M x = Rs L xs (d) 387 9 ls st ((M.1, vp_updL M.2.1 j.toNatClampNeg z, M.2.2)) x := by
  have h1 := qx_kd_row (k := 4) (by decide) hk
  exact Rs_unless (qx_ib_not hj) c387_8 (by unfold qx_act; dsimp only; rw [h1]; rfl)
theorem c387_9 : qx_code 387 9 = some (9, .goto 12, 12, 21, 0, 0) := by decide +kernel
theorem s387_9 {L : Nat} {xs : Nat → Int32} {d x : Nat} {M : qxM} {st : List Value} {ls : qxL} : Rs L xs (d) 387 9 ls st M x = Rs L xs (d) 387 21 ls st M x := Rs_next c387_9 rfl
theorem c387_12 : qx_code 387 12 = some (12, .astore_n 3, 13, 0, 0, 0) := by decide +kernel
theorem s387_12i {L : Nat} {xs : Nat → Int32} {d x : Nat} {M : qxM} {st : List Value} {a0 a1 a3 : Option Value} {z : Nat} {y : Int32} : Rs L xs (d) 387 12 [a0, a1, some (.int y), a3] (.ref z :: st) M x = Rs L xs (d) 387 13 [a0, a1, some (.int y), some (.ref z)] st M x := Rs_next c387_12 rfl
theorem s387_12r {L : Nat} {xs : Nat → Int32} {d x : Nat} {M : qxM} {st : List Value} {a0 a1 a3 : Option Value} {z : Nat} {y : Nat} : Rs L xs (d) 387 12 [a0, a1, some (.ref y), a3] (.ref z :: st) M x = Rs L xs (d) 387 13 [a0, a1, some (.ref y), some (.ref z)] st M x := Rs_next c387_12 rfl
theorem s387_12n {L : Nat} {xs : Nat → Int32} {d x : Nat} {M : qxM} {st : List Value} {a0 a1 a3 : Option Value} {z : Nat} : Rs L xs (d) 387 12 [a0, a1, none, a3] (.ref z :: st) M x = Rs L xs (d) 387 13 [a0, a1, none, some (.ref z)] st M x := Rs_next c387_12 rfl
theorem c387_13 : qx_code 387 13 = some (13, .iconst 1, 14, 0, 0, 0) := by decide +kernel
theorem s387_13 {L : Nat} {xs : Nat → Int32} {d x : Nat} {M : qxM} {st : List Value} {ls : qxL} : Rs L xs (d) 387 13 ls st M x = Rs L xs (d) 387 14 ls (.int (nI 1) :: st) M x := Rs_next c387_13 rfl
theorem c387_14 : qx_code 387 14 = some (14, .ireturn, 15, 0, 0, 0) := by decide +kernel
theorem s387_14 {L : Nat} {xs : Nat → Int32} {d x : Nat} {M : qxM} {ls : qxL} {z : Int32} : Rs L xs (d) 387 14 ls [.int z] M x = some (.inl (some (.int z)), M, x) := Rs_ret c387_14 rfl
theorem c387_15 : qx_code 387 15 = some (15, .astore_n 3, 16, 0, 0, 0) := by decide +kernel
theorem s387_15i {L : Nat} {xs : Nat → Int32} {d x : Nat} {M : qxM} {st : List Value} {a0 a1 a3 : Option Value} {z : Nat} {y : Int32} : Rs L xs (d) 387 15 [a0, a1, some (.int y), a3] (.ref z :: st) M x = Rs L xs (d) 387 16 [a0, a1, some (.int y), some (.ref z)] st M x := Rs_next c387_15 rfl
theorem s387_15r {L : Nat} {xs : Nat → Int32} {d x : Nat} {M : qxM} {st : List Value} {a0 a1 a3 : Option Value} {z : Nat} {y : Nat} : Rs L xs (d) 387 15 [a0, a1, some (.ref y), a3] (.ref z :: st) M x = Rs L xs (d) 387 16 [a0, a1, some (.ref y), some (.ref z)] st M x := Rs_next c387_15 rfl
theorem s387_15n {L : Nat} {xs : Nat → Int32} {d x : Nat} {M : qxM} {st : List Value} {a0 a1 a3 : Option Value} {z : Nat} : Rs L xs (d) 387 15 [a0, a1, none, a3] (.ref z :: st) M x = Rs L xs (d) 387 16 [a0, a1, none, some (.ref z)] st M x := Rs_next c387_15 rfl
theorem c387_16 : qx_code 387 16 = some (16, .iconst 2, 17, 0, 0, 0) := by decide +kernel
theorem s387_16 {L : Nat} {xs : Nat → Int32} {d x : Nat} {M : qxM} {st : List Value} {ls : qxL} : Rs L xs (d) 387 16 ls st M x = Rs L xs (d) 387 17 ls (.int (nI 2) :: st) M x := Rs_next c387_16 rfl
theorem c387_17 : qx_code 387 17 = some (17, .ireturn, 18, 0, 0, 0) := by decide +kernel
theorem s387_17 {L : Nat} {xs : Nat → Int32} {d x : Nat} {M : qxM} {ls : qxL} {z : Int32} : Rs L xs (d) 387 17 ls [.int z] M x = some (.inl (some (.int z)), M, x) := Rs_ret c387_17 rfl
theorem c387_18 : qx_code 387 18 = some (18, .astore_n 3, 19, 0, 0, 0) := by decide +kernel
theorem s387_18i {L : Nat} {xs : Nat → Int32} {d x : Nat} {M : qxM} {st : List Value} {a0 a1 a3 : Option Value} {z : Nat} {y : Int32} : Rs L xs (d) 387 18 [a0, a1, some (.int y), a3] (.ref z :: st) M x = Rs L xs (d) 387 19 [a0, a1, some (.int y), some (.ref z)] st M x := Rs_next c387_18 rfl
theorem s387_18r {L : Nat} {xs : Nat → Int32} {d x : Nat} {M : qxM} {st : List Value} {a0 a1 a3 : Option Value} {z : Nat} {y : Nat} : Rs L xs (d) 387 18 [a0, a1, some (.ref y), a3] (.ref z :: st) M x = Rs L xs (d) 387 19 [a0, a1, some (.ref y), some (.ref z)] st M x := Rs_next c387_18 rfl
theorem s387_18n {L : Nat} {xs : Nat → Int32} {d x : Nat} {M : qxM} {st : List Value} {a0 a1 a3 : Option Value} {z : Nat} : Rs L xs (d) 387 18 [a0, a1, none, a3] (.ref z :: st) M x = Rs L xs (d) 387 19 [a0, a1, none, some (.ref z)] st M x := Rs_next c387_18 rfl
theorem c387_19 : qx_code 387 19 = some (19, .iconst 3, 20, 0, 0, 0) := by decide +kernel
theorem s387_19 {L : Nat} {xs : Nat → Int32} {d x : Nat} {M : qxM} {st : List Value} {ls : qxL} : Rs L xs (d) 387 19 ls st M x = Rs L xs (d) 387 20 ls (.int (nI 3) :: st) M x := Rs_next c387_19 rfl
theorem c387_20 : qx_code 387 20 = some (20, .ireturn, 21, 0, 0, 0) := by decide +kernel
theorem s387_20 {L : Nat} {xs : Nat → Int32} {d x : Nat} {M : qxM} {ls : qxL} {z : Int32} : Rs L xs (d) 387 20 ls [.int z] M x = some (.inl (some (.int z)), M, x) := Rs_ret c387_20 rfl
theorem c387_21 : qx_code 387 21 = some (21, .iconst 0, 22, 0, 0, 0) := by decide +kernel
theorem s387_21 {L : Nat} {xs : Nat → Int32} {d x : Nat} {M : qxM} {st : List Value} {ls : qxL} : Rs L xs (d) 387 21 ls st M x = Rs L xs (d) 387 22 ls (.int (nI 0) :: st) M x := Rs_next c387_21 rfl
theorem c387_22 : qx_code 387 22 = some (22, .ireturn, 23, 0, 0, 0) := by decide +kernel
theorem s387_22 {L : Nat} {xs : Nat → Int32} {d x : Nat} {M : qxM} {ls : qxL} {z : Int32} : Rs L xs (d) 387 22 ls [.int z] M x = some (.inl (some (.int z)), M, x) := Rs_ret c387_22 rfl
theorem c388_0 : qx_code 388 0 = some (0, .aload 4, 2, 0, 0, 0) := by decide +kernel
theorem s388_0 {L : Nat} {xs : Nat → Int32} {d x : Nat} {M : qxM} {st : List Value} {a0 a1 a2 a3 a5 : Option Value} {z : Nat} : Rs L xs (d) 388 0 [a0, a1, a2, a3, some (.ref z), a5] st M x = Rs L xs (d) 388 2 [a0, a1, a2, a3, some (.ref z), a5] (.ref z :: st) M x := Rs_next c388_0 rfl
theorem c388_2 : qx_code 388 2 = some (2, .iconst 0, 3, 0, 0, 0) := by decide +kernel
theorem s388_2 {L : Nat} {xs : Nat → Int32} {d x : Nat} {M : qxM} {st : List Value} {ls : qxL} : Rs L xs (d) 388 2 ls st M x = Rs L xs (d) 388 3 ls (.int (nI 0) :: st) M x := Rs_next c388_2 rfl
theorem c388_3 : qx_code 388 3 = some (3, .aload_n 0, 4, 0, 0, 0) := by decide +kernel
theorem s388_3 {L : Nat} {xs : Nat → Int32} {d x : Nat} {M : qxM} {st : List Value} {a1 a2 a3 a4 a5 : Option Value} {z : Nat} : Rs L xs (d) 388 3 [some (.ref z), a1, a2, a3, a4, a5] st M x = Rs L xs (d) 388 4 [some (.ref z), a1, a2, a3, a4, a5] (.ref z :: st) M x := Rs_next c388_3 rfl
theorem c388_4 : qx_code 388 4 = some (4, .iload_n 1, 5, 0, 0, 0) := by decide +kernel
theorem s388_4 {L : Nat} {xs : Nat → Int32} {d x : Nat} {M : qxM} {st : List Value} {a0 a2 a3 a4 a5 : Option Value} {z : Int32} : Rs L xs (d) 388 4 [a0, some (.int z), a2, a3, a4, a5] st M x = Rs L xs (d) 388 5 [a0, some (.int z), a2, a3, a4, a5] (.int z :: st) M x := Rs_next c388_4 rfl
theorem c388_5 : qx_code 388 5 = some (5, .iload_n 2, 6, 0, 0, 0) := by decide +kernel
theorem s388_5 {L : Nat} {xs : Nat → Int32} {d x : Nat} {M : qxM} {st : List Value} {a0 a1 a3 a4 a5 : Option Value} {z : Int32} : Rs L xs (d) 388 5 [a0, a1, some (.int z), a3, a4, a5] st M x = Rs L xs (d) 388 6 [a0, a1, some (.int z), a3, a4, a5] (.int z :: st) M x := Rs_next c388_5 rfl
theorem c388_6 : qx_code 388 6 = some (6, .iload_n 3, 7, 0, 0, 0) := by decide +kernel
theorem s388_6 {L : Nat} {xs : Nat → Int32} {d x : Nat} {M : qxM} {st : List Value} {a0 a1 a2 a4 a5 : Option Value} {z : Int32} : Rs L xs (d) 388 6 [a0, a1, a2, some (.int z), a4, a5] st M x = Rs L xs (d) 388 7 [a0, a1, a2, some (.int z), a4, a5] (.int z :: st) M x := Rs_next c388_6 rfl
theorem c388_7 : qx_code 388 7 = some (7, .invokevirtual 184, 10, 152, 4, 1489) := by decide +kernel
theorem s388_7 {L : Nat} {xs : Nat → Int32} {d x : Nat} {M : qxM} {st : List Value} {ls : qxL} {t : Nat} {z0 : Int32} {z1 : Int32} {z2 : Int32} (hk : qx_kd t = 17) (hs : st.length ≤ 4) : Rs L xs (d + 1) 388 7 ls (.int z2 :: .int z1 :: .int z0 :: .ref t :: st) M x = (Rs L xs d 152 0 [some (.ref t), some (.int z0), some (.int z1), some (.int z2)] [] M 0).bind (qx_kn L xs (d + 1) 388 7 10 152 ls st x) := by
  have h1 : qx_act L xs (qx_rt 388) (7, .invokevirtual 184, 10, 152, 4, 1489) ls (.int z2 :: .int z1 :: .int z0 :: .ref t :: st) M = if 4 ≤ (.int z2 :: .int z1 :: .int z0 :: .ref t :: st).length ∧ st.length ≤ 4 then some (.inr (.inr (.inr (152, [.ref t, .int z0, .int z1, .int z2], st)))) else none := rfl
  rw [if_pos ⟨by simp [List.length_cons]; try omega, hs⟩] at h1
  have h2 := qx_kd_obj (k := 7) (by decide) hk
  exact Rs_call c388_7 h1 (by rw [show qx_args 152 [.ref t, .int z0, .int z1, .int z2] = decide (qx_sh t = some (.inl 7)) from rfl]; exact decide_eq_true h2)
theorem c388_10 : qx_code 388 10 = some (10, .i2l, 11, 0, 0, 0) := by decide +kernel
theorem s388_10 {L : Nat} {xs : Nat → Int32} {d x : Nat} {M : qxM} {st : List Value} {ls : qxL} {z : Int32} : Rs L xs (d) 388 10 ls (.int z :: st) M x = Rs L xs (d) 388 11 ls (.long z.toInt64 :: st) M x := Rs_next c388_10 rfl
theorem c388_11 : qx_code 388 11 = some (11, .lastore, 12, 0, 0, 0) := by decide +kernel
theorem s388_11 {L : Nat} {xs : Nat → Int32} {d x : Nat} {M : qxM} {st : List Value} {ls : qxL} {t : Nat} {j : Int32} {z : Int64} (hk : qx_kd t = 4) (hj : qx_ib j (qx_ln t) = true) : Rs L xs (d) 388 11 ls (.long z :: .int j :: .ref t :: st) M x = Rs L xs (d) 388 12 ls st ((M.1, vp_updL M.2.1 j.toNatClampNeg z, M.2.2)) x := by
  have h1 := qx_kd_row (k := 4) (by decide) hk
  exact Rs_unless (qx_ib_not hj) c388_11 (by unfold qx_act; dsimp only; rw [h1]; rfl)
theorem c388_12 : qx_code 388 12 = some (12, .goto 15, 15, 27, 0, 0) := by decide +kernel
theorem s388_12 {L : Nat} {xs : Nat → Int32} {d x : Nat} {M : qxM} {st : List Value} {ls : qxL} : Rs L xs (d) 388 12 ls st M x = Rs L xs (d) 388 27 ls st M x := Rs_next c388_12 rfl
theorem c388_15 : qx_code 388 15 = some (15, .astore 5, 17, 0, 0, 0) := by decide +kernel
theorem s388_15i {L : Nat} {xs : Nat → Int32} {d x : Nat} {M : qxM} {st : List Value} {a0 a1 a2 a3 a5 : Option Value} {z : Nat} {y : Int32} : Rs L xs (d) 388 15 [a0, a1, a2, a3, some (.int y), a5] (.ref z :: st) M x = Rs L xs (d) 388 17 [a0, a1, a2, a3, some (.int y), some (.ref z)] st M x := Rs_next c388_15 rfl
theorem s388_15r {L : Nat} {xs : Nat → Int32} {d x : Nat} {M : qxM} {st : List Value} {a0 a1 a2 a3 a5 : Option Value} {z : Nat} {y : Nat} : Rs L xs (d) 388 15 [a0, a1, a2, a3, some (.ref y), a5] (.ref z :: st) M x = Rs L xs (d) 388 17 [a0, a1, a2, a3, some (.ref y), some (.ref z)] st M x := Rs_next c388_15 rfl
theorem s388_15n {L : Nat} {xs : Nat → Int32} {d x : Nat} {M : qxM} {st : List Value} {a0 a1 a2 a3 a5 : Option Value} {z : Nat} : Rs L xs (d) 388 15 [a0, a1, a2, a3, none, a5] (.ref z :: st) M x = Rs L xs (d) 388 17 [a0, a1, a2, a3, none, some (.ref z)] st M x := Rs_next c388_15 rfl
theorem c388_17 : qx_code 388 17 = some (17, .iconst 1, 18, 0, 0, 0) := by decide +kernel
theorem s388_17 {L : Nat} {xs : Nat → Int32} {d x : Nat} {M : qxM} {st : List Value} {ls : qxL} : Rs L xs (d) 388 17 ls st M x = Rs L xs (d) 388 18 ls (.int (nI 1) :: st) M x := Rs_next c388_17 rfl
theorem c388_18 : qx_code 388 18 = some (18, .ireturn, 19, 0, 0, 0) := by decide +kernel
theorem s388_18 {L : Nat} {xs : Nat → Int32} {d x : Nat} {M : qxM} {ls : qxL} {z : Int32} : Rs L xs (d) 388 18 ls [.int z] M x = some (.inl (some (.int z)), M, x) := Rs_ret c388_18 rfl
theorem c388_19 : qx_code 388 19 = some (19, .astore 5, 21, 0, 0, 0) := by decide +kernel
theorem s388_19i {L : Nat} {xs : Nat → Int32} {d x : Nat} {M : qxM} {st : List Value} {a0 a1 a2 a3 a5 : Option Value} {z : Nat} {y : Int32} : Rs L xs (d) 388 19 [a0, a1, a2, a3, some (.int y), a5] (.ref z :: st) M x = Rs L xs (d) 388 21 [a0, a1, a2, a3, some (.int y), some (.ref z)] st M x := Rs_next c388_19 rfl
theorem s388_19r {L : Nat} {xs : Nat → Int32} {d x : Nat} {M : qxM} {st : List Value} {a0 a1 a2 a3 a5 : Option Value} {z : Nat} {y : Nat} : Rs L xs (d) 388 19 [a0, a1, a2, a3, some (.ref y), a5] (.ref z :: st) M x = Rs L xs (d) 388 21 [a0, a1, a2, a3, some (.ref y), some (.ref z)] st M x := Rs_next c388_19 rfl
theorem s388_19n {L : Nat} {xs : Nat → Int32} {d x : Nat} {M : qxM} {st : List Value} {a0 a1 a2 a3 a5 : Option Value} {z : Nat} : Rs L xs (d) 388 19 [a0, a1, a2, a3, none, a5] (.ref z :: st) M x = Rs L xs (d) 388 21 [a0, a1, a2, a3, none, some (.ref z)] st M x := Rs_next c388_19 rfl
theorem c388_21 : qx_code 388 21 = some (21, .iconst 2, 22, 0, 0, 0) := by decide +kernel
theorem s388_21 {L : Nat} {xs : Nat → Int32} {d x : Nat} {M : qxM} {st : List Value} {ls : qxL} : Rs L xs (d) 388 21 ls st M x = Rs L xs (d) 388 22 ls (.int (nI 2) :: st) M x := Rs_next c388_21 rfl
theorem c388_22 : qx_code 388 22 = some (22, .ireturn, 23, 0, 0, 0) := by decide +kernel
theorem s388_22 {L : Nat} {xs : Nat → Int32} {d x : Nat} {M : qxM} {ls : qxL} {z : Int32} : Rs L xs (d) 388 22 ls [.int z] M x = some (.inl (some (.int z)), M, x) := Rs_ret c388_22 rfl
theorem c388_23 : qx_code 388 23 = some (23, .astore 5, 25, 0, 0, 0) := by decide +kernel
theorem s388_23i {L : Nat} {xs : Nat → Int32} {d x : Nat} {M : qxM} {st : List Value} {a0 a1 a2 a3 a5 : Option Value} {z : Nat} {y : Int32} : Rs L xs (d) 388 23 [a0, a1, a2, a3, some (.int y), a5] (.ref z :: st) M x = Rs L xs (d) 388 25 [a0, a1, a2, a3, some (.int y), some (.ref z)] st M x := Rs_next c388_23 rfl
theorem s388_23r {L : Nat} {xs : Nat → Int32} {d x : Nat} {M : qxM} {st : List Value} {a0 a1 a2 a3 a5 : Option Value} {z : Nat} {y : Nat} : Rs L xs (d) 388 23 [a0, a1, a2, a3, some (.ref y), a5] (.ref z :: st) M x = Rs L xs (d) 388 25 [a0, a1, a2, a3, some (.ref y), some (.ref z)] st M x := Rs_next c388_23 rfl
theorem s388_23n {L : Nat} {xs : Nat → Int32} {d x : Nat} {M : qxM} {st : List Value} {a0 a1 a2 a3 a5 : Option Value} {z : Nat} : Rs L xs (d) 388 23 [a0, a1, a2, a3, none, a5] (.ref z :: st) M x = Rs L xs (d) 388 25 [a0, a1, a2, a3, none, some (.ref z)] st M x := Rs_next c388_23 rfl
theorem c388_25 : qx_code 388 25 = some (25, .iconst 3, 26, 0, 0, 0) := by decide +kernel
theorem s388_25 {L : Nat} {xs : Nat → Int32} {d x : Nat} {M : qxM} {st : List Value} {ls : qxL} : Rs L xs (d) 388 25 ls st M x = Rs L xs (d) 388 26 ls (.int (nI 3) :: st) M x := Rs_next c388_25 rfl
theorem c388_26 : qx_code 388 26 = some (26, .ireturn, 27, 0, 0, 0) := by decide +kernel
theorem s388_26 {L : Nat} {xs : Nat → Int32} {d x : Nat} {M : qxM} {ls : qxL} {z : Int32} : Rs L xs (d) 388 26 ls [.int z] M x = some (.inl (some (.int z)), M, x) := Rs_ret c388_26 rfl
theorem c388_27 : qx_code 388 27 = some (27, .iconst 0, 28, 0, 0, 0) := by decide +kernel
theorem s388_27 {L : Nat} {xs : Nat → Int32} {d x : Nat} {M : qxM} {st : List Value} {ls : qxL} : Rs L xs (d) 388 27 ls st M x = Rs L xs (d) 388 28 ls (.int (nI 0) :: st) M x := Rs_next c388_27 rfl
theorem c388_28 : qx_code 388 28 = some (28, .ireturn, 29, 0, 0, 0) := by decide +kernel
theorem s388_28 {L : Nat} {xs : Nat → Int32} {d x : Nat} {M : qxM} {ls : qxL} {z : Int32} : Rs L xs (d) 388 28 ls [.int z] M x = some (.inl (some (.int z)), M, x) := Rs_ret c388_28 rfl
theorem c389_0 : qx_code 389 0 = some (0, .aload_n 3, 1, 0, 0, 0) := by decide +kernel
theorem s389_0 {L : Nat} {xs : Nat → Int32} {d x : Nat} {M : qxM} {st : List Value} {a0 a1 a2 a4 : Option Value} {z : Nat} : Rs L xs (d) 389 0 [a0, a1, a2, some (.ref z), a4] st M x = Rs L xs (d) 389 1 [a0, a1, a2, some (.ref z), a4] (.ref z :: st) M x := Rs_next c389_0 rfl
theorem c389_1 : qx_code 389 1 = some (1, .iconst 0, 2, 0, 0, 0) := by decide +kernel
theorem s389_1 {L : Nat} {xs : Nat → Int32} {d x : Nat} {M : qxM} {st : List Value} {ls : qxL} : Rs L xs (d) 389 1 ls st M x = Rs L xs (d) 389 2 ls (.int (nI 0) :: st) M x := Rs_next c389_1 rfl
theorem c389_2 : qx_code 389 2 = some (2, .aload_n 0, 3, 0, 0, 0) := by decide +kernel
theorem s389_2 {L : Nat} {xs : Nat → Int32} {d x : Nat} {M : qxM} {st : List Value} {a1 a2 a3 a4 : Option Value} {z : Nat} : Rs L xs (d) 389 2 [some (.ref z), a1, a2, a3, a4] st M x = Rs L xs (d) 389 3 [some (.ref z), a1, a2, a3, a4] (.ref z :: st) M x := Rs_next c389_2 rfl
theorem c389_3 : qx_code 389 3 = some (3, .iload_n 1, 4, 0, 0, 0) := by decide +kernel
theorem s389_3 {L : Nat} {xs : Nat → Int32} {d x : Nat} {M : qxM} {st : List Value} {a0 a2 a3 a4 : Option Value} {z : Int32} : Rs L xs (d) 389 3 [a0, some (.int z), a2, a3, a4] st M x = Rs L xs (d) 389 4 [a0, some (.int z), a2, a3, a4] (.int z :: st) M x := Rs_next c389_3 rfl
theorem c389_4 : qx_code 389 4 = some (4, .iload_n 2, 5, 0, 0, 0) := by decide +kernel
theorem s389_4 {L : Nat} {xs : Nat → Int32} {d x : Nat} {M : qxM} {st : List Value} {a0 a1 a3 a4 : Option Value} {z : Int32} : Rs L xs (d) 389 4 [a0, a1, some (.int z), a3, a4] st M x = Rs L xs (d) 389 5 [a0, a1, some (.int z), a3, a4] (.int z :: st) M x := Rs_next c389_4 rfl
theorem c389_5 : qx_code 389 5 = some (5, .invokevirtual 188, 8, 153, 3, 1499) := by decide +kernel
theorem s389_5 {L : Nat} {xs : Nat → Int32} {d x : Nat} {M : qxM} {st : List Value} {ls : qxL} {t : Nat} {z0 : Int32} {z1 : Int32} (hk : qx_kd t = 17) (hs : st.length ≤ 4) : Rs L xs (d + 1) 389 5 ls (.int z1 :: .int z0 :: .ref t :: st) M x = (Rs L xs d 153 0 [some (.ref t), some (.int z0), some (.int z1), none] [] M 0).bind (qx_kn L xs (d + 1) 389 5 8 153 ls st x) := by
  have h1 : qx_act L xs (qx_rt 389) (5, .invokevirtual 188, 8, 153, 3, 1499) ls (.int z1 :: .int z0 :: .ref t :: st) M = if 3 ≤ (.int z1 :: .int z0 :: .ref t :: st).length ∧ st.length ≤ 4 then some (.inr (.inr (.inr (153, [.ref t, .int z0, .int z1], st)))) else none := rfl
  rw [if_pos ⟨by simp [List.length_cons]; try omega, hs⟩] at h1
  have h2 := qx_kd_obj (k := 7) (by decide) hk
  exact Rs_call c389_5 h1 (by rw [show qx_args 153 [.ref t, .int z0, .int z1] = decide (qx_sh t = some (.inl 7)) from rfl]; exact decide_eq_true h2)
theorem c389_8 : qx_code 389 8 = some (8, .i2l, 9, 0, 0, 0) := by decide +kernel
theorem s389_8 {L : Nat} {xs : Nat → Int32} {d x : Nat} {M : qxM} {st : List Value} {ls : qxL} {z : Int32} : Rs L xs (d) 389 8 ls (.int z :: st) M x = Rs L xs (d) 389 9 ls (.long z.toInt64 :: st) M x := Rs_next c389_8 rfl
theorem c389_9 : qx_code 389 9 = some (9, .lastore, 10, 0, 0, 0) := by decide +kernel
theorem s389_9 {L : Nat} {xs : Nat → Int32} {d x : Nat} {M : qxM} {st : List Value} {ls : qxL} {t : Nat} {j : Int32} {z : Int64} (hk : qx_kd t = 4) (hj : qx_ib j (qx_ln t) = true) : Rs L xs (d) 389 9 ls (.long z :: .int j :: .ref t :: st) M x = Rs L xs (d) 389 10 ls st ((M.1, vp_updL M.2.1 j.toNatClampNeg z, M.2.2)) x := by
  have h1 := qx_kd_row (k := 4) (by decide) hk
  exact Rs_unless (qx_ib_not hj) c389_9 (by unfold qx_act; dsimp only; rw [h1]; rfl)
theorem c389_10 : qx_code 389 10 = some (10, .goto 15, 13, 25, 0, 0) := by decide +kernel
theorem s389_10 {L : Nat} {xs : Nat → Int32} {d x : Nat} {M : qxM} {st : List Value} {ls : qxL} : Rs L xs (d) 389 10 ls st M x = Rs L xs (d) 389 25 ls st M x := Rs_next c389_10 rfl
theorem c389_13 : qx_code 389 13 = some (13, .astore 4, 15, 0, 0, 0) := by decide +kernel
theorem s389_13i {L : Nat} {xs : Nat → Int32} {d x : Nat} {M : qxM} {st : List Value} {a0 a1 a2 a4 : Option Value} {z : Nat} {y : Int32} : Rs L xs (d) 389 13 [a0, a1, a2, some (.int y), a4] (.ref z :: st) M x = Rs L xs (d) 389 15 [a0, a1, a2, some (.int y), some (.ref z)] st M x := Rs_next c389_13 rfl
theorem s389_13r {L : Nat} {xs : Nat → Int32} {d x : Nat} {M : qxM} {st : List Value} {a0 a1 a2 a4 : Option Value} {z : Nat} {y : Nat} : Rs L xs (d) 389 13 [a0, a1, a2, some (.ref y), a4] (.ref z :: st) M x = Rs L xs (d) 389 15 [a0, a1, a2, some (.ref y), some (.ref z)] st M x := Rs_next c389_13 rfl
theorem s389_13n {L : Nat} {xs : Nat → Int32} {d x : Nat} {M : qxM} {st : List Value} {a0 a1 a2 a4 : Option Value} {z : Nat} : Rs L xs (d) 389 13 [a0, a1, a2, none, a4] (.ref z :: st) M x = Rs L xs (d) 389 15 [a0, a1, a2, none, some (.ref z)] st M x := Rs_next c389_13 rfl
theorem c389_15 : qx_code 389 15 = some (15, .iconst 1, 16, 0, 0, 0) := by decide +kernel
theorem s389_15 {L : Nat} {xs : Nat → Int32} {d x : Nat} {M : qxM} {st : List Value} {ls : qxL} : Rs L xs (d) 389 15 ls st M x = Rs L xs (d) 389 16 ls (.int (nI 1) :: st) M x := Rs_next c389_15 rfl
theorem c389_16 : qx_code 389 16 = some (16, .ireturn, 17, 0, 0, 0) := by decide +kernel
theorem s389_16 {L : Nat} {xs : Nat → Int32} {d x : Nat} {M : qxM} {ls : qxL} {z : Int32} : Rs L xs (d) 389 16 ls [.int z] M x = some (.inl (some (.int z)), M, x) := Rs_ret c389_16 rfl
theorem c389_17 : qx_code 389 17 = some (17, .astore 4, 19, 0, 0, 0) := by decide +kernel
theorem s389_17i {L : Nat} {xs : Nat → Int32} {d x : Nat} {M : qxM} {st : List Value} {a0 a1 a2 a4 : Option Value} {z : Nat} {y : Int32} : Rs L xs (d) 389 17 [a0, a1, a2, some (.int y), a4] (.ref z :: st) M x = Rs L xs (d) 389 19 [a0, a1, a2, some (.int y), some (.ref z)] st M x := Rs_next c389_17 rfl
theorem s389_17r {L : Nat} {xs : Nat → Int32} {d x : Nat} {M : qxM} {st : List Value} {a0 a1 a2 a4 : Option Value} {z : Nat} {y : Nat} : Rs L xs (d) 389 17 [a0, a1, a2, some (.ref y), a4] (.ref z :: st) M x = Rs L xs (d) 389 19 [a0, a1, a2, some (.ref y), some (.ref z)] st M x := Rs_next c389_17 rfl
theorem s389_17n {L : Nat} {xs : Nat → Int32} {d x : Nat} {M : qxM} {st : List Value} {a0 a1 a2 a4 : Option Value} {z : Nat} : Rs L xs (d) 389 17 [a0, a1, a2, none, a4] (.ref z :: st) M x = Rs L xs (d) 389 19 [a0, a1, a2, none, some (.ref z)] st M x := Rs_next c389_17 rfl
theorem c389_19 : qx_code 389 19 = some (19, .iconst 2, 20, 0, 0, 0) := by decide +kernel
theorem s389_19 {L : Nat} {xs : Nat → Int32} {d x : Nat} {M : qxM} {st : List Value} {ls : qxL} : Rs L xs (d) 389 19 ls st M x = Rs L xs (d) 389 20 ls (.int (nI 2) :: st) M x := Rs_next c389_19 rfl
theorem c389_20 : qx_code 389 20 = some (20, .ireturn, 21, 0, 0, 0) := by decide +kernel
theorem s389_20 {L : Nat} {xs : Nat → Int32} {d x : Nat} {M : qxM} {ls : qxL} {z : Int32} : Rs L xs (d) 389 20 ls [.int z] M x = some (.inl (some (.int z)), M, x) := Rs_ret c389_20 rfl
theorem c389_21 : qx_code 389 21 = some (21, .astore 4, 23, 0, 0, 0) := by decide +kernel
theorem s389_21i {L : Nat} {xs : Nat → Int32} {d x : Nat} {M : qxM} {st : List Value} {a0 a1 a2 a4 : Option Value} {z : Nat} {y : Int32} : Rs L xs (d) 389 21 [a0, a1, a2, some (.int y), a4] (.ref z :: st) M x = Rs L xs (d) 389 23 [a0, a1, a2, some (.int y), some (.ref z)] st M x := Rs_next c389_21 rfl
theorem s389_21r {L : Nat} {xs : Nat → Int32} {d x : Nat} {M : qxM} {st : List Value} {a0 a1 a2 a4 : Option Value} {z : Nat} {y : Nat} : Rs L xs (d) 389 21 [a0, a1, a2, some (.ref y), a4] (.ref z :: st) M x = Rs L xs (d) 389 23 [a0, a1, a2, some (.ref y), some (.ref z)] st M x := Rs_next c389_21 rfl
theorem s389_21n {L : Nat} {xs : Nat → Int32} {d x : Nat} {M : qxM} {st : List Value} {a0 a1 a2 a4 : Option Value} {z : Nat} : Rs L xs (d) 389 21 [a0, a1, a2, none, a4] (.ref z :: st) M x = Rs L xs (d) 389 23 [a0, a1, a2, none, some (.ref z)] st M x := Rs_next c389_21 rfl
theorem c389_23 : qx_code 389 23 = some (23, .iconst 3, 24, 0, 0, 0) := by decide +kernel
theorem s389_23 {L : Nat} {xs : Nat → Int32} {d x : Nat} {M : qxM} {st : List Value} {ls : qxL} : Rs L xs (d) 389 23 ls st M x = Rs L xs (d) 389 24 ls (.int (nI 3) :: st) M x := Rs_next c389_23 rfl
theorem c389_24 : qx_code 389 24 = some (24, .ireturn, 25, 0, 0, 0) := by decide +kernel
theorem s389_24 {L : Nat} {xs : Nat → Int32} {d x : Nat} {M : qxM} {ls : qxL} {z : Int32} : Rs L xs (d) 389 24 ls [.int z] M x = some (.inl (some (.int z)), M, x) := Rs_ret c389_24 rfl
theorem c389_25 : qx_code 389 25 = some (25, .iconst 0, 26, 0, 0, 0) := by decide +kernel
theorem s389_25 {L : Nat} {xs : Nat → Int32} {d x : Nat} {M : qxM} {st : List Value} {ls : qxL} : Rs L xs (d) 389 25 ls st M x = Rs L xs (d) 389 26 ls (.int (nI 0) :: st) M x := Rs_next c389_25 rfl
theorem c389_26 : qx_code 389 26 = some (26, .ireturn, 27, 0, 0, 0) := by decide +kernel
theorem s389_26 {L : Nat} {xs : Nat → Int32} {d x : Nat} {M : qxM} {ls : qxL} {z : Int32} : Rs L xs (d) 389 26 ls [.int z] M x = some (.inl (some (.int z)), M, x) := Rs_ret c389_26 rfl
theorem c390_0 : qx_code 390 0 = some (0, .aload_n 2, 1, 0, 0, 0) := by decide +kernel
theorem s390_0 {L : Nat} {xs : Nat → Int32} {d x : Nat} {M : qxM} {st : List Value} {a0 a1 a3 : Option Value} {z : Nat} : Rs L xs (d) 390 0 [a0, a1, some (.ref z), a3] st M x = Rs L xs (d) 390 1 [a0, a1, some (.ref z), a3] (.ref z :: st) M x := Rs_next c390_0 rfl
theorem c390_1 : qx_code 390 1 = some (1, .iconst 0, 2, 0, 0, 0) := by decide +kernel
theorem s390_1 {L : Nat} {xs : Nat → Int32} {d x : Nat} {M : qxM} {st : List Value} {ls : qxL} : Rs L xs (d) 390 1 ls st M x = Rs L xs (d) 390 2 ls (.int (nI 0) :: st) M x := Rs_next c390_1 rfl
theorem c390_2 : qx_code 390 2 = some (2, .aload_n 0, 3, 0, 0, 0) := by decide +kernel
theorem s390_2 {L : Nat} {xs : Nat → Int32} {d x : Nat} {M : qxM} {st : List Value} {a1 a2 a3 : Option Value} {z : Nat} : Rs L xs (d) 390 2 [some (.ref z), a1, a2, a3] st M x = Rs L xs (d) 390 3 [some (.ref z), a1, a2, a3] (.ref z :: st) M x := Rs_next c390_2 rfl
theorem c390_3 : qx_code 390 3 = some (3, .iload_n 1, 4, 0, 0, 0) := by decide +kernel
theorem s390_3 {L : Nat} {xs : Nat → Int32} {d x : Nat} {M : qxM} {st : List Value} {a0 a2 a3 : Option Value} {z : Int32} : Rs L xs (d) 390 3 [a0, some (.int z), a2, a3] st M x = Rs L xs (d) 390 4 [a0, some (.int z), a2, a3] (.int z :: st) M x := Rs_next c390_3 rfl
theorem c390_4 : qx_code 390 4 = some (4, .invokevirtual 191, 7, 154, 2, 1507) := by decide +kernel
theorem s390_4 {L : Nat} {xs : Nat → Int32} {d x : Nat} {M : qxM} {st : List Value} {ls : qxL} {t : Nat} {z0 : Int32} (hk : qx_kd t = 17) (hs : st.length ≤ 4) : Rs L xs (d + 1) 390 4 ls (.int z0 :: .ref t :: st) M x = (Rs L xs d 154 0 [some (.ref t), some (.int z0), none] [] M 0).bind (qx_kn L xs (d + 1) 390 4 7 154 ls st x) := by
  have h1 : qx_act L xs (qx_rt 390) (4, .invokevirtual 191, 7, 154, 2, 1507) ls (.int z0 :: .ref t :: st) M = if 2 ≤ (.int z0 :: .ref t :: st).length ∧ st.length ≤ 4 then some (.inr (.inr (.inr (154, [.ref t, .int z0], st)))) else none := rfl
  rw [if_pos ⟨by simp [List.length_cons]; try omega, hs⟩] at h1
  have h2 := qx_kd_obj (k := 7) (by decide) hk
  exact Rs_call c390_4 h1 (by rw [show qx_args 154 [.ref t, .int z0] = decide (qx_sh t = some (.inl 7)) from rfl]; exact decide_eq_true h2)
theorem c390_7 : qx_code 390 7 = some (7, .i2l, 8, 0, 0, 0) := by decide +kernel
theorem s390_7 {L : Nat} {xs : Nat → Int32} {d x : Nat} {M : qxM} {st : List Value} {ls : qxL} {z : Int32} : Rs L xs (d) 390 7 ls (.int z :: st) M x = Rs L xs (d) 390 8 ls (.long z.toInt64 :: st) M x := Rs_next c390_7 rfl
theorem c390_8 : qx_code 390 8 = some (8, .lastore, 9, 0, 0, 0) := by decide +kernel
theorem s390_8 {L : Nat} {xs : Nat → Int32} {d x : Nat} {M : qxM} {st : List Value} {ls : qxL} {t : Nat} {j : Int32} {z : Int64} (hk : qx_kd t = 4) (hj : qx_ib j (qx_ln t) = true) : Rs L xs (d) 390 8 ls (.long z :: .int j :: .ref t :: st) M x = Rs L xs (d) 390 9 ls st ((M.1, vp_updL M.2.1 j.toNatClampNeg z, M.2.2)) x := by
  have h1 := qx_kd_row (k := 4) (by decide) hk
  exact Rs_unless (qx_ib_not hj) c390_8 (by unfold qx_act; dsimp only; rw [h1]; rfl)
theorem c390_9 : qx_code 390 9 = some (9, .goto 9, 12, 18, 0, 0) := by decide +kernel
theorem s390_9 {L : Nat} {xs : Nat → Int32} {d x : Nat} {M : qxM} {st : List Value} {ls : qxL} : Rs L xs (d) 390 9 ls st M x = Rs L xs (d) 390 18 ls st M x := Rs_next c390_9 rfl
theorem c390_12 : qx_code 390 12 = some (12, .astore_n 3, 13, 0, 0, 0) := by decide +kernel
theorem s390_12i {L : Nat} {xs : Nat → Int32} {d x : Nat} {M : qxM} {st : List Value} {a0 a1 a3 : Option Value} {z : Nat} {y : Int32} : Rs L xs (d) 390 12 [a0, a1, some (.int y), a3] (.ref z :: st) M x = Rs L xs (d) 390 13 [a0, a1, some (.int y), some (.ref z)] st M x := Rs_next c390_12 rfl
theorem s390_12r {L : Nat} {xs : Nat → Int32} {d x : Nat} {M : qxM} {st : List Value} {a0 a1 a3 : Option Value} {z : Nat} {y : Nat} : Rs L xs (d) 390 12 [a0, a1, some (.ref y), a3] (.ref z :: st) M x = Rs L xs (d) 390 13 [a0, a1, some (.ref y), some (.ref z)] st M x := Rs_next c390_12 rfl
theorem s390_12n {L : Nat} {xs : Nat → Int32} {d x : Nat} {M : qxM} {st : List Value} {a0 a1 a3 : Option Value} {z : Nat} : Rs L xs (d) 390 12 [a0, a1, none, a3] (.ref z :: st) M x = Rs L xs (d) 390 13 [a0, a1, none, some (.ref z)] st M x := Rs_next c390_12 rfl
theorem c390_13 : qx_code 390 13 = some (13, .iconst 1, 14, 0, 0, 0) := by decide +kernel
theorem s390_13 {L : Nat} {xs : Nat → Int32} {d x : Nat} {M : qxM} {st : List Value} {ls : qxL} : Rs L xs (d) 390 13 ls st M x = Rs L xs (d) 390 14 ls (.int (nI 1) :: st) M x := Rs_next c390_13 rfl
theorem c390_14 : qx_code 390 14 = some (14, .ireturn, 15, 0, 0, 0) := by decide +kernel
theorem s390_14 {L : Nat} {xs : Nat → Int32} {d x : Nat} {M : qxM} {ls : qxL} {z : Int32} : Rs L xs (d) 390 14 ls [.int z] M x = some (.inl (some (.int z)), M, x) := Rs_ret c390_14 rfl
theorem c390_15 : qx_code 390 15 = some (15, .astore_n 3, 16, 0, 0, 0) := by decide +kernel
theorem s390_15i {L : Nat} {xs : Nat → Int32} {d x : Nat} {M : qxM} {st : List Value} {a0 a1 a3 : Option Value} {z : Nat} {y : Int32} : Rs L xs (d) 390 15 [a0, a1, some (.int y), a3] (.ref z :: st) M x = Rs L xs (d) 390 16 [a0, a1, some (.int y), some (.ref z)] st M x := Rs_next c390_15 rfl
theorem s390_15r {L : Nat} {xs : Nat → Int32} {d x : Nat} {M : qxM} {st : List Value} {a0 a1 a3 : Option Value} {z : Nat} {y : Nat} : Rs L xs (d) 390 15 [a0, a1, some (.ref y), a3] (.ref z :: st) M x = Rs L xs (d) 390 16 [a0, a1, some (.ref y), some (.ref z)] st M x := Rs_next c390_15 rfl
theorem s390_15n {L : Nat} {xs : Nat → Int32} {d x : Nat} {M : qxM} {st : List Value} {a0 a1 a3 : Option Value} {z : Nat} : Rs L xs (d) 390 15 [a0, a1, none, a3] (.ref z :: st) M x = Rs L xs (d) 390 16 [a0, a1, none, some (.ref z)] st M x := Rs_next c390_15 rfl
theorem c390_16 : qx_code 390 16 = some (16, .iconst 2, 17, 0, 0, 0) := by decide +kernel
theorem s390_16 {L : Nat} {xs : Nat → Int32} {d x : Nat} {M : qxM} {st : List Value} {ls : qxL} : Rs L xs (d) 390 16 ls st M x = Rs L xs (d) 390 17 ls (.int (nI 2) :: st) M x := Rs_next c390_16 rfl
theorem c390_17 : qx_code 390 17 = some (17, .ireturn, 18, 0, 0, 0) := by decide +kernel
theorem s390_17 {L : Nat} {xs : Nat → Int32} {d x : Nat} {M : qxM} {ls : qxL} {z : Int32} : Rs L xs (d) 390 17 ls [.int z] M x = some (.inl (some (.int z)), M, x) := Rs_ret c390_17 rfl
theorem c390_18 : qx_code 390 18 = some (18, .iconst 0, 19, 0, 0, 0) := by decide +kernel
theorem s390_18 {L : Nat} {xs : Nat → Int32} {d x : Nat} {M : qxM} {st : List Value} {ls : qxL} : Rs L xs (d) 390 18 ls st M x = Rs L xs (d) 390 19 ls (.int (nI 0) :: st) M x := Rs_next c390_18 rfl
theorem c390_19 : qx_code 390 19 = some (19, .ireturn, 20, 0, 0, 0) := by decide +kernel
theorem s390_19 {L : Nat} {xs : Nat → Int32} {d x : Nat} {M : qxM} {ls : qxL} {z : Int32} : Rs L xs (d) 390 19 ls [.int z] M x = some (.inl (some (.int z)), M, x) := Rs_ret c390_19 rfl
theorem c391_0 : qx_code 391 0 = some (0, .aload_n 1, 1, 0, 0, 0) := by decide +kernel
theorem s391_0 {L : Nat} {xs : Nat → Int32} {d x : Nat} {M : qxM} {st : List Value} {a0 a2 : Option Value} {z : Nat} : Rs L xs (d) 391 0 [a0, some (.ref z), a2] st M x = Rs L xs (d) 391 1 [a0, some (.ref z), a2] (.ref z :: st) M x := Rs_next c391_0 rfl
theorem c391_1 : qx_code 391 1 = some (1, .iconst 0, 2, 0, 0, 0) := by decide +kernel
theorem s391_1 {L : Nat} {xs : Nat → Int32} {d x : Nat} {M : qxM} {st : List Value} {ls : qxL} : Rs L xs (d) 391 1 ls st M x = Rs L xs (d) 391 2 ls (.int (nI 0) :: st) M x := Rs_next c391_1 rfl
theorem c391_2 : qx_code 391 2 = some (2, .aload_n 0, 3, 0, 0, 0) := by decide +kernel
theorem s391_2 {L : Nat} {xs : Nat → Int32} {d x : Nat} {M : qxM} {st : List Value} {a1 a2 : Option Value} {z : Nat} : Rs L xs (d) 391 2 [some (.ref z), a1, a2] st M x = Rs L xs (d) 391 3 [some (.ref z), a1, a2] (.ref z :: st) M x := Rs_next c391_2 rfl
theorem c391_3 : qx_code 391 3 = some (3, .invokevirtual 194, 6, 155, 1, 1514) := by decide +kernel
theorem s391_3 {L : Nat} {xs : Nat → Int32} {d x : Nat} {M : qxM} {st : List Value} {ls : qxL} {t : Nat} (hk : qx_kd t = 17) (hs : st.length ≤ 4) : Rs L xs (d + 1) 391 3 ls (.ref t :: st) M x = (Rs L xs d 155 0 [some (.ref t)] [] M 0).bind (qx_kn L xs (d + 1) 391 3 6 155 ls st x) := by
  have h1 : qx_act L xs (qx_rt 391) (3, .invokevirtual 194, 6, 155, 1, 1514) ls (.ref t :: st) M = if 1 ≤ (.ref t :: st).length ∧ st.length ≤ 4 then some (.inr (.inr (.inr (155, [.ref t], st)))) else none := rfl
  rw [if_pos ⟨by simp [List.length_cons]; try omega, hs⟩] at h1
  have h2 := qx_kd_obj (k := 7) (by decide) hk
  exact Rs_call c391_3 h1 (by rw [show qx_args 155 [.ref t] = decide (qx_sh t = some (.inl 7)) from rfl]; exact decide_eq_true h2)
theorem c391_6 : qx_code 391 6 = some (6, .i2l, 7, 0, 0, 0) := by decide +kernel
theorem s391_6 {L : Nat} {xs : Nat → Int32} {d x : Nat} {M : qxM} {st : List Value} {ls : qxL} {z : Int32} : Rs L xs (d) 391 6 ls (.int z :: st) M x = Rs L xs (d) 391 7 ls (.long z.toInt64 :: st) M x := Rs_next c391_6 rfl
theorem c391_7 : qx_code 391 7 = some (7, .lastore, 8, 0, 0, 0) := by decide +kernel
theorem s391_7 {L : Nat} {xs : Nat → Int32} {d x : Nat} {M : qxM} {st : List Value} {ls : qxL} {t : Nat} {j : Int32} {z : Int64} (hk : qx_kd t = 4) (hj : qx_ib j (qx_ln t) = true) : Rs L xs (d) 391 7 ls (.long z :: .int j :: .ref t :: st) M x = Rs L xs (d) 391 8 ls st ((M.1, vp_updL M.2.1 j.toNatClampNeg z, M.2.2)) x := by
  have h1 := qx_kd_row (k := 4) (by decide) hk
  exact Rs_unless (qx_ib_not hj) c391_7 (by unfold qx_act; dsimp only; rw [h1]; rfl)
theorem c391_8 : qx_code 391 8 = some (8, .goto 6, 11, 14, 0, 0) := by decide +kernel
theorem s391_8 {L : Nat} {xs : Nat → Int32} {d x : Nat} {M : qxM} {st : List Value} {ls : qxL} : Rs L xs (d) 391 8 ls st M x = Rs L xs (d) 391 14 ls st M x := Rs_next c391_8 rfl
theorem c391_11 : qx_code 391 11 = some (11, .astore_n 2, 12, 0, 0, 0) := by decide +kernel
theorem s391_11i {L : Nat} {xs : Nat → Int32} {d x : Nat} {M : qxM} {st : List Value} {a0 a2 : Option Value} {z : Nat} {y : Int32} : Rs L xs (d) 391 11 [a0, some (.int y), a2] (.ref z :: st) M x = Rs L xs (d) 391 12 [a0, some (.int y), some (.ref z)] st M x := Rs_next c391_11 rfl
theorem s391_11r {L : Nat} {xs : Nat → Int32} {d x : Nat} {M : qxM} {st : List Value} {a0 a2 : Option Value} {z : Nat} {y : Nat} : Rs L xs (d) 391 11 [a0, some (.ref y), a2] (.ref z :: st) M x = Rs L xs (d) 391 12 [a0, some (.ref y), some (.ref z)] st M x := Rs_next c391_11 rfl
theorem s391_11n {L : Nat} {xs : Nat → Int32} {d x : Nat} {M : qxM} {st : List Value} {a0 a2 : Option Value} {z : Nat} : Rs L xs (d) 391 11 [a0, none, a2] (.ref z :: st) M x = Rs L xs (d) 391 12 [a0, none, some (.ref z)] st M x := Rs_next c391_11 rfl
theorem c391_12 : qx_code 391 12 = some (12, .iconst 1, 13, 0, 0, 0) := by decide +kernel
theorem s391_12 {L : Nat} {xs : Nat → Int32} {d x : Nat} {M : qxM} {st : List Value} {ls : qxL} : Rs L xs (d) 391 12 ls st M x = Rs L xs (d) 391 13 ls (.int (nI 1) :: st) M x := Rs_next c391_12 rfl
theorem c391_13 : qx_code 391 13 = some (13, .ireturn, 14, 0, 0, 0) := by decide +kernel
theorem s391_13 {L : Nat} {xs : Nat → Int32} {d x : Nat} {M : qxM} {ls : qxL} {z : Int32} : Rs L xs (d) 391 13 ls [.int z] M x = some (.inl (some (.int z)), M, x) := Rs_ret c391_13 rfl
theorem c391_14 : qx_code 391 14 = some (14, .iconst 0, 15, 0, 0, 0) := by decide +kernel
theorem s391_14 {L : Nat} {xs : Nat → Int32} {d x : Nat} {M : qxM} {st : List Value} {ls : qxL} : Rs L xs (d) 391 14 ls st M x = Rs L xs (d) 391 15 ls (.int (nI 0) :: st) M x := Rs_next c391_14 rfl
theorem c391_15 : qx_code 391 15 = some (15, .ireturn, 16, 0, 0, 0) := by decide +kernel
theorem s391_15 {L : Nat} {xs : Nat → Int32} {d x : Nat} {M : qxM} {ls : qxL} {z : Int32} : Rs L xs (d) 391 15 ls [.int z] M x = some (.inl (some (.int z)), M, x) := Rs_ret c391_15 rfl
theorem c392_0 : qx_code 392 0 = some (0, .aload_n 2, 1, 0, 0, 0) := by decide +kernel
theorem s392_0 {L : Nat} {xs : Nat → Int32} {d x : Nat} {M : qxM} {st : List Value} {a0 a1 a3 : Option Value} {z : Nat} : Rs L xs (d) 392 0 [a0, a1, some (.ref z), a3] st M x = Rs L xs (d) 392 1 [a0, a1, some (.ref z), a3] (.ref z :: st) M x := Rs_next c392_0 rfl
theorem c392_1 : qx_code 392 1 = some (1, .iconst 0, 2, 0, 0, 0) := by decide +kernel
theorem s392_1 {L : Nat} {xs : Nat → Int32} {d x : Nat} {M : qxM} {st : List Value} {ls : qxL} : Rs L xs (d) 392 1 ls st M x = Rs L xs (d) 392 2 ls (.int (nI 0) :: st) M x := Rs_next c392_1 rfl
theorem c392_2 : qx_code 392 2 = some (2, .aload_n 0, 3, 0, 0, 0) := by decide +kernel
theorem s392_2 {L : Nat} {xs : Nat → Int32} {d x : Nat} {M : qxM} {st : List Value} {a1 a2 a3 : Option Value} {z : Nat} : Rs L xs (d) 392 2 [some (.ref z), a1, a2, a3] st M x = Rs L xs (d) 392 3 [some (.ref z), a1, a2, a3] (.ref z :: st) M x := Rs_next c392_2 rfl
theorem c392_3 : qx_code 392 3 = some (3, .iload_n 1, 4, 0, 0, 0) := by decide +kernel
theorem s392_3 {L : Nat} {xs : Nat → Int32} {d x : Nat} {M : qxM} {st : List Value} {a0 a2 a3 : Option Value} {z : Int32} : Rs L xs (d) 392 3 [a0, some (.int z), a2, a3] st M x = Rs L xs (d) 392 4 [a0, some (.int z), a2, a3] (.int z :: st) M x := Rs_next c392_3 rfl
theorem c392_4 : qx_code 392 4 = some (4, .invokevirtual 197, 7, 157, 2, 1522) := by decide +kernel
theorem s392_4 {L : Nat} {xs : Nat → Int32} {d x : Nat} {M : qxM} {st : List Value} {ls : qxL} {t : Nat} {z0 : Int32} (hk : qx_kd t = 17) (hs : st.length ≤ 4) : Rs L xs (d + 1) 392 4 ls (.int z0 :: .ref t :: st) M x = (Rs L xs d 157 0 [some (.ref t), some (.int z0)] [] M 0).bind (qx_kn L xs (d + 1) 392 4 7 157 ls st x) := by
  have h1 : qx_act L xs (qx_rt 392) (4, .invokevirtual 197, 7, 157, 2, 1522) ls (.int z0 :: .ref t :: st) M = if 2 ≤ (.int z0 :: .ref t :: st).length ∧ st.length ≤ 4 then some (.inr (.inr (.inr (157, [.ref t, .int z0], st)))) else none := rfl
  rw [if_pos ⟨by simp [List.length_cons]; try omega, hs⟩] at h1
  have h2 := qx_kd_obj (k := 7) (by decide) hk
  exact Rs_call c392_4 h1 (by rw [show qx_args 157 [.ref t, .int z0] = decide (qx_sh t = some (.inl 7)) from rfl]; exact decide_eq_true h2)
theorem c392_7 : qx_code 392 7 = some (7, .i2l, 8, 0, 0, 0) := by decide +kernel
theorem s392_7 {L : Nat} {xs : Nat → Int32} {d x : Nat} {M : qxM} {st : List Value} {ls : qxL} {z : Int32} : Rs L xs (d) 392 7 ls (.int z :: st) M x = Rs L xs (d) 392 8 ls (.long z.toInt64 :: st) M x := Rs_next c392_7 rfl
theorem c392_8 : qx_code 392 8 = some (8, .lastore, 9, 0, 0, 0) := by decide +kernel
theorem s392_8 {L : Nat} {xs : Nat → Int32} {d x : Nat} {M : qxM} {st : List Value} {ls : qxL} {t : Nat} {j : Int32} {z : Int64} (hk : qx_kd t = 4) (hj : qx_ib j (qx_ln t) = true) : Rs L xs (d) 392 8 ls (.long z :: .int j :: .ref t :: st) M x = Rs L xs (d) 392 9 ls st ((M.1, vp_updL M.2.1 j.toNatClampNeg z, M.2.2)) x := by
  have h1 := qx_kd_row (k := 4) (by decide) hk
  exact Rs_unless (qx_ib_not hj) c392_8 (by unfold qx_act; dsimp only; rw [h1]; rfl)
theorem c392_9 : qx_code 392 9 = some (9, .goto 9, 12, 18, 0, 0) := by decide +kernel
theorem s392_9 {L : Nat} {xs : Nat → Int32} {d x : Nat} {M : qxM} {st : List Value} {ls : qxL} : Rs L xs (d) 392 9 ls st M x = Rs L xs (d) 392 18 ls st M x := Rs_next c392_9 rfl
theorem c392_12 : qx_code 392 12 = some (12, .astore_n 3, 13, 0, 0, 0) := by decide +kernel
theorem s392_12i {L : Nat} {xs : Nat → Int32} {d x : Nat} {M : qxM} {st : List Value} {a0 a1 a3 : Option Value} {z : Nat} {y : Int32} : Rs L xs (d) 392 12 [a0, a1, some (.int y), a3] (.ref z :: st) M x = Rs L xs (d) 392 13 [a0, a1, some (.int y), some (.ref z)] st M x := Rs_next c392_12 rfl
theorem s392_12r {L : Nat} {xs : Nat → Int32} {d x : Nat} {M : qxM} {st : List Value} {a0 a1 a3 : Option Value} {z : Nat} {y : Nat} : Rs L xs (d) 392 12 [a0, a1, some (.ref y), a3] (.ref z :: st) M x = Rs L xs (d) 392 13 [a0, a1, some (.ref y), some (.ref z)] st M x := Rs_next c392_12 rfl
theorem s392_12n {L : Nat} {xs : Nat → Int32} {d x : Nat} {M : qxM} {st : List Value} {a0 a1 a3 : Option Value} {z : Nat} : Rs L xs (d) 392 12 [a0, a1, none, a3] (.ref z :: st) M x = Rs L xs (d) 392 13 [a0, a1, none, some (.ref z)] st M x := Rs_next c392_12 rfl
theorem c392_13 : qx_code 392 13 = some (13, .iconst 1, 14, 0, 0, 0) := by decide +kernel
theorem s392_13 {L : Nat} {xs : Nat → Int32} {d x : Nat} {M : qxM} {st : List Value} {ls : qxL} : Rs L xs (d) 392 13 ls st M x = Rs L xs (d) 392 14 ls (.int (nI 1) :: st) M x := Rs_next c392_13 rfl
theorem c392_14 : qx_code 392 14 = some (14, .ireturn, 15, 0, 0, 0) := by decide +kernel
theorem s392_14 {L : Nat} {xs : Nat → Int32} {d x : Nat} {M : qxM} {ls : qxL} {z : Int32} : Rs L xs (d) 392 14 ls [.int z] M x = some (.inl (some (.int z)), M, x) := Rs_ret c392_14 rfl
theorem c392_15 : qx_code 392 15 = some (15, .astore_n 3, 16, 0, 0, 0) := by decide +kernel
theorem s392_15i {L : Nat} {xs : Nat → Int32} {d x : Nat} {M : qxM} {st : List Value} {a0 a1 a3 : Option Value} {z : Nat} {y : Int32} : Rs L xs (d) 392 15 [a0, a1, some (.int y), a3] (.ref z :: st) M x = Rs L xs (d) 392 16 [a0, a1, some (.int y), some (.ref z)] st M x := Rs_next c392_15 rfl
theorem s392_15r {L : Nat} {xs : Nat → Int32} {d x : Nat} {M : qxM} {st : List Value} {a0 a1 a3 : Option Value} {z : Nat} {y : Nat} : Rs L xs (d) 392 15 [a0, a1, some (.ref y), a3] (.ref z :: st) M x = Rs L xs (d) 392 16 [a0, a1, some (.ref y), some (.ref z)] st M x := Rs_next c392_15 rfl
theorem s392_15n {L : Nat} {xs : Nat → Int32} {d x : Nat} {M : qxM} {st : List Value} {a0 a1 a3 : Option Value} {z : Nat} : Rs L xs (d) 392 15 [a0, a1, none, a3] (.ref z :: st) M x = Rs L xs (d) 392 16 [a0, a1, none, some (.ref z)] st M x := Rs_next c392_15 rfl
theorem c392_16 : qx_code 392 16 = some (16, .iconst 2, 17, 0, 0, 0) := by decide +kernel
theorem s392_16 {L : Nat} {xs : Nat → Int32} {d x : Nat} {M : qxM} {st : List Value} {ls : qxL} : Rs L xs (d) 392 16 ls st M x = Rs L xs (d) 392 17 ls (.int (nI 2) :: st) M x := Rs_next c392_16 rfl
theorem c392_17 : qx_code 392 17 = some (17, .ireturn, 18, 0, 0, 0) := by decide +kernel
theorem s392_17 {L : Nat} {xs : Nat → Int32} {d x : Nat} {M : qxM} {ls : qxL} {z : Int32} : Rs L xs (d) 392 17 ls [.int z] M x = some (.inl (some (.int z)), M, x) := Rs_ret c392_17 rfl
theorem c392_18 : qx_code 392 18 = some (18, .iconst 0, 19, 0, 0, 0) := by decide +kernel
theorem s392_18 {L : Nat} {xs : Nat → Int32} {d x : Nat} {M : qxM} {st : List Value} {ls : qxL} : Rs L xs (d) 392 18 ls st M x = Rs L xs (d) 392 19 ls (.int (nI 0) :: st) M x := Rs_next c392_18 rfl
theorem c392_19 : qx_code 392 19 = some (19, .ireturn, 20, 0, 0, 0) := by decide +kernel
theorem s392_19 {L : Nat} {xs : Nat → Int32} {d x : Nat} {M : qxM} {ls : qxL} {z : Int32} : Rs L xs (d) 392 19 ls [.int z] M x = some (.inl (some (.int z)), M, x) := Rs_ret c392_19 rfl
theorem c393_0 : qx_code 393 0 = some (0, .aload_n 2, 1, 0, 0, 0) := by decide +kernel
theorem s393_0 {L : Nat} {xs : Nat → Int32} {d x : Nat} {M : qxM} {st : List Value} {a0 a1 a3 : Option Value} {z : Nat} : Rs L xs (d) 393 0 [a0, a1, some (.ref z), a3] st M x = Rs L xs (d) 393 1 [a0, a1, some (.ref z), a3] (.ref z :: st) M x := Rs_next c393_0 rfl
theorem c393_1 : qx_code 393 1 = some (1, .iconst 0, 2, 0, 0, 0) := by decide +kernel
theorem s393_1 {L : Nat} {xs : Nat → Int32} {d x : Nat} {M : qxM} {st : List Value} {ls : qxL} : Rs L xs (d) 393 1 ls st M x = Rs L xs (d) 393 2 ls (.int (nI 0) :: st) M x := Rs_next c393_1 rfl
theorem c393_2 : qx_code 393 2 = some (2, .aload_n 0, 3, 0, 0, 0) := by decide +kernel
theorem s393_2 {L : Nat} {xs : Nat → Int32} {d x : Nat} {M : qxM} {st : List Value} {a1 a2 a3 : Option Value} {z : Nat} : Rs L xs (d) 393 2 [some (.ref z), a1, a2, a3] st M x = Rs L xs (d) 393 3 [some (.ref z), a1, a2, a3] (.ref z :: st) M x := Rs_next c393_2 rfl
theorem c393_3 : qx_code 393 3 = some (3, .iload_n 1, 4, 0, 0, 0) := by decide +kernel
theorem s393_3 {L : Nat} {xs : Nat → Int32} {d x : Nat} {M : qxM} {st : List Value} {a0 a2 a3 : Option Value} {z : Int32} : Rs L xs (d) 393 3 [a0, some (.int z), a2, a3] st M x = Rs L xs (d) 393 4 [a0, some (.int z), a2, a3] (.int z :: st) M x := Rs_next c393_3 rfl
theorem c393_4 : qx_code 393 4 = some (4, .invokevirtual 200, 7, 158, 2, 1534) := by decide +kernel
theorem s393_4 {L : Nat} {xs : Nat → Int32} {d x : Nat} {M : qxM} {st : List Value} {ls : qxL} {t : Nat} {z0 : Int32} (hk : qx_kd t = 17) (hs : st.length ≤ 4) : Rs L xs (d + 1) 393 4 ls (.int z0 :: .ref t :: st) M x = (Rs L xs d 158 0 [some (.ref t), some (.int z0)] [] M 0).bind (qx_kn L xs (d + 1) 393 4 7 158 ls st x) := by
  have h1 : qx_act L xs (qx_rt 393) (4, .invokevirtual 200, 7, 158, 2, 1534) ls (.int z0 :: .ref t :: st) M = if 2 ≤ (.int z0 :: .ref t :: st).length ∧ st.length ≤ 4 then some (.inr (.inr (.inr (158, [.ref t, .int z0], st)))) else none := rfl
  rw [if_pos ⟨by simp [List.length_cons]; try omega, hs⟩] at h1
  have h2 := qx_kd_obj (k := 7) (by decide) hk
  exact Rs_call c393_4 h1 (by rw [show qx_args 158 [.ref t, .int z0] = decide (qx_sh t = some (.inl 7)) from rfl]; exact decide_eq_true h2)
theorem c393_7 : qx_code 393 7 = some (7, .i2l, 8, 0, 0, 0) := by decide +kernel
theorem s393_7 {L : Nat} {xs : Nat → Int32} {d x : Nat} {M : qxM} {st : List Value} {ls : qxL} {z : Int32} : Rs L xs (d) 393 7 ls (.int z :: st) M x = Rs L xs (d) 393 8 ls (.long z.toInt64 :: st) M x := Rs_next c393_7 rfl
theorem c393_8 : qx_code 393 8 = some (8, .lastore, 9, 0, 0, 0) := by decide +kernel
theorem s393_8 {L : Nat} {xs : Nat → Int32} {d x : Nat} {M : qxM} {st : List Value} {ls : qxL} {t : Nat} {j : Int32} {z : Int64} (hk : qx_kd t = 4) (hj : qx_ib j (qx_ln t) = true) : Rs L xs (d) 393 8 ls (.long z :: .int j :: .ref t :: st) M x = Rs L xs (d) 393 9 ls st ((M.1, vp_updL M.2.1 j.toNatClampNeg z, M.2.2)) x := by
  have h1 := qx_kd_row (k := 4) (by decide) hk
  exact Rs_unless (qx_ib_not hj) c393_8 (by unfold qx_act; dsimp only; rw [h1]; rfl)
theorem c393_9 : qx_code 393 9 = some (9, .goto 9, 12, 18, 0, 0) := by decide +kernel
theorem s393_9 {L : Nat} {xs : Nat → Int32} {d x : Nat} {M : qxM} {st : List Value} {ls : qxL} : Rs L xs (d) 393 9 ls st M x = Rs L xs (d) 393 18 ls st M x := Rs_next c393_9 rfl
theorem c393_12 : qx_code 393 12 = some (12, .astore_n 3, 13, 0, 0, 0) := by decide +kernel
theorem s393_12i {L : Nat} {xs : Nat → Int32} {d x : Nat} {M : qxM} {st : List Value} {a0 a1 a3 : Option Value} {z : Nat} {y : Int32} : Rs L xs (d) 393 12 [a0, a1, some (.int y), a3] (.ref z :: st) M x = Rs L xs (d) 393 13 [a0, a1, some (.int y), some (.ref z)] st M x := Rs_next c393_12 rfl
theorem s393_12r {L : Nat} {xs : Nat → Int32} {d x : Nat} {M : qxM} {st : List Value} {a0 a1 a3 : Option Value} {z : Nat} {y : Nat} : Rs L xs (d) 393 12 [a0, a1, some (.ref y), a3] (.ref z :: st) M x = Rs L xs (d) 393 13 [a0, a1, some (.ref y), some (.ref z)] st M x := Rs_next c393_12 rfl
theorem s393_12n {L : Nat} {xs : Nat → Int32} {d x : Nat} {M : qxM} {st : List Value} {a0 a1 a3 : Option Value} {z : Nat} : Rs L xs (d) 393 12 [a0, a1, none, a3] (.ref z :: st) M x = Rs L xs (d) 393 13 [a0, a1, none, some (.ref z)] st M x := Rs_next c393_12 rfl
theorem c393_13 : qx_code 393 13 = some (13, .iconst 1, 14, 0, 0, 0) := by decide +kernel
theorem s393_13 {L : Nat} {xs : Nat → Int32} {d x : Nat} {M : qxM} {st : List Value} {ls : qxL} : Rs L xs (d) 393 13 ls st M x = Rs L xs (d) 393 14 ls (.int (nI 1) :: st) M x := Rs_next c393_13 rfl
theorem c393_14 : qx_code 393 14 = some (14, .ireturn, 15, 0, 0, 0) := by decide +kernel
theorem s393_14 {L : Nat} {xs : Nat → Int32} {d x : Nat} {M : qxM} {ls : qxL} {z : Int32} : Rs L xs (d) 393 14 ls [.int z] M x = some (.inl (some (.int z)), M, x) := Rs_ret c393_14 rfl
theorem c393_15 : qx_code 393 15 = some (15, .astore_n 3, 16, 0, 0, 0) := by decide +kernel
theorem s393_15i {L : Nat} {xs : Nat → Int32} {d x : Nat} {M : qxM} {st : List Value} {a0 a1 a3 : Option Value} {z : Nat} {y : Int32} : Rs L xs (d) 393 15 [a0, a1, some (.int y), a3] (.ref z :: st) M x = Rs L xs (d) 393 16 [a0, a1, some (.int y), some (.ref z)] st M x := Rs_next c393_15 rfl
theorem s393_15r {L : Nat} {xs : Nat → Int32} {d x : Nat} {M : qxM} {st : List Value} {a0 a1 a3 : Option Value} {z : Nat} {y : Nat} : Rs L xs (d) 393 15 [a0, a1, some (.ref y), a3] (.ref z :: st) M x = Rs L xs (d) 393 16 [a0, a1, some (.ref y), some (.ref z)] st M x := Rs_next c393_15 rfl
theorem s393_15n {L : Nat} {xs : Nat → Int32} {d x : Nat} {M : qxM} {st : List Value} {a0 a1 a3 : Option Value} {z : Nat} : Rs L xs (d) 393 15 [a0, a1, none, a3] (.ref z :: st) M x = Rs L xs (d) 393 16 [a0, a1, none, some (.ref z)] st M x := Rs_next c393_15 rfl
theorem c393_16 : qx_code 393 16 = some (16, .iconst 2, 17, 0, 0, 0) := by decide +kernel
theorem s393_16 {L : Nat} {xs : Nat → Int32} {d x : Nat} {M : qxM} {st : List Value} {ls : qxL} : Rs L xs (d) 393 16 ls st M x = Rs L xs (d) 393 17 ls (.int (nI 2) :: st) M x := Rs_next c393_16 rfl
theorem c393_17 : qx_code 393 17 = some (17, .ireturn, 18, 0, 0, 0) := by decide +kernel
theorem s393_17 {L : Nat} {xs : Nat → Int32} {d x : Nat} {M : qxM} {ls : qxL} {z : Int32} : Rs L xs (d) 393 17 ls [.int z] M x = some (.inl (some (.int z)), M, x) := Rs_ret c393_17 rfl
theorem c393_18 : qx_code 393 18 = some (18, .iconst 0, 19, 0, 0, 0) := by decide +kernel
theorem s393_18 {L : Nat} {xs : Nat → Int32} {d x : Nat} {M : qxM} {st : List Value} {ls : qxL} : Rs L xs (d) 393 18 ls st M x = Rs L xs (d) 393 19 ls (.int (nI 0) :: st) M x := Rs_next c393_18 rfl
theorem c393_19 : qx_code 393 19 = some (19, .ireturn, 20, 0, 0, 0) := by decide +kernel
theorem s393_19 {L : Nat} {xs : Nat → Int32} {d x : Nat} {M : qxM} {ls : qxL} {z : Int32} : Rs L xs (d) 393 19 ls [.int z] M x = some (.inl (some (.int z)), M, x) := Rs_ret c393_19 rfl
